theorem d_M_init_0 : decode b_M_init 0 = .ok (.aload_n 0, 1) := by decide +kernel
theorem d_M_init_1 : decode b_M_init 1 = .ok (.invokespecial 1, 3) := by decide +kernel
theorem d_M_init_4 : decode b_M_init 4 = .ok (.aload_n 0, 1) := by decide +kernel
theorem d_M_init_5 : decode b_M_init 5 = .ok (.bipush 121, 2) := by decide +kernel
theorem d_M_init_7 : decode b_M_init 7 = .ok (.newarray .int, 2) := by decide +kernel
theorem d_M_init_9 : decode b_M_init 9 = .ok (.putfield 7, 3) := by decide +kernel
theorem d_M_init_12 : decode b_M_init 12 = .ok (.aload_n 0, 1) := by decide +kernel
theorem d_M_init_13 : decode b_M_init 13 = .ok (.bipush 121, 2) := by decide +kernel
theorem d_M_init_15 : decode b_M_init 15 = .ok (.newarray .int, 2) := by decide +kernel
theorem d_M_init_17 : decode b_M_init 17 = .ok (.putfield 13, 3) := by decide +kernel
theorem d_M_init_20 : decode b_M_init 20 = .ok (.aload_n 0, 1) := by decide +kernel
theorem d_M_init_21 : decode b_M_init 21 = .ok (.bipush 121, 2) := by decide +kernel
theorem d_M_init_23 : decode b_M_init 23 = .ok (.newarray .int, 2) := by decide +kernel
theorem d_M_init_25 : decode b_M_init 25 = .ok (.putfield 16, 3) := by decide +kernel
theorem d_M_init_28 : decode b_M_init 28 = .ok (.aload_n 0, 1) := by decide +kernel
theorem d_M_init_29 : decode b_M_init 29 = .ok (.bipush 121, 2) := by decide +kernel
theorem d_M_init_31 : decode b_M_init 31 = .ok (.newarray .int, 2) := by decide +kernel
theorem d_M_init_33 : decode b_M_init 33 = .ok (.putfield 19, 3) := by decide +kernel
theorem d_M_init_36 : decode b_M_init 36 = .ok (.aload_n 0, 1) := by decide +kernel
theorem d_M_init_37 : decode b_M_init 37 = .ok (.bipush 121, 2) := by decide +kernel
theorem d_M_init_39 : decode b_M_init 39 = .ok (.newarray .int, 2) := by decide +kernel
theorem d_M_init_41 : decode b_M_init 41 = .ok (.putfield 22, 3) := by decide +kernel
theorem d_M_init_44 : decode b_M_init 44 = .ok (.aload_n 0, 1) := by decide +kernel
theorem d_M_init_45 : decode b_M_init 45 = .ok (.bipush 121, 2) := by decide +kernel
theorem d_M_init_47 : decode b_M_init 47 = .ok (.newarray .int, 2) := by decide +kernel
theorem d_M_init_49 : decode b_M_init 49 = .ok (.putfield 25, 3) := by decide +kernel
theorem d_M_init_52 : decode b_M_init 52 = .ok (.aload_n 0, 1) := by decide +kernel
theorem d_M_init_53 : decode b_M_init 53 = .ok (.bipush 121, 2) := by decide +kernel
theorem d_M_init_55 : decode b_M_init 55 = .ok (.newarray .boolean, 2) := by decide +kernel
theorem d_M_init_57 : decode b_M_init 57 = .ok (.putfield 28, 3) := by decide +kernel
theorem d_M_init_60 : decode b_M_init 60 = .ok (.aload_n 0, 1) := by decide +kernel
theorem d_M_init_61 : decode b_M_init 61 = .ok (.bipush 121, 2) := by decide +kernel
theorem d_M_init_63 : decode b_M_init 63 = .ok (.newarray .int, 2) := by decide +kernel
theorem d_M_init_65 : decode b_M_init 65 = .ok (.putfield 32, 3) := by decide +kernel
theorem d_M_init_68 : decode b_M_init 68 = .ok (.aload_n 0, 1) := by decide +kernel
theorem d_M_init_69 : decode b_M_init 69 = .ok (.bipush 121, 2) := by decide +kernel
theorem d_M_init_71 : decode b_M_init 71 = .ok (.newarray .int, 2) := by decide +kernel
theorem d_M_init_73 : decode b_M_init 73 = .ok (.putfield 35, 3) := by decide +kernel
theorem d_M_init_76 : decode b_M_init 76 = .ok (.aload_n 0, 1) := by decide +kernel
theorem d_M_init_77 : decode b_M_init 77 = .ok (.bipush 121, 2) := by decide +kernel
theorem d_M_init_79 : decode b_M_init 79 = .ok (.newarray .int, 2) := by decide +kernel
theorem d_M_init_81 : decode b_M_init 81 = .ok (.putfield 38, 3) := by decide +kernel
theorem d_M_init_84 : decode b_M_init 84 = .ok (.aload_n 0, 1) := by decide +kernel
theorem d_M_init_85 : decode b_M_init 85 = .ok (.bipush 121, 2) := by decide +kernel
theorem d_M_init_87 : decode b_M_init 87 = .ok (.newarray .int, 2) := by decide +kernel
theorem d_M_init_89 : decode b_M_init 89 = .ok (.putfield 41, 3) := by decide +kernel
theorem d_M_init_92 : decode b_M_init 92 = .ok (.aload_n 0, 1) := by decide +kernel
theorem d_M_init_93 : decode b_M_init 93 = .ok (.bipush 121, 2) := by decide +kernel
theorem d_M_init_95 : decode b_M_init 95 = .ok (.newarray .int, 2) := by decide +kernel
theorem d_M_init_97 : decode b_M_init 97 = .ok (.putfield 44, 3) := by decide +kernel
theorem d_M_init_100 : decode b_M_init 100 = .ok (.aload_n 0, 1) := by decide +kernel
theorem d_M_init_101 : decode b_M_init 101 = .ok (.sipush 484, 3) := by decide +kernel
theorem d_M_init_104 : decode b_M_init 104 = .ok (.newarray .int, 2) := by decide +kernel
theorem d_M_init_106 : decode b_M_init 106 = .ok (.putfield 47, 3) := by decide +kernel
theorem d_M_init_109 : decode b_M_init 109 = .ok (.aload_n 0, 1) := by decide +kernel
theorem d_M_init_110 : decode b_M_init 110 = .ok (.sipush 484, 3) := by decide +kernel
theorem d_M_init_113 : decode b_M_init 113 = .ok (.newarray .int, 2) := by decide +kernel
theorem d_M_init_115 : decode b_M_init 115 = .ok (.putfield 50, 3) := by decide +kernel
theorem d_M_init_118 : decode b_M_init 118 = .ok (.aload_n 0, 1) := by decide +kernel
theorem d_M_init_119 : decode b_M_init 119 = .ok (.bipush 121, 2) := by decide +kernel
theorem d_M_init_121 : decode b_M_init 121 = .ok (.newarray .int, 2) := by decide +kernel
theorem d_M_init_123 : decode b_M_init 123 = .ok (.putfield 53, 3) := by decide +kernel
theorem d_M_init_126 : decode b_M_init 126 = .ok (.aload_n 0, 1) := by decide +kernel
theorem d_M_init_127 : decode b_M_init 127 = .ok (.bipush 31, 2) := by decide +kernel
theorem d_M_init_129 : decode b_M_init 129 = .ok (.newarray .boolean, 2) := by decide +kernel
theorem d_M_init_131 : decode b_M_init 131 = .ok (.putfield 56, 3) := by decide +kernel
theorem d_M_init_134 : decode b_M_init 134 = .ok (.aload_n 0, 1) := by decide +kernel
theorem d_M_init_135 : decode b_M_init 135 = .ok (.bipush 121, 2) := by decide +kernel
theorem d_M_init_137 : decode b_M_init 137 = .ok (.newarray .int, 2) := by decide +kernel
theorem d_M_init_139 : decode b_M_init 139 = .ok (.putfield 59, 3) := by decide +kernel
theorem d_M_init_142 : decode b_M_init 142 = .ok (.aload_n 0, 1) := by decide +kernel
theorem d_M_init_143 : decode b_M_init 143 = .ok (.bipush 121, 2) := by decide +kernel
theorem d_M_init_145 : decode b_M_init 145 = .ok (.newarray .int, 2) := by decide +kernel
theorem d_M_init_147 : decode b_M_init 147 = .ok (.putfield 62, 3) := by decide +kernel
theorem d_M_init_150 : decode b_M_init 150 = .ok (.aload_n 0, 1) := by decide +kernel
theorem d_M_init_151 : decode b_M_init 151 = .ok (.sipush 1000, 3) := by decide +kernel
theorem d_M_init_154 : decode b_M_init 154 = .ok (.newarray .int, 2) := by decide +kernel
theorem d_M_init_156 : decode b_M_init 156 = .ok (.putfield 65, 3) := by decide +kernel
theorem d_M_init_159 : decode b_M_init 159 = .ok (.aload_n 0, 1) := by decide +kernel
theorem d_M_init_160 : decode b_M_init 160 = .ok (.bipush 40, 2) := by decide +kernel
theorem d_M_init_162 : decode b_M_init 162 = .ok (.newarray .int, 2) := by decide +kernel
theorem d_M_init_164 : decode b_M_init 164 = .ok (.putfield 68, 3) := by decide +kernel
theorem d_M_init_167 : decode b_M_init 167 = .ok (.return_, 1) := by decide +kernel
theorem d_M_within_0 : decode b_M_within 0 = .ok (.iload_n 0, 1) := by decide +kernel
theorem d_M_within_1 : decode b_M_within 1 = .ok (.iload_n 1, 1) := by decide +kernel
theorem d_M_within_2 : decode b_M_within 2 = .ok (.if_icmp .lt 12, 3) := by decide +kernel
theorem d_M_within_5 : decode b_M_within 5 = .ok (.iload_n 0, 1) := by decide +kernel
theorem d_M_within_6 : decode b_M_within 6 = .ok (.iload_n 2, 1) := by decide +kernel
theorem d_M_within_7 : decode b_M_within 7 = .ok (.if_icmp .gt 7, 3) := by decide +kernel
theorem d_M_within_10 : decode b_M_within 10 = .ok (.iconst 1, 1) := by decide +kernel
theorem d_M_within_11 : decode b_M_within 11 = .ok (.goto 4, 3) := by decide +kernel
theorem d_M_within_14 : decode b_M_within 14 = .ok (.iconst 0, 1) := by decide +kernel
theorem d_M_within_15 : decode b_M_within 15 = .ok (.ireturn, 1) := by decide +kernel
theorem d_M_isItem_0 : decode b_M_isItem 0 = .ok (.iload_n 1, 1) := by decide +kernel
theorem d_M_isItem_1 : decode b_M_isItem 1 = .ok (.iconst 1, 1) := by decide +kernel
theorem d_M_isItem_2 : decode b_M_isItem 2 = .ok (.aload_n 0, 1) := by decide +kernel
theorem d_M_isItem_3 : decode b_M_isItem 3 = .ok (.getfield 71, 3) := by decide +kernel
theorem d_M_isItem_6 : decode b_M_isItem 6 = .ok (.invokestatic 75, 3) := by decide +kernel
theorem d_M_isItem_9 : decode b_M_isItem 9 = .ok (.ireturn, 1) := by decide +kernel
theorem d_M_isOver_0 : decode b_M_isOver 0 = .ok (.aload_n 0, 1) := by decide +kernel
theorem d_M_isOver_1 : decode b_M_isOver 1 = .ok (.getfield 25, 3) := by decide +kernel
theorem d_M_isOver_4 : decode b_M_isOver 4 = .ok (.iload_n 1, 1) := by decide +kernel
theorem d_M_isOver_5 : decode b_M_isOver 5 = .ok (.iaload, 1) := by decide +kernel
theorem d_M_isOver_6 : decode b_M_isOver 6 = .ok (.iconst 5, 1) := by decide +kernel
theorem d_M_isOver_7 : decode b_M_isOver 7 = .ok (.if_icmp .eq 14, 3) := by decide +kernel
theorem d_M_isOver_10 : decode b_M_isOver 10 = .ok (.aload_n 0, 1) := by decide +kernel
theorem d_M_isOver_11 : decode b_M_isOver 11 = .ok (.getfield 25, 3) := by decide +kernel
theorem d_M_isOver_14 : decode b_M_isOver 14 = .ok (.iload_n 1, 1) := by decide +kernel
theorem d_M_isOver_15 : decode b_M_isOver 15 = .ok (.iaload, 1) := by decide +kernel
theorem d_M_isOver_16 : decode b_M_isOver 16 = .ok (.bipush 9, 2) := by decide +kernel
theorem d_M_isOver_18 : decode b_M_isOver 18 = .ok (.if_icmp .ne 7, 3) := by decide +kernel
theorem d_M_isOver_21 : decode b_M_isOver 21 = .ok (.iconst 1, 1) := by decide +kernel
theorem d_M_isOver_22 : decode b_M_isOver 22 = .ok (.goto 4, 3) := by decide +kernel
theorem d_M_isOver_25 : decode b_M_isOver 25 = .ok (.iconst 0, 1) := by decide +kernel
theorem d_M_isOver_26 : decode b_M_isOver 26 = .ok (.ireturn, 1) := by decide +kernel
theorem d_M_mostOf_0 : decode b_M_mostOf 0 = .ok (.iload_n 0, 1) := by decide +kernel
theorem d_M_mostOf_1 : decode b_M_mostOf 1 = .ok (.ifCond .ne 8, 3) := by decide +kernel
theorem d_M_mostOf_4 : decode b_M_mostOf 4 = .ok (.bipush 50, 2) := by decide +kernel
theorem d_M_mostOf_6 : decode b_M_mostOf 6 = .ok (.goto 28, 3) := by decide +kernel
theorem d_M_mostOf_9 : decode b_M_mostOf 9 = .ok (.iload_n 0, 1) := by decide +kernel
theorem d_M_mostOf_10 : decode b_M_mostOf 10 = .ok (.iconst 1, 1) := by decide +kernel
theorem d_M_mostOf_11 : decode b_M_mostOf 11 = .ok (.if_icmp .ne 9, 3) := by decide +kernel
theorem d_M_mostOf_14 : decode b_M_mostOf 14 = .ok (.sipush 500, 3) := by decide +kernel
theorem d_M_mostOf_17 : decode b_M_mostOf 17 = .ok (.goto 17, 3) := by decide +kernel
theorem d_M_mostOf_20 : decode b_M_mostOf 20 = .ok (.iload_n 0, 1) := by decide +kernel
theorem d_M_mostOf_21 : decode b_M_mostOf 21 = .ok (.iconst 2, 1) := by decide +kernel
theorem d_M_mostOf_22 : decode b_M_mostOf 22 = .ok (.if_icmp .ne 9, 3) := by decide +kernel
theorem d_M_mostOf_25 : decode b_M_mostOf 25 = .ok (.sipush 2000, 3) := by decide +kernel
theorem d_M_mostOf_28 : decode b_M_mostOf 28 = .ok (.goto 6, 3) := by decide +kernel
theorem d_M_mostOf_31 : decode b_M_mostOf 31 = .ok (.sipush 31500, 3) := by decide +kernel
theorem d_M_mostOf_34 : decode b_M_mostOf 34 = .ok (.ireturn, 1) := by decide +kernel
theorem d_M_tooMuch_0 : decode b_M_tooMuch 0 = .ok (.iload_n 0, 1) := by decide +kernel
theorem d_M_tooMuch_1 : decode b_M_tooMuch 1 = .ok (.sipush 31500, 3) := by decide +kernel
theorem d_M_tooMuch_4 : decode b_M_tooMuch 4 = .ok (.if_icmp .le 8, 3) := by decide +kernel
theorem d_M_tooMuch_7 : decode b_M_tooMuch 7 = .ok (.bipush (-109), 2) := by decide +kernel
theorem d_M_tooMuch_9 : decode b_M_tooMuch 9 = .ok (.goto 14, 3) := by decide +kernel
theorem d_M_tooMuch_12 : decode b_M_tooMuch 12 = .ok (.iload_n 1, 1) := by decide +kernel
theorem d_M_tooMuch_13 : decode b_M_tooMuch 13 = .ok (.iconst 3, 1) := by decide +kernel
theorem d_M_tooMuch_14 : decode b_M_tooMuch 14 = .ok (.if_icmp .le 8, 3) := by decide +kernel
theorem d_M_tooMuch_17 : decode b_M_tooMuch 17 = .ok (.bipush (-110), 2) := by decide +kernel
theorem d_M_tooMuch_19 : decode b_M_tooMuch 19 = .ok (.goto 4, 3) := by decide +kernel
theorem d_M_tooMuch_22 : decode b_M_tooMuch 22 = .ok (.iconst 0, 1) := by decide +kernel
theorem d_M_tooMuch_23 : decode b_M_tooMuch 23 = .ok (.ireturn, 1) := by decide +kernel
theorem d_M_turned_0 : decode b_M_turned 0 = .ok (.iload_n 0, 1) := by decide +kernel
theorem d_M_turned_1 : decode b_M_turned 1 = .ok (.istore_n 3, 1) := by decide +kernel
theorem d_M_turned_2 : decode b_M_turned 2 = .ok (.iload_n 3, 1) := by decide +kernel
theorem d_M_turned_3 : decode b_M_turned 3 = .ok (.invokestatic 79, 3) := by decide +kernel
theorem d_M_turned_6 : decode b_M_turned 6 = .ok (.iload_n 1, 1) := by decide +kernel
theorem d_M_turned_7 : decode b_M_turned 7 = .ok (.if_icmp .lt 8, 3) := by decide +kernel
theorem d_M_turned_10 : decode b_M_turned 10 = .ok (.iload_n 3, 1) := by decide +kernel
theorem d_M_turned_11 : decode b_M_turned 11 = .ok (.iload_n 2, 1) := by decide +kernel
theorem d_M_turned_12 : decode b_M_turned 12 = .ok (.if_icmp .ge 9, 3) := by decide +kernel
theorem d_M_turned_15 : decode b_M_turned 15 = .ok (.iinc 3 1, 3) := by decide +kernel
theorem d_M_turned_18 : decode b_M_turned 18 = .ok (.goto (-16), 3) := by decide +kernel
theorem d_M_turned_21 : decode b_M_turned 21 = .ok (.iload_n 3, 1) := by decide +kernel
theorem d_M_turned_22 : decode b_M_turned 22 = .ok (.ireturn, 1) := by decide +kernel
theorem d_M_item_0 : decode b_M_item 0 = .ok (.iload_n 1, 1) := by decide +kernel
theorem d_M_item_1 : decode b_M_item 1 = .ok (.iconst 0, 1) := by decide +kernel
theorem d_M_item_2 : decode b_M_item 2 = .ok (.iconst 3, 1) := by decide +kernel
theorem d_M_item_3 : decode b_M_item 3 = .ok (.invokestatic 75, 3) := by decide +kernel
theorem d_M_item_6 : decode b_M_item 6 = .ok (.ifCond .eq 34, 3) := by decide +kernel
theorem d_M_item_9 : decode b_M_item 9 = .ok (.iload_n 2, 1) := by decide +kernel
theorem d_M_item_10 : decode b_M_item 10 = .ok (.iconst 1, 1) := by decide +kernel
theorem d_M_item_11 : decode b_M_item 11 = .ok (.ldc 83, 2) := by decide +kernel
theorem d_M_item_13 : decode b_M_item 13 = .ok (.invokestatic 75, 3) := by decide +kernel
theorem d_M_item_16 : decode b_M_item 16 = .ok (.ifCond .eq 24, 3) := by decide +kernel
theorem d_M_item_19 : decode b_M_item 19 = .ok (.iload_n 3, 1) := by decide +kernel
theorem d_M_item_20 : decode b_M_item 20 = .ok (.iconst 0, 1) := by decide +kernel
theorem d_M_item_21 : decode b_M_item 21 = .ok (.bipush 9, 2) := by decide +kernel
theorem d_M_item_23 : decode b_M_item 23 = .ok (.invokestatic 75, 3) := by decide +kernel
theorem d_M_item_26 : decode b_M_item 26 = .ok (.ifCond .eq 14, 3) := by decide +kernel
theorem d_M_item_29 : decode b_M_item 29 = .ok (.iload 4, 2) := by decide +kernel
theorem d_M_item_31 : decode b_M_item 31 = .ok (.iconst 0, 1) := by decide +kernel
theorem d_M_item_32 : decode b_M_item 32 = .ok (.bipush 99, 2) := by decide +kernel
theorem d_M_item_34 : decode b_M_item 34 = .ok (.invokestatic 75, 3) := by decide +kernel
theorem d_M_item_37 : decode b_M_item 37 = .ok (.ifCond .ne 6, 3) := by decide +kernel
theorem d_M_item_40 : decode b_M_item 40 = .ok (.bipush (-102), 2) := by decide +kernel
theorem d_M_item_42 : decode b_M_item 42 = .ok (.ireturn, 1) := by decide +kernel
theorem d_M_item_43 : decode b_M_item 43 = .ok (.aload_n 0, 1) := by decide +kernel
theorem d_M_item_44 : decode b_M_item 44 = .ok (.getfield 71, 3) := by decide +kernel
theorem d_M_item_47 : decode b_M_item 47 = .ok (.bipush 120, 2) := by decide +kernel
theorem d_M_item_49 : decode b_M_item 49 = .ok (.if_icmp .ne 6, 3) := by decide +kernel
theorem d_M_item_52 : decode b_M_item 52 = .ok (.bipush (-104), 2) := by decide +kernel
theorem d_M_item_54 : decode b_M_item 54 = .ok (.ireturn, 1) := by decide +kernel
theorem d_M_item_55 : decode b_M_item 55 = .ok (.iload_n 2, 1) := by decide +kernel
theorem d_M_item_56 : decode b_M_item 56 = .ok (.iload_n 3, 1) := by decide +kernel
theorem d_M_item_57 : decode b_M_item 57 = .ok (.invokestatic 84, 3) := by decide +kernel
theorem d_M_item_60 : decode b_M_item 60 = .ok (.istore 5, 2) := by decide +kernel
theorem d_M_item_62 : decode b_M_item 62 = .ok (.iload 5, 2) := by decide +kernel
theorem d_M_item_64 : decode b_M_item 64 = .ok (.ifCond .eq 6, 3) := by decide +kernel
theorem d_M_item_67 : decode b_M_item 67 = .ok (.iload 5, 2) := by decide +kernel
theorem d_M_item_69 : decode b_M_item 69 = .ok (.ireturn, 1) := by decide +kernel
theorem d_M_item_70 : decode b_M_item 70 = .ok (.aload_n 0, 1) := by decide +kernel
theorem d_M_item_71 : decode b_M_item 71 = .ok (.dup, 1) := by decide +kernel
theorem d_M_item_72 : decode b_M_item 72 = .ok (.getfield 71, 3) := by decide +kernel
theorem d_M_item_75 : decode b_M_item 75 = .ok (.iconst 1, 1) := by decide +kernel
theorem d_M_item_76 : decode b_M_item 76 = .ok (.iadd, 1) := by decide +kernel
theorem d_M_item_77 : decode b_M_item 77 = .ok (.putfield 71, 3) := by decide +kernel
theorem d_M_item_80 : decode b_M_item 80 = .ok (.aload_n 0, 1) := by decide +kernel
theorem d_M_item_81 : decode b_M_item 81 = .ok (.getfield 7, 3) := by decide +kernel
theorem d_M_item_84 : decode b_M_item 84 = .ok (.aload_n 0, 1) := by decide +kernel
theorem d_M_item_85 : decode b_M_item 85 = .ok (.getfield 71, 3) := by decide +kernel
theorem d_M_item_88 : decode b_M_item 88 = .ok (.iload_n 1, 1) := by decide +kernel
theorem d_M_item_89 : decode b_M_item 89 = .ok (.iload_n 2, 1) := by decide +kernel
theorem d_M_item_90 : decode b_M_item 90 = .ok (.iload_n 3, 1) := by decide +kernel
theorem d_M_item_91 : decode b_M_item 91 = .ok (.invokestatic 88, 3) := by decide +kernel
theorem d_M_item_94 : decode b_M_item 94 = .ok (.iastore, 1) := by decide +kernel
theorem d_M_item_95 : decode b_M_item 95 = .ok (.aload_n 0, 1) := by decide +kernel
theorem d_M_item_96 : decode b_M_item 96 = .ok (.getfield 13, 3) := by decide +kernel
theorem d_M_item_99 : decode b_M_item 99 = .ok (.aload_n 0, 1) := by decide +kernel
theorem d_M_item_100 : decode b_M_item 100 = .ok (.getfield 71, 3) := by decide +kernel
theorem d_M_item_103 : decode b_M_item 103 = .ok (.iload_n 2, 1) := by decide +kernel
theorem d_M_item_104 : decode b_M_item 104 = .ok (.iastore, 1) := by decide +kernel
theorem d_M_item_105 : decode b_M_item 105 = .ok (.aload_n 0, 1) := by decide +kernel
theorem d_M_item_106 : decode b_M_item 106 = .ok (.getfield 16, 3) := by decide +kernel
theorem d_M_item_109 : decode b_M_item 109 = .ok (.aload_n 0, 1) := by decide +kernel
theorem d_M_item_110 : decode b_M_item 110 = .ok (.getfield 71, 3) := by decide +kernel
theorem d_M_item_113 : decode b_M_item 113 = .ok (.iload_n 3, 1) := by decide +kernel
theorem d_M_item_114 : decode b_M_item 114 = .ok (.iastore, 1) := by decide +kernel
theorem d_M_item_115 : decode b_M_item 115 = .ok (.aload_n 0, 1) := by decide +kernel
theorem d_M_item_116 : decode b_M_item 116 = .ok (.getfield 19, 3) := by decide +kernel
theorem d_M_item_119 : decode b_M_item 119 = .ok (.aload_n 0, 1) := by decide +kernel
theorem d_M_item_120 : decode b_M_item 120 = .ok (.getfield 71, 3) := by decide +kernel
theorem d_M_item_123 : decode b_M_item 123 = .ok (.iload 4, 2) := by decide +kernel
theorem d_M_item_125 : decode b_M_item 125 = .ok (.iastore, 1) := by decide +kernel
theorem d_M_item_126 : decode b_M_item 126 = .ok (.aload_n 0, 1) := by decide +kernel
theorem d_M_item_127 : decode b_M_item 127 = .ok (.getfield 35, 3) := by decide +kernel
theorem d_M_item_130 : decode b_M_item 130 = .ok (.aload_n 0, 1) := by decide +kernel
theorem d_M_item_131 : decode b_M_item 131 = .ok (.getfield 71, 3) := by decide +kernel
theorem d_M_item_134 : decode b_M_item 134 = .ok (.iconst (-1), 1) := by decide +kernel
theorem d_M_item_135 : decode b_M_item 135 = .ok (.iastore, 1) := by decide +kernel
theorem d_M_item_136 : decode b_M_item 136 = .ok (.aload_n 0, 1) := by decide +kernel
theorem d_M_item_137 : decode b_M_item 137 = .ok (.getfield 38, 3) := by decide +kernel
theorem d_M_item_140 : decode b_M_item 140 = .ok (.aload_n 0, 1) := by decide +kernel
theorem d_M_item_141 : decode b_M_item 141 = .ok (.getfield 71, 3) := by decide +kernel
theorem d_M_item_144 : decode b_M_item 144 = .ok (.iconst (-1), 1) := by decide +kernel
theorem d_M_item_145 : decode b_M_item 145 = .ok (.iastore, 1) := by decide +kernel
theorem d_M_item_146 : decode b_M_item 146 = .ok (.aload_n 0, 1) := by decide +kernel
theorem d_M_item_147 : decode b_M_item 147 = .ok (.getfield 62, 3) := by decide +kernel
theorem d_M_item_150 : decode b_M_item 150 = .ok (.aload_n 0, 1) := by decide +kernel
theorem d_M_item_151 : decode b_M_item 151 = .ok (.getfield 71, 3) := by decide +kernel
theorem d_M_item_154 : decode b_M_item 154 = .ok (.iconst (-1), 1) := by decide +kernel
theorem d_M_item_155 : decode b_M_item 155 = .ok (.iastore, 1) := by decide +kernel
theorem d_M_item_156 : decode b_M_item 156 = .ok (.aload_n 0, 1) := by decide +kernel
theorem d_M_item_157 : decode b_M_item 157 = .ok (.getfield 71, 3) := by decide +kernel
theorem d_M_item_160 : decode b_M_item 160 = .ok (.ireturn, 1) := by decide +kernel
theorem d_M_excludes_0 : decode b_M_excludes 0 = .ok (.iload_n 0, 1) := by decide +kernel
theorem d_M_excludes_1 : decode b_M_excludes 1 = .ok (.iload_n 1, 1) := by decide +kernel
theorem d_M_excludes_2 : decode b_M_excludes 2 = .ok (.if_icmp .ge 7, 3) := by decide +kernel
theorem d_M_excludes_5 : decode b_M_excludes 5 = .ok (.iload_n 0, 1) := by decide +kernel
theorem d_M_excludes_6 : decode b_M_excludes 6 = .ok (.goto 4, 3) := by decide +kernel
theorem d_M_excludes_9 : decode b_M_excludes 9 = .ok (.iload_n 1, 1) := by decide +kernel
theorem d_M_excludes_10 : decode b_M_excludes 10 = .ok (.istore_n 2, 1) := by decide +kernel
theorem d_M_excludes_11 : decode b_M_excludes 11 = .ok (.iload_n 0, 1) := by decide +kernel
theorem d_M_excludes_12 : decode b_M_excludes 12 = .ok (.iload_n 1, 1) := by decide +kernel
theorem d_M_excludes_13 : decode b_M_excludes 13 = .ok (.if_icmp .ge 7, 3) := by decide +kernel
theorem d_M_excludes_16 : decode b_M_excludes 16 = .ok (.iload_n 1, 1) := by decide +kernel
theorem d_M_excludes_17 : decode b_M_excludes 17 = .ok (.goto 4, 3) := by decide +kernel
theorem d_M_excludes_20 : decode b_M_excludes 20 = .ok (.iload_n 0, 1) := by decide +kernel
theorem d_M_excludes_21 : decode b_M_excludes 21 = .ok (.istore_n 3, 1) := by decide +kernel
theorem d_M_excludes_22 : decode b_M_excludes 22 = .ok (.iload_n 2, 1) := by decide +kernel
theorem d_M_excludes_23 : decode b_M_excludes 23 = .ok (.iconst 2, 1) := by decide +kernel
theorem d_M_excludes_24 : decode b_M_excludes 24 = .ok (.if_icmp .ne 8, 3) := by decide +kernel
theorem d_M_excludes_27 : decode b_M_excludes 27 = .ok (.iload_n 3, 1) := by decide +kernel
theorem d_M_excludes_28 : decode b_M_excludes 28 = .ok (.iconst 3, 1) := by decide +kernel
theorem d_M_excludes_29 : decode b_M_excludes 29 = .ok (.if_icmp .eq 33, 3) := by decide +kernel
theorem d_M_excludes_32 : decode b_M_excludes 32 = .ok (.iload_n 2, 1) := by decide +kernel
theorem d_M_excludes_33 : decode b_M_excludes 33 = .ok (.iconst 1, 1) := by decide +kernel
theorem d_M_excludes_34 : decode b_M_excludes 34 = .ok (.if_icmp .ne 8, 3) := by decide +kernel
theorem d_M_excludes_37 : decode b_M_excludes 37 = .ok (.iload_n 3, 1) := by decide +kernel
theorem d_M_excludes_38 : decode b_M_excludes 38 = .ok (.iconst 2, 1) := by decide +kernel
theorem d_M_excludes_39 : decode b_M_excludes 39 = .ok (.if_icmp .eq 23, 3) := by decide +kernel
theorem d_M_excludes_42 : decode b_M_excludes 42 = .ok (.iload_n 2, 1) := by decide +kernel
theorem d_M_excludes_43 : decode b_M_excludes 43 = .ok (.iconst 4, 1) := by decide +kernel
theorem d_M_excludes_44 : decode b_M_excludes 44 = .ok (.if_icmp .ne 8, 3) := by decide +kernel
theorem d_M_excludes_47 : decode b_M_excludes 47 = .ok (.iload_n 3, 1) := by decide +kernel
theorem d_M_excludes_48 : decode b_M_excludes 48 = .ok (.iconst 5, 1) := by decide +kernel
theorem d_M_excludes_49 : decode b_M_excludes 49 = .ok (.if_icmp .eq 13, 3) := by decide +kernel
theorem d_M_excludes_52 : decode b_M_excludes 52 = .ok (.iload_n 2, 1) := by decide +kernel
theorem d_M_excludes_53 : decode b_M_excludes 53 = .ok (.iconst 3, 1) := by decide +kernel
theorem d_M_excludes_54 : decode b_M_excludes 54 = .ok (.if_icmp .ne 12, 3) := by decide +kernel
theorem d_M_excludes_57 : decode b_M_excludes 57 = .ok (.iload_n 3, 1) := by decide +kernel
theorem d_M_excludes_58 : decode b_M_excludes 58 = .ok (.iconst 5, 1) := by decide +kernel
theorem d_M_excludes_59 : decode b_M_excludes 59 = .ok (.if_icmp .ne 7, 3) := by decide +kernel
theorem d_M_excludes_62 : decode b_M_excludes 62 = .ok (.iconst 1, 1) := by decide +kernel
theorem d_M_excludes_63 : decode b_M_excludes 63 = .ok (.goto 4, 3) := by decide +kernel
theorem d_M_excludes_66 : decode b_M_excludes 66 = .ok (.iconst 0, 1) := by decide +kernel
theorem d_M_excludes_67 : decode b_M_excludes 67 = .ok (.ireturn, 1) := by decide +kernel
theorem d_M_has_0 : decode b_M_has 0 = .ok (.aload_n 0, 1) := by decide +kernel
theorem d_M_has_1 : decode b_M_has 1 = .ok (.getfield 22, 3) := by decide +kernel
theorem d_M_has_4 : decode b_M_has 4 = .ok (.iload_n 1, 1) := by decide +kernel
theorem d_M_has_5 : decode b_M_has 5 = .ok (.iaload, 1) := by decide +kernel
theorem d_M_has_6 : decode b_M_has 6 = .ok (.iload_n 2, 1) := by decide +kernel
theorem d_M_has_7 : decode b_M_has 7 = .ok (.ishr, 1) := by decide +kernel
theorem d_M_has_8 : decode b_M_has 8 = .ok (.iconst 1, 1) := by decide +kernel
theorem d_M_has_9 : decode b_M_has 9 = .ok (.iand, 1) := by decide +kernel
theorem d_M_has_10 : decode b_M_has 10 = .ok (.iconst 1, 1) := by decide +kernel
theorem d_M_has_11 : decode b_M_has 11 = .ok (.if_icmp .ne 7, 3) := by decide +kernel
theorem d_M_has_14 : decode b_M_has 14 = .ok (.iconst 1, 1) := by decide +kernel
theorem d_M_has_15 : decode b_M_has 15 = .ok (.goto 4, 3) := by decide +kernel
theorem d_M_has_18 : decode b_M_has 18 = .ok (.iconst 0, 1) := by decide +kernel
theorem d_M_has_19 : decode b_M_has 19 = .ok (.ireturn, 1) := by decide +kernel
theorem d_M_service_0 : decode b_M_service 0 = .ok (.aload_n 0, 1) := by decide +kernel
theorem d_M_service_1 : decode b_M_service 1 = .ok (.iload_n 1, 1) := by decide +kernel
theorem d_M_service_2 : decode b_M_service 2 = .ok (.invokevirtual 92, 3) := by decide +kernel
theorem d_M_service_5 : decode b_M_service 5 = .ok (.ifCond .ne 6, 3) := by decide +kernel
theorem d_M_service_8 : decode b_M_service 8 = .ok (.bipush (-101), 2) := by decide +kernel
theorem d_M_service_10 : decode b_M_service 10 = .ok (.ireturn, 1) := by decide +kernel
theorem d_M_service_11 : decode b_M_service 11 = .ok (.iload_n 2, 1) := by decide +kernel
theorem d_M_service_12 : decode b_M_service 12 = .ok (.iconst 0, 1) := by decide +kernel
theorem d_M_service_13 : decode b_M_service 13 = .ok (.iconst 5, 1) := by decide +kernel
theorem d_M_service_14 : decode b_M_service 14 = .ok (.invokestatic 75, 3) := by decide +kernel
theorem d_M_service_17 : decode b_M_service 17 = .ok (.ifCond .ne 6, 3) := by decide +kernel
theorem d_M_service_20 : decode b_M_service 20 = .ok (.bipush (-102), 2) := by decide +kernel
theorem d_M_service_22 : decode b_M_service 22 = .ok (.ireturn, 1) := by decide +kernel
theorem d_M_service_23 : decode b_M_service 23 = .ok (.aload_n 0, 1) := by decide +kernel
theorem d_M_service_24 : decode b_M_service 24 = .ok (.iload_n 1, 1) := by decide +kernel
theorem d_M_service_25 : decode b_M_service 25 = .ok (.iload_n 2, 1) := by decide +kernel
theorem d_M_service_26 : decode b_M_service 26 = .ok (.invokevirtual 96, 3) := by decide +kernel
theorem d_M_service_29 : decode b_M_service 29 = .ok (.ifCond .ne 11, 3) := by decide +kernel
theorem d_M_service_32 : decode b_M_service 32 = .ok (.aload_n 0, 1) := by decide +kernel
theorem d_M_service_33 : decode b_M_service 33 = .ok (.iload_n 1, 1) := by decide +kernel
theorem d_M_service_34 : decode b_M_service 34 = .ok (.invokevirtual 100, 3) := by decide +kernel
theorem d_M_service_37 : decode b_M_service 37 = .ok (.ifCond .eq 6, 3) := by decide +kernel
theorem d_M_service_40 : decode b_M_service 40 = .ok (.bipush (-103), 2) := by decide +kernel
theorem d_M_service_42 : decode b_M_service 42 = .ok (.ireturn, 1) := by decide +kernel
theorem d_M_service_43 : decode b_M_service 43 = .ok (.iconst 0, 1) := by decide +kernel
theorem d_M_service_44 : decode b_M_service 44 = .ok (.istore_n 3, 1) := by decide +kernel
theorem d_M_service_45 : decode b_M_service 45 = .ok (.iload_n 3, 1) := by decide +kernel
theorem d_M_service_46 : decode b_M_service 46 = .ok (.bipush 6, 2) := by decide +kernel
theorem d_M_service_48 : decode b_M_service 48 = .ok (.if_icmp .ge 32, 3) := by decide +kernel
theorem d_M_service_51 : decode b_M_service 51 = .ok (.aload_n 0, 1) := by decide +kernel
theorem d_M_service_52 : decode b_M_service 52 = .ok (.iload_n 1, 1) := by decide +kernel
theorem d_M_service_53 : decode b_M_service 53 = .ok (.iload_n 3, 1) := by decide +kernel
theorem d_M_service_54 : decode b_M_service 54 = .ok (.invokevirtual 96, 3) := by decide +kernel
theorem d_M_service_57 : decode b_M_service 57 = .ok (.ifCond .eq 17, 3) := by decide +kernel
theorem d_M_service_60 : decode b_M_service 60 = .ok (.iload_n 2, 1) := by decide +kernel
theorem d_M_service_61 : decode b_M_service 61 = .ok (.iload_n 3, 1) := by decide +kernel
theorem d_M_service_62 : decode b_M_service 62 = .ok (.invokestatic 103, 3) := by decide +kernel
theorem d_M_service_65 : decode b_M_service 65 = .ok (.ifCond .eq 9, 3) := by decide +kernel
theorem d_M_service_68 : decode b_M_service 68 = .ok (.sipush (-200), 3) := by decide +kernel
theorem d_M_service_71 : decode b_M_service 71 = .ok (.iload_n 3, 1) := by decide +kernel
theorem d_M_service_72 : decode b_M_service 72 = .ok (.isub, 1) := by decide +kernel
theorem d_M_service_73 : decode b_M_service 73 = .ok (.ireturn, 1) := by decide +kernel
theorem d_M_service_74 : decode b_M_service 74 = .ok (.iinc 3 1, 3) := by decide +kernel
theorem d_M_service_77 : decode b_M_service 77 = .ok (.goto (-32), 3) := by decide +kernel
theorem d_M_service_80 : decode b_M_service 80 = .ok (.iload_n 2, 1) := by decide +kernel
theorem d_M_service_81 : decode b_M_service 81 = .ok (.iconst 1, 1) := by decide +kernel
theorem d_M_service_82 : decode b_M_service 82 = .ok (.if_icmp .eq 13, 3) := by decide +kernel
theorem d_M_service_85 : decode b_M_service 85 = .ok (.iload_n 2, 1) := by decide +kernel
theorem d_M_service_86 : decode b_M_service 86 = .ok (.iconst 3, 1) := by decide +kernel
theorem d_M_service_87 : decode b_M_service 87 = .ok (.if_icmp .eq 8, 3) := by decide +kernel
theorem d_M_service_90 : decode b_M_service 90 = .ok (.iload_n 2, 1) := by decide +kernel
theorem d_M_service_91 : decode b_M_service 91 = .ok (.iconst 4, 1) := by decide +kernel
theorem d_M_service_92 : decode b_M_service 92 = .ok (.if_icmp .ne 12, 3) := by decide +kernel
theorem d_M_service_95 : decode b_M_service 95 = .ok (.aload_n 0, 1) := by decide +kernel
theorem d_M_service_96 : decode b_M_service 96 = .ok (.iload_n 1, 1) := by decide +kernel
theorem d_M_service_97 : decode b_M_service 97 = .ok (.iconst 0, 1) := by decide +kernel
theorem d_M_service_98 : decode b_M_service 98 = .ok (.invokevirtual 96, 3) := by decide +kernel
theorem d_M_service_101 : decode b_M_service 101 = .ok (.ifCond .eq 7, 3) := by decide +kernel
theorem d_M_service_104 : decode b_M_service 104 = .ok (.iconst 1, 1) := by decide +kernel
theorem d_M_service_105 : decode b_M_service 105 = .ok (.goto 4, 3) := by decide +kernel
theorem d_M_service_108 : decode b_M_service 108 = .ok (.iconst 0, 1) := by decide +kernel
theorem d_M_service_109 : decode b_M_service 109 = .ok (.istore_n 3, 1) := by decide +kernel
theorem d_M_service_110 : decode b_M_service 110 = .ok (.iload_n 3, 1) := by decide +kernel
theorem d_M_service_111 : decode b_M_service 111 = .ok (.ifCond .eq 32, 3) := by decide +kernel
theorem d_M_service_114 : decode b_M_service 114 = .ok (.iload_n 2, 1) := by decide +kernel
theorem d_M_service_115 : decode b_M_service 115 = .ok (.iconst 5, 1) := by decide +kernel
theorem d_M_service_116 : decode b_M_service 116 = .ok (.if_icmp .ne 13, 3) := by decide +kernel
theorem d_M_service_119 : decode b_M_service 119 = .ok (.aload_n 0, 1) := by decide +kernel
theorem d_M_service_120 : decode b_M_service 120 = .ok (.getfield 7, 3) := by decide +kernel
theorem d_M_service_123 : decode b_M_service 123 = .ok (.iload_n 1, 1) := by decide +kernel
theorem d_M_service_124 : decode b_M_service 124 = .ok (.iaload, 1) := by decide +kernel
theorem d_M_service_125 : decode b_M_service 125 = .ok (.iconst 2, 1) := by decide +kernel
theorem d_M_service_126 : decode b_M_service 126 = .ok (.if_icmp .lt 17, 3) := by decide +kernel
theorem d_M_service_129 : decode b_M_service 129 = .ok (.iload_n 2, 1) := by decide +kernel
theorem d_M_service_130 : decode b_M_service 130 = .ok (.iconst 4, 1) := by decide +kernel
theorem d_M_service_131 : decode b_M_service 131 = .ok (.if_icmp .ne 15, 3) := by decide +kernel
theorem d_M_service_134 : decode b_M_service 134 = .ok (.aload_n 0, 1) := by decide +kernel
theorem d_M_service_135 : decode b_M_service 135 = .ok (.getfield 7, 3) := by decide +kernel
theorem d_M_service_138 : decode b_M_service 138 = .ok (.iload_n 1, 1) := by decide +kernel
theorem d_M_service_139 : decode b_M_service 139 = .ok (.iaload, 1) := by decide +kernel
theorem d_M_service_140 : decode b_M_service 140 = .ok (.ifCond .ne 6, 3) := by decide +kernel
theorem d_M_service_143 : decode b_M_service 143 = .ok (.bipush (-111), 2) := by decide +kernel
theorem d_M_service_145 : decode b_M_service 145 = .ok (.ireturn, 1) := by decide +kernel
theorem d_M_service_146 : decode b_M_service 146 = .ok (.aload_n 0, 1) := by decide +kernel
theorem d_M_service_147 : decode b_M_service 147 = .ok (.getfield 22, 3) := by decide +kernel
theorem d_M_service_150 : decode b_M_service 150 = .ok (.iload_n 1, 1) := by decide +kernel
theorem d_M_service_151 : decode b_M_service 151 = .ok (.dup2, 1) := by decide +kernel
theorem d_M_service_152 : decode b_M_service 152 = .ok (.iaload, 1) := by decide +kernel
theorem d_M_service_153 : decode b_M_service 153 = .ok (.iconst 1, 1) := by decide +kernel
theorem d_M_service_154 : decode b_M_service 154 = .ok (.iload_n 2, 1) := by decide +kernel
theorem d_M_service_155 : decode b_M_service 155 = .ok (.ishl, 1) := by decide +kernel
theorem d_M_service_156 : decode b_M_service 156 = .ok (.ior, 1) := by decide +kernel
theorem d_M_service_157 : decode b_M_service 157 = .ok (.iastore, 1) := by decide +kernel
theorem d_M_service_158 : decode b_M_service 158 = .ok (.iconst 0, 1) := by decide +kernel
theorem d_M_service_159 : decode b_M_service 159 = .ok (.istore 4, 2) := by decide +kernel
theorem d_M_service_161 : decode b_M_service 161 = .ok (.iconst 0, 1) := by decide +kernel
theorem d_M_service_162 : decode b_M_service 162 = .ok (.istore 5, 2) := by decide +kernel
theorem d_M_service_164 : decode b_M_service 164 = .ok (.iload 5, 2) := by decide +kernel
theorem d_M_service_166 : decode b_M_service 166 = .ok (.bipush 6, 2) := by decide +kernel
theorem d_M_service_168 : decode b_M_service 168 = .ok (.if_icmp .ge 29, 3) := by decide +kernel
theorem d_M_service_171 : decode b_M_service 171 = .ok (.iload 4, 2) := by decide +kernel
theorem d_M_service_173 : decode b_M_service 173 = .ok (.aload_n 0, 1) := by decide +kernel
theorem d_M_service_174 : decode b_M_service 174 = .ok (.iload_n 1, 1) := by decide +kernel
theorem d_M_service_175 : decode b_M_service 175 = .ok (.iload 5, 2) := by decide +kernel
theorem d_M_service_177 : decode b_M_service 177 = .ok (.invokevirtual 96, 3) := by decide +kernel
theorem d_M_service_180 : decode b_M_service 180 = .ok (.ifCond .eq 7, 3) := by decide +kernel
theorem d_M_service_183 : decode b_M_service 183 = .ok (.iconst 1, 1) := by decide +kernel
theorem d_M_service_184 : decode b_M_service 184 = .ok (.goto 4, 3) := by decide +kernel
theorem d_M_service_187 : decode b_M_service 187 = .ok (.iconst 0, 1) := by decide +kernel
theorem d_M_service_188 : decode b_M_service 188 = .ok (.iadd, 1) := by decide +kernel
theorem d_M_service_189 : decode b_M_service 189 = .ok (.istore 4, 2) := by decide +kernel
theorem d_M_service_191 : decode b_M_service 191 = .ok (.iinc 5 1, 3) := by decide +kernel
theorem d_M_service_194 : decode b_M_service 194 = .ok (.goto (-30), 3) := by decide +kernel
theorem d_M_service_197 : decode b_M_service 197 = .ok (.iload 4, 2) := by decide +kernel
theorem d_M_service_199 : decode b_M_service 199 = .ok (.ireturn, 1) := by decide +kernel
theorem d_M_ledTo_0 : decode b_M_ledTo 0 = .ok (.iload_n 1, 1) := by decide +kernel
theorem d_M_ledTo_1 : decode b_M_ledTo 1 = .ok (.tableswitch 193 0 10 #[59, 69, 96, 107, 124, 141, 153, 193, 193, 171, 190], 59) := by decide +kernel
theorem d_M_ledTo_60 : decode b_M_ledTo 60 = .ok (.iload_n 0, 1) := by decide +kernel
theorem d_M_ledTo_61 : decode b_M_ledTo 61 = .ok (.ifCond .ne 7, 3) := by decide +kernel
theorem d_M_ledTo_64 : decode b_M_ledTo 64 = .ok (.iconst 1, 1) := by decide +kernel
theorem d_M_ledTo_65 : decode b_M_ledTo 65 = .ok (.goto 4, 3) := by decide +kernel
theorem d_M_ledTo_68 : decode b_M_ledTo 68 = .ok (.iconst (-1), 1) := by decide +kernel
theorem d_M_ledTo_69 : decode b_M_ledTo 69 = .ok (.ireturn, 1) := by decide +kernel
theorem d_M_ledTo_70 : decode b_M_ledTo 70 = .ok (.iload_n 0, 1) := by decide +kernel
theorem d_M_ledTo_71 : decode b_M_ledTo 71 = .ok (.iconst 1, 1) := by decide +kernel
theorem d_M_ledTo_72 : decode b_M_ledTo 72 = .ok (.if_icmp .eq 8, 3) := by decide +kernel
theorem d_M_ledTo_75 : decode b_M_ledTo 75 = .ok (.iload_n 0, 1) := by decide +kernel
theorem d_M_ledTo_76 : decode b_M_ledTo 76 = .ok (.iconst 3, 1) := by decide +kernel
theorem d_M_ledTo_77 : decode b_M_ledTo 77 = .ok (.if_icmp .ne 7, 3) := by decide +kernel
theorem d_M_ledTo_80 : decode b_M_ledTo 80 = .ok (.iconst 2, 1) := by decide +kernel
theorem d_M_ledTo_81 : decode b_M_ledTo 81 = .ok (.goto 15, 3) := by decide +kernel
theorem d_M_ledTo_84 : decode b_M_ledTo 84 = .ok (.iload_n 0, 1) := by decide +kernel
theorem d_M_ledTo_85 : decode b_M_ledTo 85 = .ok (.bipush 7, 2) := by decide +kernel
theorem d_M_ledTo_87 : decode b_M_ledTo 87 = .ok (.if_icmp .ne 8, 3) := by decide +kernel
theorem d_M_ledTo_90 : decode b_M_ledTo 90 = .ok (.bipush 7, 2) := by decide +kernel
theorem d_M_ledTo_92 : decode b_M_ledTo 92 = .ok (.goto 4, 3) := by decide +kernel
theorem d_M_ledTo_95 : decode b_M_ledTo 95 = .ok (.iconst (-1), 1) := by decide +kernel
theorem d_M_ledTo_96 : decode b_M_ledTo 96 = .ok (.ireturn, 1) := by decide +kernel
theorem d_M_ledTo_97 : decode b_M_ledTo 97 = .ok (.iload_n 0, 1) := by decide +kernel
theorem d_M_ledTo_98 : decode b_M_ledTo 98 = .ok (.iconst 2, 1) := by decide +kernel
theorem d_M_ledTo_99 : decode b_M_ledTo 99 = .ok (.if_icmp .ne 7, 3) := by decide +kernel
theorem d_M_ledTo_102 : decode b_M_ledTo 102 = .ok (.iconst 3, 1) := by decide +kernel
theorem d_M_ledTo_103 : decode b_M_ledTo 103 = .ok (.goto 4, 3) := by decide +kernel
theorem d_M_ledTo_106 : decode b_M_ledTo 106 = .ok (.iconst (-1), 1) := by decide +kernel
theorem d_M_ledTo_107 : decode b_M_ledTo 107 = .ok (.ireturn, 1) := by decide +kernel
theorem d_M_ledTo_108 : decode b_M_ledTo 108 = .ok (.iload_n 0, 1) := by decide +kernel
theorem d_M_ledTo_109 : decode b_M_ledTo 109 = .ok (.iconst 3, 1) := by decide +kernel
theorem d_M_ledTo_110 : decode b_M_ledTo 110 = .ok (.if_icmp .eq 9, 3) := by decide +kernel
theorem d_M_ledTo_113 : decode b_M_ledTo 113 = .ok (.iload_n 0, 1) := by decide +kernel
theorem d_M_ledTo_114 : decode b_M_ledTo 114 = .ok (.bipush 6, 2) := by decide +kernel
theorem d_M_ledTo_116 : decode b_M_ledTo 116 = .ok (.if_icmp .ne 7, 3) := by decide +kernel
theorem d_M_ledTo_119 : decode b_M_ledTo 119 = .ok (.iconst 4, 1) := by decide +kernel
theorem d_M_ledTo_120 : decode b_M_ledTo 120 = .ok (.goto 4, 3) := by decide +kernel
theorem d_M_ledTo_123 : decode b_M_ledTo 123 = .ok (.iconst (-1), 1) := by decide +kernel
theorem d_M_ledTo_124 : decode b_M_ledTo 124 = .ok (.ireturn, 1) := by decide +kernel
theorem d_M_ledTo_125 : decode b_M_ledTo 125 = .ok (.iload_n 0, 1) := by decide +kernel
theorem d_M_ledTo_126 : decode b_M_ledTo 126 = .ok (.iconst 4, 1) := by decide +kernel
theorem d_M_ledTo_127 : decode b_M_ledTo 127 = .ok (.if_icmp .eq 9, 3) := by decide +kernel
theorem d_M_ledTo_130 : decode b_M_ledTo 130 = .ok (.iload_n 0, 1) := by decide +kernel
theorem d_M_ledTo_131 : decode b_M_ledTo 131 = .ok (.bipush 7, 2) := by decide +kernel
theorem d_M_ledTo_133 : decode b_M_ledTo 133 = .ok (.if_icmp .ne 7, 3) := by decide +kernel
theorem d_M_ledTo_136 : decode b_M_ledTo 136 = .ok (.iconst 5, 1) := by decide +kernel
theorem d_M_ledTo_137 : decode b_M_ledTo 137 = .ok (.goto 4, 3) := by decide +kernel
theorem d_M_ledTo_140 : decode b_M_ledTo 140 = .ok (.iconst (-1), 1) := by decide +kernel
theorem d_M_ledTo_141 : decode b_M_ledTo 141 = .ok (.ireturn, 1) := by decide +kernel
theorem d_M_ledTo_142 : decode b_M_ledTo 142 = .ok (.iload_n 0, 1) := by decide +kernel
theorem d_M_ledTo_143 : decode b_M_ledTo 143 = .ok (.iconst 4, 1) := by decide +kernel
theorem d_M_ledTo_144 : decode b_M_ledTo 144 = .ok (.if_icmp .ne 8, 3) := by decide +kernel
theorem d_M_ledTo_147 : decode b_M_ledTo 147 = .ok (.bipush 6, 2) := by decide +kernel
theorem d_M_ledTo_149 : decode b_M_ledTo 149 = .ok (.goto 4, 3) := by decide +kernel
theorem d_M_ledTo_152 : decode b_M_ledTo 152 = .ok (.iconst (-1), 1) := by decide +kernel
theorem d_M_ledTo_153 : decode b_M_ledTo 153 = .ok (.ireturn, 1) := by decide +kernel
theorem d_M_ledTo_154 : decode b_M_ledTo 154 = .ok (.iload_n 0, 1) := by decide +kernel
theorem d_M_ledTo_155 : decode b_M_ledTo 155 = .ok (.iconst 4, 1) := by decide +kernel
theorem d_M_ledTo_156 : decode b_M_ledTo 156 = .ok (.if_icmp .eq 9, 3) := by decide +kernel
theorem d_M_ledTo_159 : decode b_M_ledTo 159 = .ok (.iload_n 0, 1) := by decide +kernel
theorem d_M_ledTo_160 : decode b_M_ledTo 160 = .ok (.bipush 6, 2) := by decide +kernel
theorem d_M_ledTo_162 : decode b_M_ledTo 162 = .ok (.if_icmp .ne 8, 3) := by decide +kernel
theorem d_M_ledTo_165 : decode b_M_ledTo 165 = .ok (.bipush 7, 2) := by decide +kernel
theorem d_M_ledTo_167 : decode b_M_ledTo 167 = .ok (.goto 4, 3) := by decide +kernel
theorem d_M_ledTo_170 : decode b_M_ledTo 170 = .ok (.iconst (-1), 1) := by decide +kernel
theorem d_M_ledTo_171 : decode b_M_ledTo 171 = .ok (.ireturn, 1) := by decide +kernel
theorem d_M_ledTo_172 : decode b_M_ledTo 172 = .ok (.iload_n 0, 1) := by decide +kernel
theorem d_M_ledTo_173 : decode b_M_ledTo 173 = .ok (.bipush 7, 2) := by decide +kernel
theorem d_M_ledTo_175 : decode b_M_ledTo 175 = .ok (.if_icmp .eq 9, 3) := by decide +kernel
theorem d_M_ledTo_178 : decode b_M_ledTo 178 = .ok (.iload_n 0, 1) := by decide +kernel
theorem d_M_ledTo_179 : decode b_M_ledTo 179 = .ok (.bipush 6, 2) := by decide +kernel
theorem d_M_ledTo_181 : decode b_M_ledTo 181 = .ok (.if_icmp .ne 8, 3) := by decide +kernel
theorem d_M_ledTo_184 : decode b_M_ledTo 184 = .ok (.bipush 8, 2) := by decide +kernel
theorem d_M_ledTo_186 : decode b_M_ledTo 186 = .ok (.goto 4, 3) := by decide +kernel
theorem d_M_ledTo_189 : decode b_M_ledTo 189 = .ok (.iconst (-1), 1) := by decide +kernel
theorem d_M_ledTo_190 : decode b_M_ledTo 190 = .ok (.ireturn, 1) := by decide +kernel
theorem d_M_ledTo_191 : decode b_M_ledTo 191 = .ok (.bipush 9, 2) := by decide +kernel
theorem d_M_ledTo_193 : decode b_M_ledTo 193 = .ok (.ireturn, 1) := by decide +kernel
theorem d_M_ledTo_194 : decode b_M_ledTo 194 = .ok (.iload_n 0, 1) := by decide +kernel
theorem d_M_ledTo_195 : decode b_M_ledTo 195 = .ok (.ireturn, 1) := by decide +kernel
theorem d_M_mustWait_0 : decode b_M_mustWait 0 = .ok (.aload_n 0, 1) := by decide +kernel
theorem d_M_mustWait_1 : decode b_M_mustWait 1 = .ok (.getfield 53, 3) := by decide +kernel
theorem d_M_mustWait_4 : decode b_M_mustWait 4 = .ok (.iload_n 1, 1) := by decide +kernel
theorem d_M_mustWait_5 : decode b_M_mustWait 5 = .ok (.iaload, 1) := by decide +kernel
theorem d_M_mustWait_6 : decode b_M_mustWait 6 = .ok (.istore_n 2, 1) := by decide +kernel
theorem d_M_mustWait_7 : decode b_M_mustWait 7 = .ok (.iconst 1, 1) := by decide +kernel
theorem d_M_mustWait_8 : decode b_M_mustWait 8 = .ok (.istore_n 3, 1) := by decide +kernel
theorem d_M_mustWait_9 : decode b_M_mustWait 9 = .ok (.iconst 1, 1) := by decide +kernel
theorem d_M_mustWait_10 : decode b_M_mustWait 10 = .ok (.istore 4, 2) := by decide +kernel
theorem d_M_mustWait_12 : decode b_M_mustWait 12 = .ok (.iload 4, 2) := by decide +kernel
theorem d_M_mustWait_14 : decode b_M_mustWait 14 = .ok (.aload_n 0, 1) := by decide +kernel
theorem d_M_mustWait_15 : decode b_M_mustWait 15 = .ok (.getfield 71, 3) := by decide +kernel
theorem d_M_mustWait_18 : decode b_M_mustWait 18 = .ok (.if_icmp .gt 50, 3) := by decide +kernel
theorem d_M_mustWait_21 : decode b_M_mustWait 21 = .ok (.iload_n 3, 1) := by decide +kernel
theorem d_M_mustWait_22 : decode b_M_mustWait 22 = .ok (.ifCond .eq 38, 3) := by decide +kernel
theorem d_M_mustWait_25 : decode b_M_mustWait 25 = .ok (.aload_n 0, 1) := by decide +kernel
theorem d_M_mustWait_26 : decode b_M_mustWait 26 = .ok (.getfield 53, 3) := by decide +kernel
theorem d_M_mustWait_29 : decode b_M_mustWait 29 = .ok (.iload 4, 2) := by decide +kernel
theorem d_M_mustWait_31 : decode b_M_mustWait 31 = .ok (.iaload, 1) := by decide +kernel
theorem d_M_mustWait_32 : decode b_M_mustWait 32 = .ok (.iload_n 2, 1) := by decide +kernel
theorem d_M_mustWait_33 : decode b_M_mustWait 33 = .ok (.if_icmp .ne 23, 3) := by decide +kernel
theorem d_M_mustWait_36 : decode b_M_mustWait 36 = .ok (.aload_n 0, 1) := by decide +kernel
theorem d_M_mustWait_37 : decode b_M_mustWait 37 = .ok (.getfield 25, 3) := by decide +kernel
theorem d_M_mustWait_40 : decode b_M_mustWait 40 = .ok (.iload 4, 2) := by decide +kernel
theorem d_M_mustWait_42 : decode b_M_mustWait 42 = .ok (.iaload, 1) := by decide +kernel
theorem d_M_mustWait_43 : decode b_M_mustWait 43 = .ok (.iconst 4, 1) := by decide +kernel
theorem d_M_mustWait_44 : decode b_M_mustWait 44 = .ok (.if_icmp .eq 12, 3) := by decide +kernel
theorem d_M_mustWait_47 : decode b_M_mustWait 47 = .ok (.aload_n 0, 1) := by decide +kernel
theorem d_M_mustWait_48 : decode b_M_mustWait 48 = .ok (.iload 4, 2) := by decide +kernel
theorem d_M_mustWait_50 : decode b_M_mustWait 50 = .ok (.invokevirtual 100, 3) := by decide +kernel
theorem d_M_mustWait_53 : decode b_M_mustWait 53 = .ok (.ifCond .eq 7, 3) := by decide +kernel
theorem d_M_mustWait_56 : decode b_M_mustWait 56 = .ok (.iconst 1, 1) := by decide +kernel
theorem d_M_mustWait_57 : decode b_M_mustWait 57 = .ok (.goto 4, 3) := by decide +kernel
theorem d_M_mustWait_60 : decode b_M_mustWait 60 = .ok (.iconst 0, 1) := by decide +kernel
theorem d_M_mustWait_61 : decode b_M_mustWait 61 = .ok (.istore_n 3, 1) := by decide +kernel
theorem d_M_mustWait_62 : decode b_M_mustWait 62 = .ok (.iinc 4 1, 3) := by decide +kernel
theorem d_M_mustWait_65 : decode b_M_mustWait 65 = .ok (.goto (-53), 3) := by decide +kernel
theorem d_M_mustWait_68 : decode b_M_mustWait 68 = .ok (.iload_n 2, 1) := by decide +kernel
theorem d_M_mustWait_69 : decode b_M_mustWait 69 = .ok (.ifCond .le 20, 3) := by decide +kernel
theorem d_M_mustWait_72 : decode b_M_mustWait 72 = .ok (.aload_n 0, 1) := by decide +kernel
theorem d_M_mustWait_73 : decode b_M_mustWait 73 = .ok (.getfield 56, 3) := by decide +kernel
theorem d_M_mustWait_76 : decode b_M_mustWait 76 = .ok (.iload_n 2, 1) := by decide +kernel
theorem d_M_mustWait_77 : decode b_M_mustWait 77 = .ok (.baload, 1) := by decide +kernel
theorem d_M_mustWait_78 : decode b_M_mustWait 78 = .ok (.ifCond .eq 11, 3) := by decide +kernel
theorem d_M_mustWait_81 : decode b_M_mustWait 81 = .ok (.iload_n 3, 1) := by decide +kernel
theorem d_M_mustWait_82 : decode b_M_mustWait 82 = .ok (.ifCond .ne 7, 3) := by decide +kernel
theorem d_M_mustWait_85 : decode b_M_mustWait 85 = .ok (.iconst 1, 1) := by decide +kernel
theorem d_M_mustWait_86 : decode b_M_mustWait 86 = .ok (.goto 4, 3) := by decide +kernel
theorem d_M_mustWait_89 : decode b_M_mustWait 89 = .ok (.iconst 0, 1) := by decide +kernel
theorem d_M_mustWait_90 : decode b_M_mustWait 90 = .ok (.ireturn, 1) := by decide +kernel
theorem d_M_event_0 : decode b_M_event 0 = .ok (.aload_n 0, 1) := by decide +kernel
theorem d_M_event_1 : decode b_M_event 1 = .ok (.iload_n 1, 1) := by decide +kernel
theorem d_M_event_2 : decode b_M_event 2 = .ok (.invokevirtual 92, 3) := by decide +kernel
theorem d_M_event_5 : decode b_M_event 5 = .ok (.ifCond .ne 6, 3) := by decide +kernel
theorem d_M_event_8 : decode b_M_event 8 = .ok (.bipush (-101), 2) := by decide +kernel
theorem d_M_event_10 : decode b_M_event 10 = .ok (.ireturn, 1) := by decide +kernel
theorem d_M_event_11 : decode b_M_event 11 = .ok (.iload_n 2, 1) := by decide +kernel
theorem d_M_event_12 : decode b_M_event 12 = .ok (.iconst 0, 1) := by decide +kernel
theorem d_M_event_13 : decode b_M_event 13 = .ok (.bipush 10, 2) := by decide +kernel
theorem d_M_event_15 : decode b_M_event 15 = .ok (.invokestatic 75, 3) := by decide +kernel
theorem d_M_event_18 : decode b_M_event 18 = .ok (.ifCond .ne 6, 3) := by decide +kernel
theorem d_M_event_21 : decode b_M_event 21 = .ok (.bipush (-102), 2) := by decide +kernel
theorem d_M_event_23 : decode b_M_event 23 = .ok (.ireturn, 1) := by decide +kernel
theorem d_M_event_24 : decode b_M_event 24 = .ok (.aload_n 0, 1) := by decide +kernel
theorem d_M_event_25 : decode b_M_event 25 = .ok (.iload_n 1, 1) := by decide +kernel
theorem d_M_event_26 : decode b_M_event 26 = .ok (.invokevirtual 100, 3) := by decide +kernel
theorem d_M_event_29 : decode b_M_event 29 = .ok (.ifCond .eq 16, 3) := by decide +kernel
theorem d_M_event_32 : decode b_M_event 32 = .ok (.aload_n 0, 1) := by decide +kernel
theorem d_M_event_33 : decode b_M_event 33 = .ok (.getfield 32, 3) := by decide +kernel
theorem d_M_event_36 : decode b_M_event 36 = .ok (.iload_n 1, 1) := by decide +kernel
theorem d_M_event_37 : decode b_M_event 37 = .ok (.dup2, 1) := by decide +kernel
theorem d_M_event_38 : decode b_M_event 38 = .ok (.iaload, 1) := by decide +kernel
theorem d_M_event_39 : decode b_M_event 39 = .ok (.iconst 1, 1) := by decide +kernel
theorem d_M_event_40 : decode b_M_event 40 = .ok (.iadd, 1) := by decide +kernel
theorem d_M_event_41 : decode b_M_event 41 = .ok (.iastore, 1) := by decide +kernel
theorem d_M_event_42 : decode b_M_event 42 = .ok (.bipush (-105), 2) := by decide +kernel
theorem d_M_event_44 : decode b_M_event 44 = .ok (.ireturn, 1) := by decide +kernel
theorem d_M_event_45 : decode b_M_event 45 = .ok (.aload_n 0, 1) := by decide +kernel
theorem d_M_event_46 : decode b_M_event 46 = .ok (.getfield 25, 3) := by decide +kernel
theorem d_M_event_49 : decode b_M_event 49 = .ok (.iload_n 1, 1) := by decide +kernel
theorem d_M_event_50 : decode b_M_event 50 = .ok (.iaload, 1) := by decide +kernel
theorem d_M_event_51 : decode b_M_event 51 = .ok (.iload_n 2, 1) := by decide +kernel
theorem d_M_event_52 : decode b_M_event 52 = .ok (.invokestatic 106, 3) := by decide +kernel
theorem d_M_event_55 : decode b_M_event 55 = .ok (.istore_n 3, 1) := by decide +kernel
theorem d_M_event_56 : decode b_M_event 56 = .ok (.iload_n 3, 1) := by decide +kernel
theorem d_M_event_57 : decode b_M_event 57 = .ok (.iconst (-1), 1) := by decide +kernel
theorem d_M_event_58 : decode b_M_event 58 = .ok (.if_icmp .eq 39, 3) := by decide +kernel
theorem d_M_event_61 : decode b_M_event 61 = .ok (.aload_n 0, 1) := by decide +kernel
theorem d_M_event_62 : decode b_M_event 62 = .ok (.getfield 28, 3) := by decide +kernel
theorem d_M_event_65 : decode b_M_event 65 = .ok (.iload_n 1, 1) := by decide +kernel
theorem d_M_event_66 : decode b_M_event 66 = .ok (.baload, 1) := by decide +kernel
theorem d_M_event_67 : decode b_M_event 67 = .ok (.ifCond .eq 15, 3) := by decide +kernel
theorem d_M_event_70 : decode b_M_event 70 = .ok (.iload_n 2, 1) := by decide +kernel
theorem d_M_event_71 : decode b_M_event 71 = .ok (.bipush 8, 2) := by decide +kernel
theorem d_M_event_73 : decode b_M_event 73 = .ok (.if_icmp .eq 9, 3) := by decide +kernel
theorem d_M_event_76 : decode b_M_event 76 = .ok (.iload_n 2, 1) := by decide +kernel
theorem d_M_event_77 : decode b_M_event 77 = .ok (.bipush 10, 2) := by decide +kernel
theorem d_M_event_79 : decode b_M_event 79 = .ok (.if_icmp .ne 18, 3) := by decide +kernel
theorem d_M_event_82 : decode b_M_event 82 = .ok (.iload_n 2, 1) := by decide +kernel
theorem d_M_event_83 : decode b_M_event 83 = .ok (.bipush 8, 2) := by decide +kernel
theorem d_M_event_85 : decode b_M_event 85 = .ok (.if_icmp .ne 15, 3) := by decide +kernel
theorem d_M_event_88 : decode b_M_event 88 = .ok (.aload_n 0, 1) := by decide +kernel
theorem d_M_event_89 : decode b_M_event 89 = .ok (.getfield 28, 3) := by decide +kernel
theorem d_M_event_92 : decode b_M_event 92 = .ok (.iload_n 1, 1) := by decide +kernel
theorem d_M_event_93 : decode b_M_event 93 = .ok (.baload, 1) := by decide +kernel
theorem d_M_event_94 : decode b_M_event 94 = .ok (.ifCond .ne 6, 3) := by decide +kernel
theorem d_M_event_97 : decode b_M_event 97 = .ok (.bipush (-103), 2) := by decide +kernel
theorem d_M_event_99 : decode b_M_event 99 = .ok (.ireturn, 1) := by decide +kernel
theorem d_M_event_100 : decode b_M_event 100 = .ok (.iload_n 2, 1) := by decide +kernel
theorem d_M_event_101 : decode b_M_event 101 = .ok (.iconst 2, 1) := by decide +kernel
theorem d_M_event_102 : decode b_M_event 102 = .ok (.if_icmp .ne 24, 3) := by decide +kernel
theorem d_M_event_105 : decode b_M_event 105 = .ok (.aload_n 0, 1) := by decide +kernel
theorem d_M_event_106 : decode b_M_event 106 = .ok (.getfield 41, 3) := by decide +kernel
theorem d_M_event_109 : decode b_M_event 109 = .ok (.iload_n 1, 1) := by decide +kernel
theorem d_M_event_110 : decode b_M_event 110 = .ok (.iaload, 1) := by decide +kernel
theorem d_M_event_111 : decode b_M_event 111 = .ok (.ifCond .le 15, 3) := by decide +kernel
theorem d_M_event_114 : decode b_M_event 114 = .ok (.aload_n 0, 1) := by decide +kernel
theorem d_M_event_115 : decode b_M_event 115 = .ok (.getfield 44, 3) := by decide +kernel
theorem d_M_event_118 : decode b_M_event 118 = .ok (.iload_n 1, 1) := by decide +kernel
theorem d_M_event_119 : decode b_M_event 119 = .ok (.iaload, 1) := by decide +kernel
theorem d_M_event_120 : decode b_M_event 120 = .ok (.ifCond .ne 6, 3) := by decide +kernel
theorem d_M_event_123 : decode b_M_event 123 = .ok (.bipush (-106), 2) := by decide +kernel
theorem d_M_event_125 : decode b_M_event 125 = .ok (.ireturn, 1) := by decide +kernel
theorem d_M_event_126 : decode b_M_event 126 = .ok (.iload_n 2, 1) := by decide +kernel
theorem d_M_event_127 : decode b_M_event 127 = .ok (.iconst 4, 1) := by decide +kernel
theorem d_M_event_128 : decode b_M_event 128 = .ok (.if_icmp .ne 24, 3) := by decide +kernel
theorem d_M_event_131 : decode b_M_event 131 = .ok (.aload_n 0, 1) := by decide +kernel
theorem d_M_event_132 : decode b_M_event 132 = .ok (.getfield 25, 3) := by decide +kernel
theorem d_M_event_135 : decode b_M_event 135 = .ok (.iload_n 1, 1) := by decide +kernel
theorem d_M_event_136 : decode b_M_event 136 = .ok (.iaload, 1) := by decide +kernel
theorem d_M_event_137 : decode b_M_event 137 = .ok (.iconst 4, 1) := by decide +kernel
theorem d_M_event_138 : decode b_M_event 138 = .ok (.if_icmp .ne 14, 3) := by decide +kernel
theorem d_M_event_141 : decode b_M_event 141 = .ok (.aload_n 0, 1) := by decide +kernel
theorem d_M_event_142 : decode b_M_event 142 = .ok (.iload_n 1, 1) := by decide +kernel
theorem d_M_event_143 : decode b_M_event 143 = .ok (.invokevirtual 109, 3) := by decide +kernel
theorem d_M_event_146 : decode b_M_event 146 = .ok (.ifCond .eq 6, 3) := by decide +kernel
theorem d_M_event_149 : decode b_M_event 149 = .ok (.bipush (-107), 2) := by decide +kernel
theorem d_M_event_151 : decode b_M_event 151 = .ok (.ireturn, 1) := by decide +kernel
theorem d_M_event_152 : decode b_M_event 152 = .ok (.aload_n 0, 1) := by decide +kernel
theorem d_M_event_153 : decode b_M_event 153 = .ok (.getfield 28, 3) := by decide +kernel
theorem d_M_event_156 : decode b_M_event 156 = .ok (.iload_n 1, 1) := by decide +kernel
theorem d_M_event_157 : decode b_M_event 157 = .ok (.iload_n 2, 1) := by decide +kernel
theorem d_M_event_158 : decode b_M_event 158 = .ok (.bipush 7, 2) := by decide +kernel
theorem d_M_event_160 : decode b_M_event 160 = .ok (.if_icmp .eq 18, 3) := by decide +kernel
theorem d_M_event_163 : decode b_M_event 163 = .ok (.iload_n 2, 1) := by decide +kernel
theorem d_M_event_164 : decode b_M_event 164 = .ok (.bipush 8, 2) := by decide +kernel
theorem d_M_event_166 : decode b_M_event 166 = .ok (.if_icmp .eq 16, 3) := by decide +kernel
theorem d_M_event_169 : decode b_M_event 169 = .ok (.aload_n 0, 1) := by decide +kernel
theorem d_M_event_170 : decode b_M_event 170 = .ok (.getfield 28, 3) := by decide +kernel
theorem d_M_event_173 : decode b_M_event 173 = .ok (.iload_n 1, 1) := by decide +kernel
theorem d_M_event_174 : decode b_M_event 174 = .ok (.baload, 1) := by decide +kernel
theorem d_M_event_175 : decode b_M_event 175 = .ok (.ifCond .eq 7, 3) := by decide +kernel
theorem d_M_event_178 : decode b_M_event 178 = .ok (.iconst 1, 1) := by decide +kernel
theorem d_M_event_179 : decode b_M_event 179 = .ok (.goto 4, 3) := by decide +kernel
theorem d_M_event_182 : decode b_M_event 182 = .ok (.iconst 0, 1) := by decide +kernel
theorem d_M_event_183 : decode b_M_event 183 = .ok (.bastore, 1) := by decide +kernel
theorem d_M_event_184 : decode b_M_event 184 = .ok (.aload_n 0, 1) := by decide +kernel
theorem d_M_event_185 : decode b_M_event 185 = .ok (.getfield 25, 3) := by decide +kernel
theorem d_M_event_188 : decode b_M_event 188 = .ok (.iload_n 1, 1) := by decide +kernel
theorem d_M_event_189 : decode b_M_event 189 = .ok (.iload_n 3, 1) := by decide +kernel
theorem d_M_event_190 : decode b_M_event 190 = .ok (.iastore, 1) := by decide +kernel
theorem d_M_event_191 : decode b_M_event 191 = .ok (.iload_n 3, 1) := by decide +kernel
theorem d_M_event_192 : decode b_M_event 192 = .ok (.ireturn, 1) := by decide +kernel
theorem d_M_address_0 : decode b_M_address 0 = .ok (.aload_n 0, 1) := by decide +kernel
theorem d_M_address_1 : decode b_M_address 1 = .ok (.iload_n 1, 1) := by decide +kernel
theorem d_M_address_2 : decode b_M_address 2 = .ok (.invokevirtual 92, 3) := by decide +kernel
theorem d_M_address_5 : decode b_M_address 5 = .ok (.ifCond .ne 6, 3) := by decide +kernel
theorem d_M_address_8 : decode b_M_address 8 = .ok (.bipush (-101), 2) := by decide +kernel
theorem d_M_address_10 : decode b_M_address 10 = .ok (.ireturn, 1) := by decide +kernel
theorem d_M_address_11 : decode b_M_address 11 = .ok (.iload_n 2, 1) := by decide +kernel
theorem d_M_address_12 : decode b_M_address 12 = .ok (.iconst 0, 1) := by decide +kernel
theorem d_M_address_13 : decode b_M_address 13 = .ok (.iconst 1, 1) := by decide +kernel
theorem d_M_address_14 : decode b_M_address 14 = .ok (.invokestatic 75, 3) := by decide +kernel
theorem d_M_address_17 : decode b_M_address 17 = .ok (.ifCond .eq 14, 3) := by decide +kernel
theorem d_M_address_20 : decode b_M_address 20 = .ok (.iload_n 3, 1) := by decide +kernel
theorem d_M_address_21 : decode b_M_address 21 = .ok (.iconst 0, 1) := by decide +kernel
theorem d_M_address_22 : decode b_M_address 22 = .ok (.sipush 9999, 3) := by decide +kernel
theorem d_M_address_25 : decode b_M_address 25 = .ok (.invokestatic 75, 3) := by decide +kernel
theorem d_M_address_28 : decode b_M_address 28 = .ok (.ifCond .ne 6, 3) := by decide +kernel
theorem d_M_address_31 : decode b_M_address 31 = .ok (.bipush (-102), 2) := by decide +kernel
theorem d_M_address_33 : decode b_M_address 33 = .ok (.ireturn, 1) := by decide +kernel
theorem d_M_address_34 : decode b_M_address 34 = .ok (.aload_n 0, 1) := by decide +kernel
theorem d_M_address_35 : decode b_M_address 35 = .ok (.iload_n 1, 1) := by decide +kernel
theorem d_M_address_36 : decode b_M_address 36 = .ok (.invokevirtual 100, 3) := by decide +kernel
theorem d_M_address_39 : decode b_M_address 39 = .ok (.ifCond .ne 13, 3) := by decide +kernel
theorem d_M_address_42 : decode b_M_address 42 = .ok (.aload_n 0, 1) := by decide +kernel
theorem d_M_address_43 : decode b_M_address 43 = .ok (.getfield 38, 3) := by decide +kernel
theorem d_M_address_46 : decode b_M_address 46 = .ok (.iload_n 1, 1) := by decide +kernel
theorem d_M_address_47 : decode b_M_address 47 = .ok (.iaload, 1) := by decide +kernel
theorem d_M_address_48 : decode b_M_address 48 = .ok (.iconst (-1), 1) := by decide +kernel
theorem d_M_address_49 : decode b_M_address 49 = .ok (.if_icmp .eq 6, 3) := by decide +kernel
theorem d_M_address_52 : decode b_M_address 52 = .ok (.bipush (-103), 2) := by decide +kernel
theorem d_M_address_54 : decode b_M_address 54 = .ok (.ireturn, 1) := by decide +kernel
theorem d_M_address_55 : decode b_M_address 55 = .ok (.iload_n 2, 1) := by decide +kernel
theorem d_M_address_56 : decode b_M_address 56 = .ok (.ifCond .ne 12, 3) := by decide +kernel
theorem d_M_address_59 : decode b_M_address 59 = .ok (.aload_n 0, 1) := by decide +kernel
theorem d_M_address_60 : decode b_M_address 60 = .ok (.getfield 35, 3) := by decide +kernel
theorem d_M_address_63 : decode b_M_address 63 = .ok (.iload_n 1, 1) := by decide +kernel
theorem d_M_address_64 : decode b_M_address 64 = .ok (.iaload, 1) := by decide +kernel
theorem d_M_address_65 : decode b_M_address 65 = .ok (.goto 9, 3) := by decide +kernel
theorem d_M_address_68 : decode b_M_address 68 = .ok (.aload_n 0, 1) := by decide +kernel
theorem d_M_address_69 : decode b_M_address 69 = .ok (.getfield 38, 3) := by decide +kernel
theorem d_M_address_72 : decode b_M_address 72 = .ok (.iload_n 1, 1) := by decide +kernel
theorem d_M_address_73 : decode b_M_address 73 = .ok (.iaload, 1) := by decide +kernel
theorem d_M_address_74 : decode b_M_address 74 = .ok (.istore 4, 2) := by decide +kernel
theorem d_M_address_76 : decode b_M_address 76 = .ok (.iload_n 2, 1) := by decide +kernel
theorem d_M_address_77 : decode b_M_address 77 = .ok (.ifCond .ne 13, 3) := by decide +kernel
theorem d_M_address_80 : decode b_M_address 80 = .ok (.aload_n 0, 1) := by decide +kernel
theorem d_M_address_81 : decode b_M_address 81 = .ok (.getfield 35, 3) := by decide +kernel
theorem d_M_address_84 : decode b_M_address 84 = .ok (.iload_n 1, 1) := by decide +kernel
theorem d_M_address_85 : decode b_M_address 85 = .ok (.iload_n 3, 1) := by decide +kernel
theorem d_M_address_86 : decode b_M_address 86 = .ok (.iastore, 1) := by decide +kernel
theorem d_M_address_87 : decode b_M_address 87 = .ok (.goto 10, 3) := by decide +kernel
theorem d_M_address_90 : decode b_M_address 90 = .ok (.aload_n 0, 1) := by decide +kernel
theorem d_M_address_91 : decode b_M_address 91 = .ok (.getfield 38, 3) := by decide +kernel
theorem d_M_address_94 : decode b_M_address 94 = .ok (.iload_n 1, 1) := by decide +kernel
theorem d_M_address_95 : decode b_M_address 95 = .ok (.iload_n 3, 1) := by decide +kernel
theorem d_M_address_96 : decode b_M_address 96 = .ok (.iastore, 1) := by decide +kernel
theorem d_M_address_97 : decode b_M_address 97 = .ok (.iload 4, 2) := by decide +kernel
theorem d_M_address_99 : decode b_M_address 99 = .ok (.ireturn, 1) := by decide +kernel
theorem d_M_abroad_0 : decode b_M_abroad 0 = .ok (.aload_n 0, 1) := by decide +kernel
theorem d_M_abroad_1 : decode b_M_abroad 1 = .ok (.iload_n 1, 1) := by decide +kernel
theorem d_M_abroad_2 : decode b_M_abroad 2 = .ok (.invokevirtual 92, 3) := by decide +kernel
theorem d_M_abroad_5 : decode b_M_abroad 5 = .ok (.ifCond .ne 6, 3) := by decide +kernel
theorem d_M_abroad_8 : decode b_M_abroad 8 = .ok (.bipush (-101), 2) := by decide +kernel
theorem d_M_abroad_10 : decode b_M_abroad 10 = .ok (.ireturn, 1) := by decide +kernel
theorem d_M_abroad_11 : decode b_M_abroad 11 = .ok (.iload_n 2, 1) := by decide +kernel
theorem d_M_abroad_12 : decode b_M_abroad 12 = .ok (.iconst 1, 1) := by decide +kernel
theorem d_M_abroad_13 : decode b_M_abroad 13 = .ok (.bipush 30, 2) := by decide +kernel
theorem d_M_abroad_15 : decode b_M_abroad 15 = .ok (.invokestatic 75, 3) := by decide +kernel
theorem d_M_abroad_18 : decode b_M_abroad 18 = .ok (.ifCond .ne 6, 3) := by decide +kernel
theorem d_M_abroad_21 : decode b_M_abroad 21 = .ok (.bipush (-102), 2) := by decide +kernel
theorem d_M_abroad_23 : decode b_M_abroad 23 = .ok (.ireturn, 1) := by decide +kernel
theorem d_M_abroad_24 : decode b_M_abroad 24 = .ok (.aload_n 0, 1) := by decide +kernel
theorem d_M_abroad_25 : decode b_M_abroad 25 = .ok (.getfield 41, 3) := by decide +kernel
theorem d_M_abroad_28 : decode b_M_abroad 28 = .ok (.iload_n 1, 1) := by decide +kernel
theorem d_M_abroad_29 : decode b_M_abroad 29 = .ok (.iaload, 1) := by decide +kernel
theorem d_M_abroad_30 : decode b_M_abroad 30 = .ok (.ifCond .gt 13, 3) := by decide +kernel
theorem d_M_abroad_33 : decode b_M_abroad 33 = .ok (.aload_n 0, 1) := by decide +kernel
theorem d_M_abroad_34 : decode b_M_abroad 34 = .ok (.getfield 25, 3) := by decide +kernel
theorem d_M_abroad_37 : decode b_M_abroad 37 = .ok (.iload_n 1, 1) := by decide +kernel
theorem d_M_abroad_38 : decode b_M_abroad 38 = .ok (.iaload, 1) := by decide +kernel
theorem d_M_abroad_39 : decode b_M_abroad 39 = .ok (.iconst 1, 1) := by decide +kernel
theorem d_M_abroad_40 : decode b_M_abroad 40 = .ok (.if_icmp .le 6, 3) := by decide +kernel
theorem d_M_abroad_43 : decode b_M_abroad 43 = .ok (.bipush (-103), 2) := by decide +kernel
theorem d_M_abroad_45 : decode b_M_abroad 45 = .ok (.ireturn, 1) := by decide +kernel
theorem d_M_abroad_46 : decode b_M_abroad 46 = .ok (.aload_n 0, 1) := by decide +kernel
theorem d_M_abroad_47 : decode b_M_abroad 47 = .ok (.getfield 41, 3) := by decide +kernel
theorem d_M_abroad_50 : decode b_M_abroad 50 = .ok (.iload_n 1, 1) := by decide +kernel
theorem d_M_abroad_51 : decode b_M_abroad 51 = .ok (.iload_n 2, 1) := by decide +kernel
theorem d_M_abroad_52 : decode b_M_abroad 52 = .ok (.iastore, 1) := by decide +kernel
theorem d_M_abroad_53 : decode b_M_abroad 53 = .ok (.iconst 1, 1) := by decide +kernel
theorem d_M_abroad_54 : decode b_M_abroad 54 = .ok (.ireturn, 1) := by decide +kernel
theorem d_M_contents_0 : decode b_M_contents 0 = .ok (.aload_n 0, 1) := by decide +kernel
theorem d_M_contents_1 : decode b_M_contents 1 = .ok (.iload_n 1, 1) := by decide +kernel
theorem d_M_contents_2 : decode b_M_contents 2 = .ok (.invokevirtual 92, 3) := by decide +kernel
theorem d_M_contents_5 : decode b_M_contents 5 = .ok (.ifCond .ne 6, 3) := by decide +kernel
theorem d_M_contents_8 : decode b_M_contents 8 = .ok (.bipush (-101), 2) := by decide +kernel
theorem d_M_contents_10 : decode b_M_contents 10 = .ok (.ireturn, 1) := by decide +kernel
theorem d_M_contents_11 : decode b_M_contents 11 = .ok (.iload_n 2, 1) := by decide +kernel
theorem d_M_contents_12 : decode b_M_contents 12 = .ok (.iconst 0, 1) := by decide +kernel
theorem d_M_contents_13 : decode b_M_contents 13 = .ok (.bipush 99, 2) := by decide +kernel
theorem d_M_contents_15 : decode b_M_contents 15 = .ok (.invokestatic 75, 3) := by decide +kernel
theorem d_M_contents_18 : decode b_M_contents 18 = .ok (.ifCond .eq 13, 3) := by decide +kernel
theorem d_M_contents_21 : decode b_M_contents 21 = .ok (.iload_n 3, 1) := by decide +kernel
theorem d_M_contents_22 : decode b_M_contents 22 = .ok (.iconst 0, 1) := by decide +kernel
theorem d_M_contents_23 : decode b_M_contents 23 = .ok (.ldc 83, 2) := by decide +kernel
theorem d_M_contents_25 : decode b_M_contents 25 = .ok (.invokestatic 75, 3) := by decide +kernel
theorem d_M_contents_28 : decode b_M_contents 28 = .ok (.ifCond .ne 6, 3) := by decide +kernel
theorem d_M_contents_31 : decode b_M_contents 31 = .ok (.bipush (-102), 2) := by decide +kernel
theorem d_M_contents_33 : decode b_M_contents 33 = .ok (.ireturn, 1) := by decide +kernel
theorem d_M_contents_34 : decode b_M_contents 34 = .ok (.aload_n 0, 1) := by decide +kernel
theorem d_M_contents_35 : decode b_M_contents 35 = .ok (.getfield 41, 3) := by decide +kernel
theorem d_M_contents_38 : decode b_M_contents 38 = .ok (.iload_n 1, 1) := by decide +kernel
theorem d_M_contents_39 : decode b_M_contents 39 = .ok (.iaload, 1) := by decide +kernel
theorem d_M_contents_40 : decode b_M_contents 40 = .ok (.ifCond .eq 11, 3) := by decide +kernel
theorem d_M_contents_43 : decode b_M_contents 43 = .ok (.aload_n 0, 1) := by decide +kernel
theorem d_M_contents_44 : decode b_M_contents 44 = .ok (.iload_n 1, 1) := by decide +kernel
theorem d_M_contents_45 : decode b_M_contents 45 = .ok (.invokevirtual 100, 3) := by decide +kernel
theorem d_M_contents_48 : decode b_M_contents 48 = .ok (.ifCond .eq 6, 3) := by decide +kernel
theorem d_M_contents_51 : decode b_M_contents 51 = .ok (.bipush (-103), 2) := by decide +kernel
theorem d_M_contents_53 : decode b_M_contents 53 = .ok (.ireturn, 1) := by decide +kernel
theorem d_M_contents_54 : decode b_M_contents 54 = .ok (.aload_n 0, 1) := by decide +kernel
theorem d_M_contents_55 : decode b_M_contents 55 = .ok (.getfield 44, 3) := by decide +kernel
theorem d_M_contents_58 : decode b_M_contents 58 = .ok (.iload_n 1, 1) := by decide +kernel
theorem d_M_contents_59 : decode b_M_contents 59 = .ok (.iaload, 1) := by decide +kernel
theorem d_M_contents_60 : decode b_M_contents 60 = .ok (.iconst 4, 1) := by decide +kernel
theorem d_M_contents_61 : decode b_M_contents 61 = .ok (.if_icmp .ne 6, 3) := by decide +kernel
theorem d_M_contents_64 : decode b_M_contents 64 = .ok (.bipush (-104), 2) := by decide +kernel
theorem d_M_contents_66 : decode b_M_contents 66 = .ok (.ireturn, 1) := by decide +kernel
theorem d_M_contents_67 : decode b_M_contents 67 = .ok (.aload_n 0, 1) := by decide +kernel
theorem d_M_contents_68 : decode b_M_contents 68 = .ok (.getfield 47, 3) := by decide +kernel
theorem d_M_contents_71 : decode b_M_contents 71 = .ok (.iconst 4, 1) := by decide +kernel
theorem d_M_contents_72 : decode b_M_contents 72 = .ok (.iload_n 1, 1) := by decide +kernel
theorem d_M_contents_73 : decode b_M_contents 73 = .ok (.imul, 1) := by decide +kernel
theorem d_M_contents_74 : decode b_M_contents 74 = .ok (.aload_n 0, 1) := by decide +kernel
theorem d_M_contents_75 : decode b_M_contents 75 = .ok (.getfield 44, 3) := by decide +kernel
theorem d_M_contents_78 : decode b_M_contents 78 = .ok (.iload_n 1, 1) := by decide +kernel
theorem d_M_contents_79 : decode b_M_contents 79 = .ok (.iaload, 1) := by decide +kernel
theorem d_M_contents_80 : decode b_M_contents 80 = .ok (.iadd, 1) := by decide +kernel
theorem d_M_contents_81 : decode b_M_contents 81 = .ok (.iload_n 2, 1) := by decide +kernel
theorem d_M_contents_82 : decode b_M_contents 82 = .ok (.iastore, 1) := by decide +kernel
theorem d_M_contents_83 : decode b_M_contents 83 = .ok (.aload_n 0, 1) := by decide +kernel
theorem d_M_contents_84 : decode b_M_contents 84 = .ok (.getfield 50, 3) := by decide +kernel
theorem d_M_contents_87 : decode b_M_contents 87 = .ok (.iconst 4, 1) := by decide +kernel
theorem d_M_contents_88 : decode b_M_contents 88 = .ok (.iload_n 1, 1) := by decide +kernel
theorem d_M_contents_89 : decode b_M_contents 89 = .ok (.imul, 1) := by decide +kernel
theorem d_M_contents_90 : decode b_M_contents 90 = .ok (.aload_n 0, 1) := by decide +kernel
theorem d_M_contents_91 : decode b_M_contents 91 = .ok (.getfield 44, 3) := by decide +kernel
theorem d_M_contents_94 : decode b_M_contents 94 = .ok (.iload_n 1, 1) := by decide +kernel
theorem d_M_contents_95 : decode b_M_contents 95 = .ok (.iaload, 1) := by decide +kernel
theorem d_M_contents_96 : decode b_M_contents 96 = .ok (.iadd, 1) := by decide +kernel
theorem d_M_contents_97 : decode b_M_contents 97 = .ok (.iload_n 3, 1) := by decide +kernel
theorem d_M_contents_98 : decode b_M_contents 98 = .ok (.iastore, 1) := by decide +kernel
theorem d_M_contents_99 : decode b_M_contents 99 = .ok (.aload_n 0, 1) := by decide +kernel
theorem d_M_contents_100 : decode b_M_contents 100 = .ok (.getfield 44, 3) := by decide +kernel
theorem d_M_contents_103 : decode b_M_contents 103 = .ok (.iload_n 1, 1) := by decide +kernel
theorem d_M_contents_104 : decode b_M_contents 104 = .ok (.dup2, 1) := by decide +kernel
theorem d_M_contents_105 : decode b_M_contents 105 = .ok (.iaload, 1) := by decide +kernel
theorem d_M_contents_106 : decode b_M_contents 106 = .ok (.iconst 1, 1) := by decide +kernel
theorem d_M_contents_107 : decode b_M_contents 107 = .ok (.iadd, 1) := by decide +kernel
theorem d_M_contents_108 : decode b_M_contents 108 = .ok (.iastore, 1) := by decide +kernel
theorem d_M_contents_109 : decode b_M_contents 109 = .ok (.aload_n 0, 1) := by decide +kernel
theorem d_M_contents_110 : decode b_M_contents 110 = .ok (.getfield 44, 3) := by decide +kernel
theorem d_M_contents_113 : decode b_M_contents 113 = .ok (.iload_n 1, 1) := by decide +kernel
theorem d_M_contents_114 : decode b_M_contents 114 = .ok (.iaload, 1) := by decide +kernel
theorem d_M_contents_115 : decode b_M_contents 115 = .ok (.ireturn, 1) := by decide +kernel
theorem d_M_belonging_0 : decode b_M_belonging 0 = .ok (.iconst 0, 1) := by decide +kernel
theorem d_M_belonging_1 : decode b_M_belonging 1 = .ok (.istore_n 3, 1) := by decide +kernel
theorem d_M_belonging_2 : decode b_M_belonging 2 = .ok (.iconst 1, 1) := by decide +kernel
theorem d_M_belonging_3 : decode b_M_belonging 3 = .ok (.istore 4, 2) := by decide +kernel
theorem d_M_belonging_5 : decode b_M_belonging 5 = .ok (.iload 4, 2) := by decide +kernel
theorem d_M_belonging_7 : decode b_M_belonging 7 = .ok (.aload_n 0, 1) := by decide +kernel
theorem d_M_belonging_8 : decode b_M_belonging 8 = .ok (.getfield 71, 3) := by decide +kernel
theorem d_M_belonging_11 : decode b_M_belonging 11 = .ok (.if_icmp .gt 25, 3) := by decide +kernel
theorem d_M_belonging_14 : decode b_M_belonging 14 = .ok (.iload_n 3, 1) := by decide +kernel
theorem d_M_belonging_15 : decode b_M_belonging 15 = .ok (.aload_n 1, 1) := by decide +kernel
theorem d_M_belonging_16 : decode b_M_belonging 16 = .ok (.iload 4, 2) := by decide +kernel
theorem d_M_belonging_18 : decode b_M_belonging 18 = .ok (.iaload, 1) := by decide +kernel
theorem d_M_belonging_19 : decode b_M_belonging 19 = .ok (.iload_n 2, 1) := by decide +kernel
theorem d_M_belonging_20 : decode b_M_belonging 20 = .ok (.if_icmp .ne 7, 3) := by decide +kernel
theorem d_M_belonging_23 : decode b_M_belonging 23 = .ok (.iconst 1, 1) := by decide +kernel
theorem d_M_belonging_24 : decode b_M_belonging 24 = .ok (.goto 4, 3) := by decide +kernel
theorem d_M_belonging_27 : decode b_M_belonging 27 = .ok (.iconst 0, 1) := by decide +kernel
theorem d_M_belonging_28 : decode b_M_belonging 28 = .ok (.iadd, 1) := by decide +kernel
theorem d_M_belonging_29 : decode b_M_belonging 29 = .ok (.istore_n 3, 1) := by decide +kernel
theorem d_M_belonging_30 : decode b_M_belonging 30 = .ok (.iinc 4 1, 3) := by decide +kernel
theorem d_M_belonging_33 : decode b_M_belonging 33 = .ok (.goto (-28), 3) := by decide +kernel
theorem d_M_belonging_36 : decode b_M_belonging 36 = .ok (.iload_n 3, 1) := by decide +kernel
theorem d_M_belonging_37 : decode b_M_belonging 37 = .ok (.ireturn, 1) := by decide +kernel
theorem d_M_join_0 : decode b_M_join 0 = .ok (.aload_n 0, 1) := by decide +kernel
theorem d_M_join_1 : decode b_M_join 1 = .ok (.iload_n 1, 1) := by decide +kernel
theorem d_M_join_2 : decode b_M_join 2 = .ok (.invokevirtual 92, 3) := by decide +kernel
theorem d_M_join_5 : decode b_M_join 5 = .ok (.ifCond .ne 6, 3) := by decide +kernel
theorem d_M_join_8 : decode b_M_join 8 = .ok (.bipush (-101), 2) := by decide +kernel
theorem d_M_join_10 : decode b_M_join 10 = .ok (.ireturn, 1) := by decide +kernel
theorem d_M_join_11 : decode b_M_join 11 = .ok (.iload_n 2, 1) := by decide +kernel
theorem d_M_join_12 : decode b_M_join 12 = .ok (.iconst 1, 1) := by decide +kernel
theorem d_M_join_13 : decode b_M_join 13 = .ok (.bipush 30, 2) := by decide +kernel
theorem d_M_join_15 : decode b_M_join 15 = .ok (.invokestatic 75, 3) := by decide +kernel
theorem d_M_join_18 : decode b_M_join 18 = .ok (.ifCond .ne 6, 3) := by decide +kernel
theorem d_M_join_21 : decode b_M_join 21 = .ok (.bipush (-102), 2) := by decide +kernel
theorem d_M_join_23 : decode b_M_join 23 = .ok (.ireturn, 1) := by decide +kernel
theorem d_M_join_24 : decode b_M_join 24 = .ok (.aload_n 0, 1) := by decide +kernel
theorem d_M_join_25 : decode b_M_join 25 = .ok (.getfield 53, 3) := by decide +kernel
theorem d_M_join_28 : decode b_M_join 28 = .ok (.iload_n 1, 1) := by decide +kernel
theorem d_M_join_29 : decode b_M_join 29 = .ok (.iaload, 1) := by decide +kernel
theorem d_M_join_30 : decode b_M_join 30 = .ok (.ifCond .gt 11, 3) := by decide +kernel
theorem d_M_join_33 : decode b_M_join 33 = .ok (.aload_n 0, 1) := by decide +kernel
theorem d_M_join_34 : decode b_M_join 34 = .ok (.iload_n 1, 1) := by decide +kernel
theorem d_M_join_35 : decode b_M_join 35 = .ok (.invokevirtual 100, 3) := by decide +kernel
theorem d_M_join_38 : decode b_M_join 38 = .ok (.ifCond .eq 6, 3) := by decide +kernel
theorem d_M_join_41 : decode b_M_join 41 = .ok (.bipush (-103), 2) := by decide +kernel
theorem d_M_join_43 : decode b_M_join 43 = .ok (.ireturn, 1) := by decide +kernel
theorem d_M_join_44 : decode b_M_join 44 = .ok (.aload_n 0, 1) := by decide +kernel
theorem d_M_join_45 : decode b_M_join 45 = .ok (.aload_n 0, 1) := by decide +kernel
theorem d_M_join_46 : decode b_M_join 46 = .ok (.getfield 53, 3) := by decide +kernel
theorem d_M_join_49 : decode b_M_join 49 = .ok (.iload_n 2, 1) := by decide +kernel
theorem d_M_join_50 : decode b_M_join 50 = .ok (.invokevirtual 112, 3) := by decide +kernel
theorem d_M_join_53 : decode b_M_join 53 = .ok (.ifCond .ne 10, 3) := by decide +kernel
theorem d_M_join_56 : decode b_M_join 56 = .ok (.aload_n 0, 1) := by decide +kernel
theorem d_M_join_57 : decode b_M_join 57 = .ok (.getfield 56, 3) := by decide +kernel
theorem d_M_join_60 : decode b_M_join 60 = .ok (.iload_n 2, 1) := by decide +kernel
theorem d_M_join_61 : decode b_M_join 61 = .ok (.iload_n 3, 1) := by decide +kernel
theorem d_M_join_62 : decode b_M_join 62 = .ok (.bastore, 1) := by decide +kernel
theorem d_M_join_63 : decode b_M_join 63 = .ok (.aload_n 0, 1) := by decide +kernel
theorem d_M_join_64 : decode b_M_join 64 = .ok (.getfield 53, 3) := by decide +kernel
theorem d_M_join_67 : decode b_M_join 67 = .ok (.iload_n 1, 1) := by decide +kernel
theorem d_M_join_68 : decode b_M_join 68 = .ok (.iload_n 2, 1) := by decide +kernel
theorem d_M_join_69 : decode b_M_join 69 = .ok (.iastore, 1) := by decide +kernel
theorem d_M_join_70 : decode b_M_join 70 = .ok (.aload_n 0, 1) := by decide +kernel
theorem d_M_join_71 : decode b_M_join 71 = .ok (.aload_n 0, 1) := by decide +kernel
theorem d_M_join_72 : decode b_M_join 72 = .ok (.getfield 53, 3) := by decide +kernel
theorem d_M_join_75 : decode b_M_join 75 = .ok (.iload_n 2, 1) := by decide +kernel
theorem d_M_join_76 : decode b_M_join 76 = .ok (.invokevirtual 112, 3) := by decide +kernel
theorem d_M_join_79 : decode b_M_join 79 = .ok (.ireturn, 1) := by decide +kernel
theorem d_M_bulk_0 : decode b_M_bulk 0 = .ok (.aload_n 0, 1) := by decide +kernel
theorem d_M_bulk_1 : decode b_M_bulk 1 = .ok (.iload_n 1, 1) := by decide +kernel
theorem d_M_bulk_2 : decode b_M_bulk 2 = .ok (.invokevirtual 92, 3) := by decide +kernel
theorem d_M_bulk_5 : decode b_M_bulk 5 = .ok (.ifCond .ne 6, 3) := by decide +kernel
theorem d_M_bulk_8 : decode b_M_bulk 8 = .ok (.bipush (-101), 2) := by decide +kernel
theorem d_M_bulk_10 : decode b_M_bulk 10 = .ok (.ireturn, 1) := by decide +kernel
theorem d_M_bulk_11 : decode b_M_bulk 11 = .ok (.iload_n 2, 1) := by decide +kernel
theorem d_M_bulk_12 : decode b_M_bulk 12 = .ok (.iconst 1, 1) := by decide +kernel
theorem d_M_bulk_13 : decode b_M_bulk 13 = .ok (.bipush 20, 2) := by decide +kernel
theorem d_M_bulk_15 : decode b_M_bulk 15 = .ok (.invokestatic 75, 3) := by decide +kernel
theorem d_M_bulk_18 : decode b_M_bulk 18 = .ok (.ifCond .ne 6, 3) := by decide +kernel
theorem d_M_bulk_21 : decode b_M_bulk 21 = .ok (.bipush (-102), 2) := by decide +kernel
theorem d_M_bulk_23 : decode b_M_bulk 23 = .ok (.ireturn, 1) := by decide +kernel
theorem d_M_bulk_24 : decode b_M_bulk 24 = .ok (.aload_n 0, 1) := by decide +kernel
theorem d_M_bulk_25 : decode b_M_bulk 25 = .ok (.getfield 59, 3) := by decide +kernel
theorem d_M_bulk_28 : decode b_M_bulk 28 = .ok (.iload_n 1, 1) := by decide +kernel
theorem d_M_bulk_29 : decode b_M_bulk 29 = .ok (.iaload, 1) := by decide +kernel
theorem d_M_bulk_30 : decode b_M_bulk 30 = .ok (.ifCond .le 6, 3) := by decide +kernel
theorem d_M_bulk_33 : decode b_M_bulk 33 = .ok (.bipush (-103), 2) := by decide +kernel
theorem d_M_bulk_35 : decode b_M_bulk 35 = .ok (.ireturn, 1) := by decide +kernel
theorem d_M_bulk_36 : decode b_M_bulk 36 = .ok (.aload_n 0, 1) := by decide +kernel
theorem d_M_bulk_37 : decode b_M_bulk 37 = .ok (.getfield 59, 3) := by decide +kernel
theorem d_M_bulk_40 : decode b_M_bulk 40 = .ok (.iload_n 1, 1) := by decide +kernel
theorem d_M_bulk_41 : decode b_M_bulk 41 = .ok (.iload_n 2, 1) := by decide +kernel
theorem d_M_bulk_42 : decode b_M_bulk 42 = .ok (.iastore, 1) := by decide +kernel
theorem d_M_bulk_43 : decode b_M_bulk 43 = .ok (.aload_n 0, 1) := by decide +kernel
theorem d_M_bulk_44 : decode b_M_bulk 44 = .ok (.aload_n 0, 1) := by decide +kernel
theorem d_M_bulk_45 : decode b_M_bulk 45 = .ok (.getfield 59, 3) := by decide +kernel
theorem d_M_bulk_48 : decode b_M_bulk 48 = .ok (.iload_n 2, 1) := by decide +kernel
theorem d_M_bulk_49 : decode b_M_bulk 49 = .ok (.invokevirtual 112, 3) := by decide +kernel
theorem d_M_bulk_52 : decode b_M_bulk 52 = .ok (.ireturn, 1) := by decide +kernel
theorem d_M_open_0 : decode b_M_open 0 = .ok (.aload_n 0, 1) := by decide +kernel
theorem d_M_open_1 : decode b_M_open 1 = .ok (.iload_n 1, 1) := by decide +kernel
theorem d_M_open_2 : decode b_M_open 2 = .ok (.invokevirtual 92, 3) := by decide +kernel
theorem d_M_open_5 : decode b_M_open 5 = .ok (.ifCond .ne 6, 3) := by decide +kernel
theorem d_M_open_8 : decode b_M_open 8 = .ok (.bipush (-101), 2) := by decide +kernel
theorem d_M_open_10 : decode b_M_open 10 = .ok (.ireturn, 1) := by decide +kernel
theorem d_M_open_11 : decode b_M_open 11 = .ok (.iload_n 2, 1) := by decide +kernel
theorem d_M_open_12 : decode b_M_open 12 = .ok (.iconst 0, 1) := by decide +kernel
theorem d_M_open_13 : decode b_M_open 13 = .ok (.bipush 19, 2) := by decide +kernel
theorem d_M_open_15 : decode b_M_open 15 = .ok (.invokestatic 75, 3) := by decide +kernel
theorem d_M_open_18 : decode b_M_open 18 = .ok (.ifCond .eq 13, 3) := by decide +kernel
theorem d_M_open_21 : decode b_M_open 21 = .ok (.iload_n 3, 1) := by decide +kernel
theorem d_M_open_22 : decode b_M_open 22 = .ok (.iconst 0, 1) := by decide +kernel
theorem d_M_open_23 : decode b_M_open 23 = .ok (.bipush 19, 2) := by decide +kernel
theorem d_M_open_25 : decode b_M_open 25 = .ok (.invokestatic 75, 3) := by decide +kernel
theorem d_M_open_28 : decode b_M_open 28 = .ok (.ifCond .ne 6, 3) := by decide +kernel
theorem d_M_open_31 : decode b_M_open 31 = .ok (.bipush (-102), 2) := by decide +kernel
theorem d_M_open_33 : decode b_M_open 33 = .ok (.ireturn, 1) := by decide +kernel
theorem d_M_open_34 : decode b_M_open 34 = .ok (.aload_n 0, 1) := by decide +kernel
theorem d_M_open_35 : decode b_M_open 35 = .ok (.getfield 25, 3) := by decide +kernel
theorem d_M_open_38 : decode b_M_open 38 = .ok (.iload_n 1, 1) := by decide +kernel
theorem d_M_open_39 : decode b_M_open 39 = .ok (.iaload, 1) := by decide +kernel
theorem d_M_open_40 : decode b_M_open 40 = .ok (.bipush 8, 2) := by decide +kernel
theorem d_M_open_42 : decode b_M_open 42 = .ok (.if_icmp .ne 12, 3) := by decide +kernel
theorem d_M_open_45 : decode b_M_open 45 = .ok (.aload_n 0, 1) := by decide +kernel
theorem d_M_open_46 : decode b_M_open 46 = .ok (.getfield 28, 3) := by decide +kernel
theorem d_M_open_49 : decode b_M_open 49 = .ok (.iload_n 1, 1) := by decide +kernel
theorem d_M_open_50 : decode b_M_open 50 = .ok (.baload, 1) := by decide +kernel
theorem d_M_open_51 : decode b_M_open 51 = .ok (.ifCond .eq 6, 3) := by decide +kernel
theorem d_M_open_54 : decode b_M_open 54 = .ok (.bipush (-103), 2) := by decide +kernel
theorem d_M_open_56 : decode b_M_open 56 = .ok (.ireturn, 1) := by decide +kernel
theorem d_M_open_57 : decode b_M_open 57 = .ok (.iload_n 2, 1) := by decide +kernel
theorem d_M_open_58 : decode b_M_open 58 = .ok (.iload_n 3, 1) := by decide +kernel
theorem d_M_open_59 : decode b_M_open 59 = .ok (.if_icmp .ne 6, 3) := by decide +kernel
theorem d_M_open_62 : decode b_M_open 62 = .ok (.bipush (-108), 2) := by decide +kernel
theorem d_M_open_64 : decode b_M_open 64 = .ok (.ireturn, 1) := by decide +kernel
theorem d_M_open_65 : decode b_M_open 65 = .ok (.aload_n 0, 1) := by decide +kernel
theorem d_M_open_66 : decode b_M_open 66 = .ok (.getfield 25, 3) := by decide +kernel
theorem d_M_open_69 : decode b_M_open 69 = .ok (.iload_n 1, 1) := by decide +kernel
theorem d_M_open_70 : decode b_M_open 70 = .ok (.iconst 1, 1) := by decide +kernel
theorem d_M_open_71 : decode b_M_open 71 = .ok (.iastore, 1) := by decide +kernel
theorem d_M_open_72 : decode b_M_open 72 = .ok (.aload_n 0, 1) := by decide +kernel
theorem d_M_open_73 : decode b_M_open 73 = .ok (.getfield 38, 3) := by decide +kernel
theorem d_M_open_76 : decode b_M_open 76 = .ok (.iload_n 1, 1) := by decide +kernel
theorem d_M_open_77 : decode b_M_open 77 = .ok (.iconst (-1), 1) := by decide +kernel
theorem d_M_open_78 : decode b_M_open 78 = .ok (.iastore, 1) := by decide +kernel
theorem d_M_open_79 : decode b_M_open 79 = .ok (.aload_n 0, 1) := by decide +kernel
theorem d_M_open_80 : decode b_M_open 80 = .ok (.getfield 62, 3) := by decide +kernel
theorem d_M_open_83 : decode b_M_open 83 = .ok (.iload_n 1, 1) := by decide +kernel
theorem d_M_open_84 : decode b_M_open 84 = .ok (.bipush 100, 2) := by decide +kernel
theorem d_M_open_86 : decode b_M_open 86 = .ok (.iload_n 2, 1) := by decide +kernel
theorem d_M_open_87 : decode b_M_open 87 = .ok (.imul, 1) := by decide +kernel
theorem d_M_open_88 : decode b_M_open 88 = .ok (.iload_n 3, 1) := by decide +kernel
theorem d_M_open_89 : decode b_M_open 89 = .ok (.iadd, 1) := by decide +kernel
theorem d_M_open_90 : decode b_M_open 90 = .ok (.iastore, 1) := by decide +kernel
theorem d_M_open_91 : decode b_M_open 91 = .ok (.iconst 1, 1) := by decide +kernel
theorem d_M_open_92 : decode b_M_open 92 = .ok (.ireturn, 1) := by decide +kernel
theorem d_M_factOf_0 : decode b_M_factOf 0 = .ok (.iload_n 2, 1) := by decide +kernel
theorem d_M_factOf_1 : decode b_M_factOf 1 = .ok (.ifCond .ne 12, 3) := by decide +kernel
theorem d_M_factOf_4 : decode b_M_factOf 4 = .ok (.aload_n 0, 1) := by decide +kernel
theorem d_M_factOf_5 : decode b_M_factOf 5 = .ok (.getfield 7, 3) := by decide +kernel
theorem d_M_factOf_8 : decode b_M_factOf 8 = .ok (.iload_n 1, 1) := by decide +kernel
theorem d_M_factOf_9 : decode b_M_factOf 9 = .ok (.iaload, 1) := by decide +kernel
theorem d_M_factOf_10 : decode b_M_factOf 10 = .ok (.goto 51, 3) := by decide +kernel
theorem d_M_factOf_13 : decode b_M_factOf 13 = .ok (.iload_n 2, 1) := by decide +kernel
theorem d_M_factOf_14 : decode b_M_factOf 14 = .ok (.iconst 1, 1) := by decide +kernel
theorem d_M_factOf_15 : decode b_M_factOf 15 = .ok (.if_icmp .ne 12, 3) := by decide +kernel
theorem d_M_factOf_18 : decode b_M_factOf 18 = .ok (.aload_n 0, 1) := by decide +kernel
theorem d_M_factOf_19 : decode b_M_factOf 19 = .ok (.getfield 13, 3) := by decide +kernel
theorem d_M_factOf_22 : decode b_M_factOf 22 = .ok (.iload_n 1, 1) := by decide +kernel
theorem d_M_factOf_23 : decode b_M_factOf 23 = .ok (.iaload, 1) := by decide +kernel
theorem d_M_factOf_24 : decode b_M_factOf 24 = .ok (.goto 37, 3) := by decide +kernel
theorem d_M_factOf_27 : decode b_M_factOf 27 = .ok (.iload_n 2, 1) := by decide +kernel
theorem d_M_factOf_28 : decode b_M_factOf 28 = .ok (.iconst 2, 1) := by decide +kernel
theorem d_M_factOf_29 : decode b_M_factOf 29 = .ok (.if_icmp .ne 12, 3) := by decide +kernel
theorem d_M_factOf_32 : decode b_M_factOf 32 = .ok (.aload_n 0, 1) := by decide +kernel
theorem d_M_factOf_33 : decode b_M_factOf 33 = .ok (.getfield 16, 3) := by decide +kernel
theorem d_M_factOf_36 : decode b_M_factOf 36 = .ok (.iload_n 1, 1) := by decide +kernel
theorem d_M_factOf_37 : decode b_M_factOf 37 = .ok (.iaload, 1) := by decide +kernel
theorem d_M_factOf_38 : decode b_M_factOf 38 = .ok (.goto 23, 3) := by decide +kernel
theorem d_M_factOf_41 : decode b_M_factOf 41 = .ok (.iload_n 2, 1) := by decide +kernel
theorem d_M_factOf_42 : decode b_M_factOf 42 = .ok (.iconst 3, 1) := by decide +kernel
theorem d_M_factOf_43 : decode b_M_factOf 43 = .ok (.if_icmp .ne 12, 3) := by decide +kernel
theorem d_M_factOf_46 : decode b_M_factOf 46 = .ok (.aload_n 0, 1) := by decide +kernel
theorem d_M_factOf_47 : decode b_M_factOf 47 = .ok (.getfield 35, 3) := by decide +kernel
theorem d_M_factOf_50 : decode b_M_factOf 50 = .ok (.iload_n 1, 1) := by decide +kernel
theorem d_M_factOf_51 : decode b_M_factOf 51 = .ok (.iaload, 1) := by decide +kernel
theorem d_M_factOf_52 : decode b_M_factOf 52 = .ok (.goto 9, 3) := by decide +kernel
theorem d_M_factOf_55 : decode b_M_factOf 55 = .ok (.aload_n 0, 1) := by decide +kernel
theorem d_M_factOf_56 : decode b_M_factOf 56 = .ok (.getfield 38, 3) := by decide +kernel
theorem d_M_factOf_59 : decode b_M_factOf 59 = .ok (.iload_n 1, 1) := by decide +kernel
theorem d_M_factOf_60 : decode b_M_factOf 60 = .ok (.iaload, 1) := by decide +kernel
theorem d_M_factOf_61 : decode b_M_factOf 61 = .ok (.ireturn, 1) := by decide +kernel
theorem d_M_correct_0 : decode b_M_correct 0 = .ok (.aload_n 0, 1) := by decide +kernel
theorem d_M_correct_1 : decode b_M_correct 1 = .ok (.iload_n 1, 1) := by decide +kernel
theorem d_M_correct_2 : decode b_M_correct 2 = .ok (.invokevirtual 92, 3) := by decide +kernel
theorem d_M_correct_5 : decode b_M_correct 5 = .ok (.ifCond .ne 6, 3) := by decide +kernel
theorem d_M_correct_8 : decode b_M_correct 8 = .ok (.bipush (-101), 2) := by decide +kernel
theorem d_M_correct_10 : decode b_M_correct 10 = .ok (.ireturn, 1) := by decide +kernel
theorem d_M_correct_11 : decode b_M_correct 11 = .ok (.iload_n 2, 1) := by decide +kernel
theorem d_M_correct_12 : decode b_M_correct 12 = .ok (.iconst 1, 1) := by decide +kernel
theorem d_M_correct_13 : decode b_M_correct 13 = .ok (.if_icmp .ne 7, 3) := by decide +kernel
theorem d_M_correct_16 : decode b_M_correct 16 = .ok (.iconst 1, 1) := by decide +kernel
theorem d_M_correct_17 : decode b_M_correct 17 = .ok (.goto 4, 3) := by decide +kernel
theorem d_M_correct_20 : decode b_M_correct 20 = .ok (.iconst 0, 1) := by decide +kernel
theorem d_M_correct_21 : decode b_M_correct 21 = .ok (.istore 5, 2) := by decide +kernel
theorem d_M_correct_23 : decode b_M_correct 23 = .ok (.iload_n 2, 1) := by decide +kernel
theorem d_M_correct_24 : decode b_M_correct 24 = .ok (.ifCond .ne 7, 3) := by decide +kernel
theorem d_M_correct_27 : decode b_M_correct 27 = .ok (.iconst 3, 1) := by decide +kernel
theorem d_M_correct_28 : decode b_M_correct 28 = .ok (.goto 26, 3) := by decide +kernel
theorem d_M_correct_31 : decode b_M_correct 31 = .ok (.iload_n 2, 1) := by decide +kernel
theorem d_M_correct_32 : decode b_M_correct 32 = .ok (.iconst 1, 1) := by decide +kernel
theorem d_M_correct_33 : decode b_M_correct 33 = .ok (.if_icmp .ne 8, 3) := by decide +kernel
theorem d_M_correct_36 : decode b_M_correct 36 = .ok (.ldc 83, 2) := by decide +kernel
theorem d_M_correct_38 : decode b_M_correct 38 = .ok (.goto 16, 3) := by decide +kernel
theorem d_M_correct_41 : decode b_M_correct 41 = .ok (.iload_n 2, 1) := by decide +kernel
theorem d_M_correct_42 : decode b_M_correct 42 = .ok (.iconst 2, 1) := by decide +kernel
theorem d_M_correct_43 : decode b_M_correct 43 = .ok (.if_icmp .ne 8, 3) := by decide +kernel
theorem d_M_correct_46 : decode b_M_correct 46 = .ok (.bipush 9, 2) := by decide +kernel
theorem d_M_correct_48 : decode b_M_correct 48 = .ok (.goto 6, 3) := by decide +kernel
theorem d_M_correct_51 : decode b_M_correct 51 = .ok (.sipush 9999, 3) := by decide +kernel
theorem d_M_correct_54 : decode b_M_correct 54 = .ok (.istore 6, 2) := by decide +kernel
theorem d_M_correct_56 : decode b_M_correct 56 = .ok (.iload_n 2, 1) := by decide +kernel
theorem d_M_correct_57 : decode b_M_correct 57 = .ok (.iconst 0, 1) := by decide +kernel
theorem d_M_correct_58 : decode b_M_correct 58 = .ok (.iconst 4, 1) := by decide +kernel
theorem d_M_correct_59 : decode b_M_correct 59 = .ok (.invokestatic 75, 3) := by decide +kernel
theorem d_M_correct_62 : decode b_M_correct 62 = .ok (.ifCond .eq 25, 3) := by decide +kernel
theorem d_M_correct_65 : decode b_M_correct 65 = .ok (.iload_n 3, 1) := by decide +kernel
theorem d_M_correct_66 : decode b_M_correct 66 = .ok (.iload 5, 2) := by decide +kernel
theorem d_M_correct_68 : decode b_M_correct 68 = .ok (.iload 6, 2) := by decide +kernel
theorem d_M_correct_70 : decode b_M_correct 70 = .ok (.invokestatic 75, 3) := by decide +kernel
theorem d_M_correct_73 : decode b_M_correct 73 = .ok (.ifCond .eq 14, 3) := by decide +kernel
theorem d_M_correct_76 : decode b_M_correct 76 = .ok (.iload 4, 2) := by decide +kernel
theorem d_M_correct_78 : decode b_M_correct 78 = .ok (.iconst 1, 1) := by decide +kernel
theorem d_M_correct_79 : decode b_M_correct 79 = .ok (.bipush 9, 2) := by decide +kernel
theorem d_M_correct_81 : decode b_M_correct 81 = .ok (.invokestatic 75, 3) := by decide +kernel
theorem d_M_correct_84 : decode b_M_correct 84 = .ok (.ifCond .ne 6, 3) := by decide +kernel
theorem d_M_correct_87 : decode b_M_correct 87 = .ok (.bipush (-102), 2) := by decide +kernel
theorem d_M_correct_89 : decode b_M_correct 89 = .ok (.ireturn, 1) := by decide +kernel
theorem d_M_correct_90 : decode b_M_correct 90 = .ok (.iload_n 2, 1) := by decide +kernel
theorem d_M_correct_91 : decode b_M_correct 91 = .ok (.ifCond .ne 7, 3) := by decide +kernel
theorem d_M_correct_94 : decode b_M_correct 94 = .ok (.iload_n 3, 1) := by decide +kernel
theorem d_M_correct_95 : decode b_M_correct 95 = .ok (.goto 9, 3) := by decide +kernel
theorem d_M_correct_98 : decode b_M_correct 98 = .ok (.aload_n 0, 1) := by decide +kernel
theorem d_M_correct_99 : decode b_M_correct 99 = .ok (.getfield 7, 3) := by decide +kernel
theorem d_M_correct_102 : decode b_M_correct 102 = .ok (.iload_n 1, 1) := by decide +kernel
theorem d_M_correct_103 : decode b_M_correct 103 = .ok (.iaload, 1) := by decide +kernel
theorem d_M_correct_104 : decode b_M_correct 104 = .ok (.istore 7, 2) := by decide +kernel
theorem d_M_correct_106 : decode b_M_correct 106 = .ok (.iload_n 2, 1) := by decide +kernel
theorem d_M_correct_107 : decode b_M_correct 107 = .ok (.iconst 1, 1) := by decide +kernel
theorem d_M_correct_108 : decode b_M_correct 108 = .ok (.if_icmp .ne 7, 3) := by decide +kernel
theorem d_M_correct_111 : decode b_M_correct 111 = .ok (.iload_n 3, 1) := by decide +kernel
theorem d_M_correct_112 : decode b_M_correct 112 = .ok (.goto 9, 3) := by decide +kernel
theorem d_M_correct_115 : decode b_M_correct 115 = .ok (.aload_n 0, 1) := by decide +kernel
theorem d_M_correct_116 : decode b_M_correct 116 = .ok (.getfield 13, 3) := by decide +kernel
theorem d_M_correct_119 : decode b_M_correct 119 = .ok (.iload_n 1, 1) := by decide +kernel
theorem d_M_correct_120 : decode b_M_correct 120 = .ok (.iaload, 1) := by decide +kernel
theorem d_M_correct_121 : decode b_M_correct 121 = .ok (.istore 8, 2) := by decide +kernel
theorem d_M_correct_123 : decode b_M_correct 123 = .ok (.iload_n 2, 1) := by decide +kernel
theorem d_M_correct_124 : decode b_M_correct 124 = .ok (.iconst 2, 1) := by decide +kernel
theorem d_M_correct_125 : decode b_M_correct 125 = .ok (.if_icmp .ne 7, 3) := by decide +kernel
theorem d_M_correct_128 : decode b_M_correct 128 = .ok (.iload_n 3, 1) := by decide +kernel
theorem d_M_correct_129 : decode b_M_correct 129 = .ok (.goto 9, 3) := by decide +kernel
theorem d_M_correct_132 : decode b_M_correct 132 = .ok (.aload_n 0, 1) := by decide +kernel
theorem d_M_correct_133 : decode b_M_correct 133 = .ok (.getfield 16, 3) := by decide +kernel
theorem d_M_correct_136 : decode b_M_correct 136 = .ok (.iload_n 1, 1) := by decide +kernel
theorem d_M_correct_137 : decode b_M_correct 137 = .ok (.iaload, 1) := by decide +kernel
theorem d_M_correct_138 : decode b_M_correct 138 = .ok (.istore 9, 2) := by decide +kernel
theorem d_M_correct_140 : decode b_M_correct 140 = .ok (.iload 8, 2) := by decide +kernel
theorem d_M_correct_142 : decode b_M_correct 142 = .ok (.iload 9, 2) := by decide +kernel
theorem d_M_correct_144 : decode b_M_correct 144 = .ok (.invokestatic 84, 3) := by decide +kernel
theorem d_M_correct_147 : decode b_M_correct 147 = .ok (.istore 10, 2) := by decide +kernel
theorem d_M_correct_149 : decode b_M_correct 149 = .ok (.iload_n 2, 1) := by decide +kernel
theorem d_M_correct_150 : decode b_M_correct 150 = .ok (.ifCond .ne 29, 3) := by decide +kernel
theorem d_M_correct_153 : decode b_M_correct 153 = .ok (.iload 7, 2) := by decide +kernel
theorem d_M_correct_155 : decode b_M_correct 155 = .ok (.iload 8, 2) := by decide +kernel
theorem d_M_correct_157 : decode b_M_correct 157 = .ok (.iload 9, 2) := by decide +kernel
theorem d_M_correct_159 : decode b_M_correct 159 = .ok (.invokestatic 88, 3) := by decide +kernel
theorem d_M_correct_162 : decode b_M_correct 162 = .ok (.aload_n 0, 1) := by decide +kernel
theorem d_M_correct_163 : decode b_M_correct 163 = .ok (.getfield 7, 3) := by decide +kernel
theorem d_M_correct_166 : decode b_M_correct 166 = .ok (.iload_n 1, 1) := by decide +kernel
theorem d_M_correct_167 : decode b_M_correct 167 = .ok (.iaload, 1) := by decide +kernel
theorem d_M_correct_168 : decode b_M_correct 168 = .ok (.if_icmp .ne 7, 3) := by decide +kernel
theorem d_M_correct_171 : decode b_M_correct 171 = .ok (.iconst 1, 1) := by decide +kernel
theorem d_M_correct_172 : decode b_M_correct 172 = .ok (.goto 22, 3) := by decide +kernel
theorem d_M_correct_175 : decode b_M_correct 175 = .ok (.iconst 0, 1) := by decide +kernel
theorem d_M_correct_176 : decode b_M_correct 176 = .ok (.goto 18, 3) := by decide +kernel
theorem d_M_correct_179 : decode b_M_correct 179 = .ok (.aload_n 0, 1) := by decide +kernel
theorem d_M_correct_180 : decode b_M_correct 180 = .ok (.iload_n 1, 1) := by decide +kernel
theorem d_M_correct_181 : decode b_M_correct 181 = .ok (.iload_n 2, 1) := by decide +kernel
theorem d_M_correct_182 : decode b_M_correct 182 = .ok (.invokevirtual 116, 3) := by decide +kernel
theorem d_M_correct_185 : decode b_M_correct 185 = .ok (.iload_n 3, 1) := by decide +kernel
theorem d_M_correct_186 : decode b_M_correct 186 = .ok (.if_icmp .ne 7, 3) := by decide +kernel
theorem d_M_correct_189 : decode b_M_correct 189 = .ok (.iconst 1, 1) := by decide +kernel
theorem d_M_correct_190 : decode b_M_correct 190 = .ok (.goto 4, 3) := by decide +kernel
theorem d_M_correct_193 : decode b_M_correct 193 = .ok (.iconst 0, 1) := by decide +kernel
theorem d_M_correct_194 : decode b_M_correct 194 = .ok (.istore 11, 2) := by decide +kernel
theorem d_M_correct_196 : decode b_M_correct 196 = .ok (.iload 11, 2) := by decide +kernel
theorem d_M_correct_198 : decode b_M_correct 198 = .ok (.ifCond .eq 6, 3) := by decide +kernel
theorem d_M_correct_201 : decode b_M_correct 201 = .ok (.bipush (-103), 2) := by decide +kernel
theorem d_M_correct_203 : decode b_M_correct 203 = .ok (.ireturn, 1) := by decide +kernel
theorem d_M_correct_204 : decode b_M_correct 204 = .ok (.aload_n 0, 1) := by decide +kernel
theorem d_M_correct_205 : decode b_M_correct 205 = .ok (.getfield 119, 3) := by decide +kernel
theorem d_M_correct_208 : decode b_M_correct 208 = .ok (.sipush 200, 3) := by decide +kernel
theorem d_M_correct_211 : decode b_M_correct 211 = .ok (.if_icmp .ne 6, 3) := by decide +kernel
theorem d_M_correct_214 : decode b_M_correct 214 = .ok (.bipush (-104), 2) := by decide +kernel
theorem d_M_correct_216 : decode b_M_correct 216 = .ok (.ireturn, 1) := by decide +kernel
theorem d_M_correct_217 : decode b_M_correct 217 = .ok (.iload 10, 2) := by decide +kernel
theorem d_M_correct_219 : decode b_M_correct 219 = .ok (.ifCond .eq 6, 3) := by decide +kernel
theorem d_M_correct_222 : decode b_M_correct 222 = .ok (.iload 10, 2) := by decide +kernel
theorem d_M_correct_224 : decode b_M_correct 224 = .ok (.ireturn, 1) := by decide +kernel
theorem d_M_correct_225 : decode b_M_correct 225 = .ok (.aload_n 0, 1) := by decide +kernel
theorem d_M_correct_226 : decode b_M_correct 226 = .ok (.getfield 65, 3) := by decide +kernel
theorem d_M_correct_229 : decode b_M_correct 229 = .ok (.iconst 5, 1) := by decide +kernel
theorem d_M_correct_230 : decode b_M_correct 230 = .ok (.aload_n 0, 1) := by decide +kernel
theorem d_M_correct_231 : decode b_M_correct 231 = .ok (.getfield 119, 3) := by decide +kernel
theorem d_M_correct_234 : decode b_M_correct 234 = .ok (.imul, 1) := by decide +kernel
theorem d_M_correct_235 : decode b_M_correct 235 = .ok (.iload_n 1, 1) := by decide +kernel
theorem d_M_correct_236 : decode b_M_correct 236 = .ok (.iastore, 1) := by decide +kernel
theorem d_M_correct_237 : decode b_M_correct 237 = .ok (.aload_n 0, 1) := by decide +kernel
theorem d_M_correct_238 : decode b_M_correct 238 = .ok (.getfield 65, 3) := by decide +kernel
theorem d_M_correct_241 : decode b_M_correct 241 = .ok (.iconst 5, 1) := by decide +kernel
theorem d_M_correct_242 : decode b_M_correct 242 = .ok (.aload_n 0, 1) := by decide +kernel
theorem d_M_correct_243 : decode b_M_correct 243 = .ok (.getfield 119, 3) := by decide +kernel
theorem d_M_correct_246 : decode b_M_correct 246 = .ok (.imul, 1) := by decide +kernel
theorem d_M_correct_247 : decode b_M_correct 247 = .ok (.iconst 1, 1) := by decide +kernel
theorem d_M_correct_248 : decode b_M_correct 248 = .ok (.iadd, 1) := by decide +kernel
theorem d_M_correct_249 : decode b_M_correct 249 = .ok (.iload_n 2, 1) := by decide +kernel
theorem d_M_correct_250 : decode b_M_correct 250 = .ok (.iastore, 1) := by decide +kernel
theorem d_M_correct_251 : decode b_M_correct 251 = .ok (.aload_n 0, 1) := by decide +kernel
theorem d_M_correct_252 : decode b_M_correct 252 = .ok (.getfield 65, 3) := by decide +kernel
theorem d_M_correct_255 : decode b_M_correct 255 = .ok (.iconst 5, 1) := by decide +kernel
theorem d_M_correct_256 : decode b_M_correct 256 = .ok (.aload_n 0, 1) := by decide +kernel
theorem d_M_correct_257 : decode b_M_correct 257 = .ok (.getfield 119, 3) := by decide +kernel
theorem d_M_correct_260 : decode b_M_correct 260 = .ok (.imul, 1) := by decide +kernel
theorem d_M_correct_261 : decode b_M_correct 261 = .ok (.iconst 2, 1) := by decide +kernel
theorem d_M_correct_262 : decode b_M_correct 262 = .ok (.iadd, 1) := by decide +kernel
theorem d_M_correct_263 : decode b_M_correct 263 = .ok (.aload_n 0, 1) := by decide +kernel
theorem d_M_correct_264 : decode b_M_correct 264 = .ok (.iload_n 1, 1) := by decide +kernel
theorem d_M_correct_265 : decode b_M_correct 265 = .ok (.iload_n 2, 1) := by decide +kernel
theorem d_M_correct_266 : decode b_M_correct 266 = .ok (.invokevirtual 116, 3) := by decide +kernel
theorem d_M_correct_269 : decode b_M_correct 269 = .ok (.iastore, 1) := by decide +kernel
theorem d_M_correct_270 : decode b_M_correct 270 = .ok (.aload_n 0, 1) := by decide +kernel
theorem d_M_correct_271 : decode b_M_correct 271 = .ok (.getfield 65, 3) := by decide +kernel
theorem d_M_correct_274 : decode b_M_correct 274 = .ok (.iconst 5, 1) := by decide +kernel
theorem d_M_correct_275 : decode b_M_correct 275 = .ok (.aload_n 0, 1) := by decide +kernel
theorem d_M_correct_276 : decode b_M_correct 276 = .ok (.getfield 119, 3) := by decide +kernel
theorem d_M_correct_279 : decode b_M_correct 279 = .ok (.imul, 1) := by decide +kernel
theorem d_M_correct_280 : decode b_M_correct 280 = .ok (.iconst 3, 1) := by decide +kernel
theorem d_M_correct_281 : decode b_M_correct 281 = .ok (.iadd, 1) := by decide +kernel
theorem d_M_correct_282 : decode b_M_correct 282 = .ok (.iload_n 3, 1) := by decide +kernel
theorem d_M_correct_283 : decode b_M_correct 283 = .ok (.iastore, 1) := by decide +kernel
theorem d_M_correct_284 : decode b_M_correct 284 = .ok (.aload_n 0, 1) := by decide +kernel
theorem d_M_correct_285 : decode b_M_correct 285 = .ok (.getfield 65, 3) := by decide +kernel
theorem d_M_correct_288 : decode b_M_correct 288 = .ok (.iconst 5, 1) := by decide +kernel
theorem d_M_correct_289 : decode b_M_correct 289 = .ok (.aload_n 0, 1) := by decide +kernel
theorem d_M_correct_290 : decode b_M_correct 290 = .ok (.getfield 119, 3) := by decide +kernel
theorem d_M_correct_293 : decode b_M_correct 293 = .ok (.imul, 1) := by decide +kernel
theorem d_M_correct_294 : decode b_M_correct 294 = .ok (.iconst 4, 1) := by decide +kernel
theorem d_M_correct_295 : decode b_M_correct 295 = .ok (.iadd, 1) := by decide +kernel
theorem d_M_correct_296 : decode b_M_correct 296 = .ok (.iload 4, 2) := by decide +kernel
theorem d_M_correct_298 : decode b_M_correct 298 = .ok (.iastore, 1) := by decide +kernel
theorem d_M_correct_299 : decode b_M_correct 299 = .ok (.aload_n 0, 1) := by decide +kernel
theorem d_M_correct_300 : decode b_M_correct 300 = .ok (.dup, 1) := by decide +kernel
theorem d_M_correct_301 : decode b_M_correct 301 = .ok (.getfield 119, 3) := by decide +kernel
theorem d_M_correct_304 : decode b_M_correct 304 = .ok (.iconst 1, 1) := by decide +kernel
theorem d_M_correct_305 : decode b_M_correct 305 = .ok (.iadd, 1) := by decide +kernel
theorem d_M_correct_306 : decode b_M_correct 306 = .ok (.putfield 119, 3) := by decide +kernel
theorem d_M_correct_309 : decode b_M_correct 309 = .ok (.aload_n 0, 1) := by decide +kernel
theorem d_M_correct_310 : decode b_M_correct 310 = .ok (.getfield 7, 3) := by decide +kernel
theorem d_M_correct_313 : decode b_M_correct 313 = .ok (.iload_n 1, 1) := by decide +kernel
theorem d_M_correct_314 : decode b_M_correct 314 = .ok (.iload 7, 2) := by decide +kernel
theorem d_M_correct_316 : decode b_M_correct 316 = .ok (.iload 8, 2) := by decide +kernel
theorem d_M_correct_318 : decode b_M_correct 318 = .ok (.iload 9, 2) := by decide +kernel
theorem d_M_correct_320 : decode b_M_correct 320 = .ok (.invokestatic 88, 3) := by decide +kernel
theorem d_M_correct_323 : decode b_M_correct 323 = .ok (.iastore, 1) := by decide +kernel
theorem d_M_correct_324 : decode b_M_correct 324 = .ok (.aload_n 0, 1) := by decide +kernel
theorem d_M_correct_325 : decode b_M_correct 325 = .ok (.getfield 13, 3) := by decide +kernel
theorem d_M_correct_328 : decode b_M_correct 328 = .ok (.iload_n 1, 1) := by decide +kernel
theorem d_M_correct_329 : decode b_M_correct 329 = .ok (.iload 8, 2) := by decide +kernel
theorem d_M_correct_331 : decode b_M_correct 331 = .ok (.iastore, 1) := by decide +kernel
theorem d_M_correct_332 : decode b_M_correct 332 = .ok (.aload_n 0, 1) := by decide +kernel
theorem d_M_correct_333 : decode b_M_correct 333 = .ok (.getfield 16, 3) := by decide +kernel
theorem d_M_correct_336 : decode b_M_correct 336 = .ok (.iload_n 1, 1) := by decide +kernel
theorem d_M_correct_337 : decode b_M_correct 337 = .ok (.iload 9, 2) := by decide +kernel
theorem d_M_correct_339 : decode b_M_correct 339 = .ok (.iastore, 1) := by decide +kernel
theorem d_M_correct_340 : decode b_M_correct 340 = .ok (.aload_n 0, 1) := by decide +kernel
theorem d_M_correct_341 : decode b_M_correct 341 = .ok (.getfield 35, 3) := by decide +kernel
theorem d_M_correct_344 : decode b_M_correct 344 = .ok (.iload_n 1, 1) := by decide +kernel
theorem d_M_correct_345 : decode b_M_correct 345 = .ok (.iload_n 2, 1) := by decide +kernel
theorem d_M_correct_346 : decode b_M_correct 346 = .ok (.iconst 3, 1) := by decide +kernel
theorem d_M_correct_347 : decode b_M_correct 347 = .ok (.if_icmp .ne 7, 3) := by decide +kernel
theorem d_M_correct_350 : decode b_M_correct 350 = .ok (.iload_n 3, 1) := by decide +kernel
theorem d_M_correct_351 : decode b_M_correct 351 = .ok (.goto 9, 3) := by decide +kernel
theorem d_M_correct_354 : decode b_M_correct 354 = .ok (.aload_n 0, 1) := by decide +kernel
theorem d_M_correct_355 : decode b_M_correct 355 = .ok (.getfield 35, 3) := by decide +kernel
theorem d_M_correct_358 : decode b_M_correct 358 = .ok (.iload_n 1, 1) := by decide +kernel
theorem d_M_correct_359 : decode b_M_correct 359 = .ok (.iaload, 1) := by decide +kernel
theorem d_M_correct_360 : decode b_M_correct 360 = .ok (.iastore, 1) := by decide +kernel
theorem d_M_correct_361 : decode b_M_correct 361 = .ok (.aload_n 0, 1) := by decide +kernel
theorem d_M_correct_362 : decode b_M_correct 362 = .ok (.getfield 38, 3) := by decide +kernel
theorem d_M_correct_365 : decode b_M_correct 365 = .ok (.iload_n 1, 1) := by decide +kernel
theorem d_M_correct_366 : decode b_M_correct 366 = .ok (.iload_n 2, 1) := by decide +kernel
theorem d_M_correct_367 : decode b_M_correct 367 = .ok (.iconst 4, 1) := by decide +kernel
theorem d_M_correct_368 : decode b_M_correct 368 = .ok (.if_icmp .ne 7, 3) := by decide +kernel
theorem d_M_correct_371 : decode b_M_correct 371 = .ok (.iload_n 3, 1) := by decide +kernel
theorem d_M_correct_372 : decode b_M_correct 372 = .ok (.goto 9, 3) := by decide +kernel
theorem d_M_correct_375 : decode b_M_correct 375 = .ok (.aload_n 0, 1) := by decide +kernel
theorem d_M_correct_376 : decode b_M_correct 376 = .ok (.getfield 38, 3) := by decide +kernel
theorem d_M_correct_379 : decode b_M_correct 379 = .ok (.iload_n 1, 1) := by decide +kernel
theorem d_M_correct_380 : decode b_M_correct 380 = .ok (.iaload, 1) := by decide +kernel
theorem d_M_correct_381 : decode b_M_correct 381 = .ok (.iastore, 1) := by decide +kernel
theorem d_M_correct_382 : decode b_M_correct 382 = .ok (.aload_n 0, 1) := by decide +kernel
theorem d_M_correct_383 : decode b_M_correct 383 = .ok (.getfield 119, 3) := by decide +kernel
theorem d_M_correct_386 : decode b_M_correct 386 = .ok (.ireturn, 1) := by decide +kernel
theorem d_M_row_0 : decode b_M_row 0 = .ok (.iload_n 1, 1) := by decide +kernel
theorem d_M_row_1 : decode b_M_row 1 = .ok (.iconst 0, 1) := by decide +kernel
theorem d_M_row_2 : decode b_M_row 2 = .ok (.aload_n 0, 1) := by decide +kernel
theorem d_M_row_3 : decode b_M_row 3 = .ok (.getfield 119, 3) := by decide +kernel
theorem d_M_row_6 : decode b_M_row 6 = .ok (.iconst 1, 1) := by decide +kernel
theorem d_M_row_7 : decode b_M_row 7 = .ok (.isub, 1) := by decide +kernel
theorem d_M_row_8 : decode b_M_row 8 = .ok (.invokestatic 75, 3) := by decide +kernel
theorem d_M_row_11 : decode b_M_row 11 = .ok (.ifCond .eq 25, 3) := by decide +kernel
theorem d_M_row_14 : decode b_M_row 14 = .ok (.iload_n 2, 1) := by decide +kernel
theorem d_M_row_15 : decode b_M_row 15 = .ok (.iconst 0, 1) := by decide +kernel
theorem d_M_row_16 : decode b_M_row 16 = .ok (.iconst 4, 1) := by decide +kernel
theorem d_M_row_17 : decode b_M_row 17 = .ok (.invokestatic 75, 3) := by decide +kernel
theorem d_M_row_20 : decode b_M_row 20 = .ok (.ifCond .eq 16, 3) := by decide +kernel
theorem d_M_row_23 : decode b_M_row 23 = .ok (.aload_n 0, 1) := by decide +kernel
theorem d_M_row_24 : decode b_M_row 24 = .ok (.getfield 65, 3) := by decide +kernel
theorem d_M_row_27 : decode b_M_row 27 = .ok (.iconst 5, 1) := by decide +kernel
theorem d_M_row_28 : decode b_M_row 28 = .ok (.iload_n 1, 1) := by decide +kernel
theorem d_M_row_29 : decode b_M_row 29 = .ok (.imul, 1) := by decide +kernel
theorem d_M_row_30 : decode b_M_row 30 = .ok (.iload_n 2, 1) := by decide +kernel
theorem d_M_row_31 : decode b_M_row 31 = .ok (.iadd, 1) := by decide +kernel
theorem d_M_row_32 : decode b_M_row 32 = .ok (.iaload, 1) := by decide +kernel
theorem d_M_row_33 : decode b_M_row 33 = .ok (.goto 4, 3) := by decide +kernel
theorem d_M_row_36 : decode b_M_row 36 = .ok (.iconst (-1), 1) := by decide +kernel
theorem d_M_row_37 : decode b_M_row 37 = .ok (.ireturn, 1) := by decide +kernel
theorem d_M_about_0 : decode b_M_about 0 = .ok (.aload_n 0, 1) := by decide +kernel
theorem d_M_about_1 : decode b_M_about 1 = .ok (.iload_n 1, 1) := by decide +kernel
theorem d_M_about_2 : decode b_M_about 2 = .ok (.invokevirtual 92, 3) := by decide +kernel
theorem d_M_about_5 : decode b_M_about 5 = .ok (.ifCond .ne 6, 3) := by decide +kernel
theorem d_M_about_8 : decode b_M_about 8 = .ok (.bipush (-101), 2) := by decide +kernel
theorem d_M_about_10 : decode b_M_about 10 = .ok (.ireturn, 1) := by decide +kernel
theorem d_M_about_11 : decode b_M_about 11 = .ok (.iload_n 2, 1) := by decide +kernel
theorem d_M_about_12 : decode b_M_about 12 = .ok (.tableswitch 178 0 13 #[72, 79, 86, 93, 100, 107, 114, 121, 128, 135, 142, 149, 164, 171], 72) := by decide +kernel
theorem d_M_about_84 : decode b_M_about 84 = .ok (.aload_n 0, 1) := by decide +kernel
theorem d_M_about_85 : decode b_M_about 85 = .ok (.getfield 25, 3) := by decide +kernel
theorem d_M_about_88 : decode b_M_about 88 = .ok (.iload_n 1, 1) := by decide +kernel
theorem d_M_about_89 : decode b_M_about 89 = .ok (.iaload, 1) := by decide +kernel
theorem d_M_about_90 : decode b_M_about 90 = .ok (.ireturn, 1) := by decide +kernel
theorem d_M_about_91 : decode b_M_about 91 = .ok (.aload_n 0, 1) := by decide +kernel
theorem d_M_about_92 : decode b_M_about 92 = .ok (.getfield 7, 3) := by decide +kernel
theorem d_M_about_95 : decode b_M_about 95 = .ok (.iload_n 1, 1) := by decide +kernel
theorem d_M_about_96 : decode b_M_about 96 = .ok (.iaload, 1) := by decide +kernel
theorem d_M_about_97 : decode b_M_about 97 = .ok (.ireturn, 1) := by decide +kernel
theorem d_M_about_98 : decode b_M_about 98 = .ok (.aload_n 0, 1) := by decide +kernel
theorem d_M_about_99 : decode b_M_about 99 = .ok (.getfield 13, 3) := by decide +kernel
theorem d_M_about_102 : decode b_M_about 102 = .ok (.iload_n 1, 1) := by decide +kernel
theorem d_M_about_103 : decode b_M_about 103 = .ok (.iaload, 1) := by decide +kernel
theorem d_M_about_104 : decode b_M_about 104 = .ok (.ireturn, 1) := by decide +kernel
theorem d_M_about_105 : decode b_M_about 105 = .ok (.aload_n 0, 1) := by decide +kernel
theorem d_M_about_106 : decode b_M_about 106 = .ok (.getfield 16, 3) := by decide +kernel
theorem d_M_about_109 : decode b_M_about 109 = .ok (.iload_n 1, 1) := by decide +kernel
theorem d_M_about_110 : decode b_M_about 110 = .ok (.iaload, 1) := by decide +kernel
theorem d_M_about_111 : decode b_M_about 111 = .ok (.ireturn, 1) := by decide +kernel
theorem d_M_about_112 : decode b_M_about 112 = .ok (.aload_n 0, 1) := by decide +kernel
theorem d_M_about_113 : decode b_M_about 113 = .ok (.getfield 22, 3) := by decide +kernel
theorem d_M_about_116 : decode b_M_about 116 = .ok (.iload_n 1, 1) := by decide +kernel
theorem d_M_about_117 : decode b_M_about 117 = .ok (.iaload, 1) := by decide +kernel
theorem d_M_about_118 : decode b_M_about 118 = .ok (.ireturn, 1) := by decide +kernel
theorem d_M_about_119 : decode b_M_about 119 = .ok (.aload_n 0, 1) := by decide +kernel
theorem d_M_about_120 : decode b_M_about 120 = .ok (.getfield 35, 3) := by decide +kernel
theorem d_M_about_123 : decode b_M_about 123 = .ok (.iload_n 1, 1) := by decide +kernel
theorem d_M_about_124 : decode b_M_about 124 = .ok (.iaload, 1) := by decide +kernel
theorem d_M_about_125 : decode b_M_about 125 = .ok (.ireturn, 1) := by decide +kernel
theorem d_M_about_126 : decode b_M_about 126 = .ok (.aload_n 0, 1) := by decide +kernel
theorem d_M_about_127 : decode b_M_about 127 = .ok (.getfield 38, 3) := by decide +kernel
theorem d_M_about_130 : decode b_M_about 130 = .ok (.iload_n 1, 1) := by decide +kernel
theorem d_M_about_131 : decode b_M_about 131 = .ok (.iaload, 1) := by decide +kernel
theorem d_M_about_132 : decode b_M_about 132 = .ok (.ireturn, 1) := by decide +kernel
theorem d_M_about_133 : decode b_M_about 133 = .ok (.aload_n 0, 1) := by decide +kernel
theorem d_M_about_134 : decode b_M_about 134 = .ok (.getfield 41, 3) := by decide +kernel
theorem d_M_about_137 : decode b_M_about 137 = .ok (.iload_n 1, 1) := by decide +kernel
theorem d_M_about_138 : decode b_M_about 138 = .ok (.iaload, 1) := by decide +kernel
theorem d_M_about_139 : decode b_M_about 139 = .ok (.ireturn, 1) := by decide +kernel
theorem d_M_about_140 : decode b_M_about 140 = .ok (.aload_n 0, 1) := by decide +kernel
theorem d_M_about_141 : decode b_M_about 141 = .ok (.getfield 53, 3) := by decide +kernel
theorem d_M_about_144 : decode b_M_about 144 = .ok (.iload_n 1, 1) := by decide +kernel
theorem d_M_about_145 : decode b_M_about 145 = .ok (.iaload, 1) := by decide +kernel
theorem d_M_about_146 : decode b_M_about 146 = .ok (.ireturn, 1) := by decide +kernel
theorem d_M_about_147 : decode b_M_about 147 = .ok (.aload_n 0, 1) := by decide +kernel
theorem d_M_about_148 : decode b_M_about 148 = .ok (.getfield 59, 3) := by decide +kernel
theorem d_M_about_151 : decode b_M_about 151 = .ok (.iload_n 1, 1) := by decide +kernel
theorem d_M_about_152 : decode b_M_about 152 = .ok (.iaload, 1) := by decide +kernel
theorem d_M_about_153 : decode b_M_about 153 = .ok (.ireturn, 1) := by decide +kernel
theorem d_M_about_154 : decode b_M_about 154 = .ok (.aload_n 0, 1) := by decide +kernel
theorem d_M_about_155 : decode b_M_about 155 = .ok (.getfield 32, 3) := by decide +kernel
theorem d_M_about_158 : decode b_M_about 158 = .ok (.iload_n 1, 1) := by decide +kernel
theorem d_M_about_159 : decode b_M_about 159 = .ok (.iaload, 1) := by decide +kernel
theorem d_M_about_160 : decode b_M_about 160 = .ok (.ireturn, 1) := by decide +kernel
theorem d_M_about_161 : decode b_M_about 161 = .ok (.aload_n 0, 1) := by decide +kernel
theorem d_M_about_162 : decode b_M_about 162 = .ok (.getfield 28, 3) := by decide +kernel
theorem d_M_about_165 : decode b_M_about 165 = .ok (.iload_n 1, 1) := by decide +kernel
theorem d_M_about_166 : decode b_M_about 166 = .ok (.baload, 1) := by decide +kernel
theorem d_M_about_167 : decode b_M_about 167 = .ok (.ifCond .eq 7, 3) := by decide +kernel
theorem d_M_about_170 : decode b_M_about 170 = .ok (.iconst 1, 1) := by decide +kernel
theorem d_M_about_171 : decode b_M_about 171 = .ok (.goto 4, 3) := by decide +kernel
theorem d_M_about_174 : decode b_M_about 174 = .ok (.iconst 0, 1) := by decide +kernel
theorem d_M_about_175 : decode b_M_about 175 = .ok (.ireturn, 1) := by decide +kernel
theorem d_M_about_176 : decode b_M_about 176 = .ok (.aload_n 0, 1) := by decide +kernel
theorem d_M_about_177 : decode b_M_about 177 = .ok (.getfield 19, 3) := by decide +kernel
theorem d_M_about_180 : decode b_M_about 180 = .ok (.iload_n 1, 1) := by decide +kernel
theorem d_M_about_181 : decode b_M_about 181 = .ok (.iaload, 1) := by decide +kernel
theorem d_M_about_182 : decode b_M_about 182 = .ok (.ireturn, 1) := by decide +kernel
theorem d_M_about_183 : decode b_M_about 183 = .ok (.aload_n 0, 1) := by decide +kernel
theorem d_M_about_184 : decode b_M_about 184 = .ok (.getfield 62, 3) := by decide +kernel
theorem d_M_about_187 : decode b_M_about 187 = .ok (.iload_n 1, 1) := by decide +kernel
theorem d_M_about_188 : decode b_M_about 188 = .ok (.iaload, 1) := by decide +kernel
theorem d_M_about_189 : decode b_M_about 189 = .ok (.ireturn, 1) := by decide +kernel
theorem d_M_about_190 : decode b_M_about 190 = .ok (.bipush (-102), 2) := by decide +kernel
theorem d_M_about_192 : decode b_M_about 192 = .ok (.ireturn, 1) := by decide +kernel
theorem d_M_put_0 : decode b_M_put 0 = .ok (.iload_n 2, 1) := by decide +kernel
theorem d_M_put_1 : decode b_M_put 1 = .ok (.iconst 1, 1) := by decide +kernel
theorem d_M_put_2 : decode b_M_put 2 = .ok (.isub, 1) := by decide +kernel
theorem d_M_put_3 : decode b_M_put 3 = .ok (.istore_n 3, 1) := by decide +kernel
theorem d_M_put_4 : decode b_M_put 4 = .ok (.iload_n 3, 1) := by decide +kernel
theorem d_M_put_5 : decode b_M_put 5 = .ok (.ifCond .lt 38, 3) := by decide +kernel
theorem d_M_put_8 : decode b_M_put 8 = .ok (.aload_n 0, 1) := by decide +kernel
theorem d_M_put_9 : decode b_M_put 9 = .ok (.getfield 68, 3) := by decide +kernel
theorem d_M_put_12 : decode b_M_put 12 = .ok (.aload_n 0, 1) := by decide +kernel
theorem d_M_put_13 : decode b_M_put 13 = .ok (.getfield 122, 3) := by decide +kernel
theorem d_M_put_16 : decode b_M_put 16 = .ok (.iload_n 1, 1) := by decide +kernel
theorem d_M_put_17 : decode b_M_put 17 = .ok (.bipush 8, 2) := by decide +kernel
theorem d_M_put_19 : decode b_M_put 19 = .ok (.iload_n 3, 1) := by decide +kernel
theorem d_M_put_20 : decode b_M_put 20 = .ok (.imul, 1) := by decide +kernel
theorem d_M_put_21 : decode b_M_put 21 = .ok (.ishr, 1) := by decide +kernel
theorem d_M_put_22 : decode b_M_put 22 = .ok (.sipush 255, 3) := by decide +kernel
theorem d_M_put_25 : decode b_M_put 25 = .ok (.iand, 1) := by decide +kernel
theorem d_M_put_26 : decode b_M_put 26 = .ok (.iastore, 1) := by decide +kernel
theorem d_M_put_27 : decode b_M_put 27 = .ok (.aload_n 0, 1) := by decide +kernel
theorem d_M_put_28 : decode b_M_put 28 = .ok (.dup, 1) := by decide +kernel
theorem d_M_put_29 : decode b_M_put 29 = .ok (.getfield 122, 3) := by decide +kernel
theorem d_M_put_32 : decode b_M_put 32 = .ok (.iconst 1, 1) := by decide +kernel
theorem d_M_put_33 : decode b_M_put 33 = .ok (.iadd, 1) := by decide +kernel
theorem d_M_put_34 : decode b_M_put 34 = .ok (.putfield 122, 3) := by decide +kernel
theorem d_M_put_37 : decode b_M_put 37 = .ok (.iinc 3 (-1), 3) := by decide +kernel
theorem d_M_put_40 : decode b_M_put 40 = .ok (.goto (-36), 3) := by decide +kernel
theorem d_M_put_43 : decode b_M_put 43 = .ok (.return_, 1) := by decide +kernel
theorem d_M_pack_0 : decode b_M_pack 0 = .ok (.aload_n 0, 1) := by decide +kernel
theorem d_M_pack_1 : decode b_M_pack 1 = .ok (.iload_n 1, 1) := by decide +kernel
theorem d_M_pack_2 : decode b_M_pack 2 = .ok (.invokevirtual 92, 3) := by decide +kernel
theorem d_M_pack_5 : decode b_M_pack 5 = .ok (.ifCond .ne 6, 3) := by decide +kernel
theorem d_M_pack_8 : decode b_M_pack 8 = .ok (.bipush (-101), 2) := by decide +kernel
theorem d_M_pack_10 : decode b_M_pack 10 = .ok (.ireturn, 1) := by decide +kernel
theorem d_M_pack_11 : decode b_M_pack 11 = .ok (.aload_n 0, 1) := by decide +kernel
theorem d_M_pack_12 : decode b_M_pack 12 = .ok (.iconst 0, 1) := by decide +kernel
theorem d_M_pack_13 : decode b_M_pack 13 = .ok (.putfield 122, 3) := by decide +kernel
theorem d_M_pack_16 : decode b_M_pack 16 = .ok (.aload_n 0, 1) := by decide +kernel
theorem d_M_pack_17 : decode b_M_pack 17 = .ok (.iload_n 1, 1) := by decide +kernel
theorem d_M_pack_18 : decode b_M_pack 18 = .ok (.iconst 2, 1) := by decide +kernel
theorem d_M_pack_19 : decode b_M_pack 19 = .ok (.invokevirtual 125, 3) := by decide +kernel
theorem d_M_pack_22 : decode b_M_pack 22 = .ok (.aload_n 0, 1) := by decide +kernel
theorem d_M_pack_23 : decode b_M_pack 23 = .ok (.aload_n 0, 1) := by decide +kernel
theorem d_M_pack_24 : decode b_M_pack 24 = .ok (.getfield 7, 3) := by decide +kernel
theorem d_M_pack_27 : decode b_M_pack 27 = .ok (.iload_n 1, 1) := by decide +kernel
theorem d_M_pack_28 : decode b_M_pack 28 = .ok (.iaload, 1) := by decide +kernel
theorem d_M_pack_29 : decode b_M_pack 29 = .ok (.bipush 16, 2) := by decide +kernel
theorem d_M_pack_31 : decode b_M_pack 31 = .ok (.aload_n 0, 1) := by decide +kernel
theorem d_M_pack_32 : decode b_M_pack 32 = .ok (.getfield 16, 3) := by decide +kernel
theorem d_M_pack_35 : decode b_M_pack 35 = .ok (.iload_n 1, 1) := by decide +kernel
theorem d_M_pack_36 : decode b_M_pack 36 = .ok (.iaload, 1) := by decide +kernel
theorem d_M_pack_37 : decode b_M_pack 37 = .ok (.imul, 1) := by decide +kernel
theorem d_M_pack_38 : decode b_M_pack 38 = .ok (.iadd, 1) := by decide +kernel
theorem d_M_pack_39 : decode b_M_pack 39 = .ok (.iconst 1, 1) := by decide +kernel
theorem d_M_pack_40 : decode b_M_pack 40 = .ok (.invokevirtual 125, 3) := by decide +kernel
theorem d_M_pack_43 : decode b_M_pack 43 = .ok (.aload_n 0, 1) := by decide +kernel
theorem d_M_pack_44 : decode b_M_pack 44 = .ok (.aload_n 0, 1) := by decide +kernel
theorem d_M_pack_45 : decode b_M_pack 45 = .ok (.getfield 13, 3) := by decide +kernel
theorem d_M_pack_48 : decode b_M_pack 48 = .ok (.iload_n 1, 1) := by decide +kernel
theorem d_M_pack_49 : decode b_M_pack 49 = .ok (.iaload, 1) := by decide +kernel
theorem d_M_pack_50 : decode b_M_pack 50 = .ok (.iconst 2, 1) := by decide +kernel
theorem d_M_pack_51 : decode b_M_pack 51 = .ok (.invokevirtual 125, 3) := by decide +kernel
theorem d_M_pack_54 : decode b_M_pack 54 = .ok (.aload_n 0, 1) := by decide +kernel
theorem d_M_pack_55 : decode b_M_pack 55 = .ok (.aload_n 0, 1) := by decide +kernel
theorem d_M_pack_56 : decode b_M_pack 56 = .ok (.getfield 22, 3) := by decide +kernel
theorem d_M_pack_59 : decode b_M_pack 59 = .ok (.iload_n 1, 1) := by decide +kernel
theorem d_M_pack_60 : decode b_M_pack 60 = .ok (.iaload, 1) := by decide +kernel
theorem d_M_pack_61 : decode b_M_pack 61 = .ok (.iconst 1, 1) := by decide +kernel
theorem d_M_pack_62 : decode b_M_pack 62 = .ok (.invokevirtual 125, 3) := by decide +kernel
theorem d_M_pack_65 : decode b_M_pack 65 = .ok (.aload_n 0, 1) := by decide +kernel
theorem d_M_pack_66 : decode b_M_pack 66 = .ok (.aload_n 0, 1) := by decide +kernel
theorem d_M_pack_67 : decode b_M_pack 67 = .ok (.getfield 25, 3) := by decide +kernel
theorem d_M_pack_70 : decode b_M_pack 70 = .ok (.iload_n 1, 1) := by decide +kernel
theorem d_M_pack_71 : decode b_M_pack 71 = .ok (.iaload, 1) := by decide +kernel
theorem d_M_pack_72 : decode b_M_pack 72 = .ok (.aload_n 0, 1) := by decide +kernel
theorem d_M_pack_73 : decode b_M_pack 73 = .ok (.getfield 28, 3) := by decide +kernel
theorem d_M_pack_76 : decode b_M_pack 76 = .ok (.iload_n 1, 1) := by decide +kernel
theorem d_M_pack_77 : decode b_M_pack 77 = .ok (.baload, 1) := by decide +kernel
theorem d_M_pack_78 : decode b_M_pack 78 = .ok (.ifCond .eq 9, 3) := by decide +kernel
theorem d_M_pack_81 : decode b_M_pack 81 = .ok (.sipush 128, 3) := by decide +kernel
theorem d_M_pack_84 : decode b_M_pack 84 = .ok (.goto 4, 3) := by decide +kernel
theorem d_M_pack_87 : decode b_M_pack 87 = .ok (.iconst 0, 1) := by decide +kernel
theorem d_M_pack_88 : decode b_M_pack 88 = .ok (.iadd, 1) := by decide +kernel
theorem d_M_pack_89 : decode b_M_pack 89 = .ok (.iconst 1, 1) := by decide +kernel
theorem d_M_pack_90 : decode b_M_pack 90 = .ok (.invokevirtual 125, 3) := by decide +kernel
theorem d_M_pack_93 : decode b_M_pack 93 = .ok (.aload_n 0, 1) := by decide +kernel
theorem d_M_pack_94 : decode b_M_pack 94 = .ok (.aload_n 0, 1) := by decide +kernel
theorem d_M_pack_95 : decode b_M_pack 95 = .ok (.getfield 35, 3) := by decide +kernel
theorem d_M_pack_98 : decode b_M_pack 98 = .ok (.iload_n 1, 1) := by decide +kernel
theorem d_M_pack_99 : decode b_M_pack 99 = .ok (.iaload, 1) := by decide +kernel
theorem d_M_pack_100 : decode b_M_pack 100 = .ok (.iconst 2, 1) := by decide +kernel
theorem d_M_pack_101 : decode b_M_pack 101 = .ok (.invokevirtual 125, 3) := by decide +kernel
theorem d_M_pack_104 : decode b_M_pack 104 = .ok (.aload_n 0, 1) := by decide +kernel
theorem d_M_pack_105 : decode b_M_pack 105 = .ok (.aload_n 0, 1) := by decide +kernel
theorem d_M_pack_106 : decode b_M_pack 106 = .ok (.getfield 38, 3) := by decide +kernel
theorem d_M_pack_109 : decode b_M_pack 109 = .ok (.iload_n 1, 1) := by decide +kernel
theorem d_M_pack_110 : decode b_M_pack 110 = .ok (.iaload, 1) := by decide +kernel
theorem d_M_pack_111 : decode b_M_pack 111 = .ok (.iconst 2, 1) := by decide +kernel
theorem d_M_pack_112 : decode b_M_pack 112 = .ok (.invokevirtual 125, 3) := by decide +kernel
theorem d_M_pack_115 : decode b_M_pack 115 = .ok (.aload_n 0, 1) := by decide +kernel
theorem d_M_pack_116 : decode b_M_pack 116 = .ok (.aload_n 0, 1) := by decide +kernel
theorem d_M_pack_117 : decode b_M_pack 117 = .ok (.getfield 41, 3) := by decide +kernel
theorem d_M_pack_120 : decode b_M_pack 120 = .ok (.iload_n 1, 1) := by decide +kernel
theorem d_M_pack_121 : decode b_M_pack 121 = .ok (.iaload, 1) := by decide +kernel
theorem d_M_pack_122 : decode b_M_pack 122 = .ok (.iconst 1, 1) := by decide +kernel
theorem d_M_pack_123 : decode b_M_pack 123 = .ok (.invokevirtual 125, 3) := by decide +kernel
theorem d_M_pack_126 : decode b_M_pack 126 = .ok (.aload_n 0, 1) := by decide +kernel
theorem d_M_pack_127 : decode b_M_pack 127 = .ok (.aload_n 0, 1) := by decide +kernel
theorem d_M_pack_128 : decode b_M_pack 128 = .ok (.getfield 44, 3) := by decide +kernel
theorem d_M_pack_131 : decode b_M_pack 131 = .ok (.iload_n 1, 1) := by decide +kernel
theorem d_M_pack_132 : decode b_M_pack 132 = .ok (.iaload, 1) := by decide +kernel
theorem d_M_pack_133 : decode b_M_pack 133 = .ok (.iconst 1, 1) := by decide +kernel
theorem d_M_pack_134 : decode b_M_pack 134 = .ok (.invokevirtual 125, 3) := by decide +kernel
theorem d_M_pack_137 : decode b_M_pack 137 = .ok (.iconst 4, 1) := by decide +kernel
theorem d_M_pack_138 : decode b_M_pack 138 = .ok (.iload_n 1, 1) := by decide +kernel
theorem d_M_pack_139 : decode b_M_pack 139 = .ok (.imul, 1) := by decide +kernel
theorem d_M_pack_140 : decode b_M_pack 140 = .ok (.istore_n 2, 1) := by decide +kernel
theorem d_M_pack_141 : decode b_M_pack 141 = .ok (.iload_n 2, 1) := by decide +kernel
theorem d_M_pack_142 : decode b_M_pack 142 = .ok (.iconst 4, 1) := by decide +kernel
theorem d_M_pack_143 : decode b_M_pack 143 = .ok (.iload_n 1, 1) := by decide +kernel
theorem d_M_pack_144 : decode b_M_pack 144 = .ok (.imul, 1) := by decide +kernel
theorem d_M_pack_145 : decode b_M_pack 145 = .ok (.aload_n 0, 1) := by decide +kernel
theorem d_M_pack_146 : decode b_M_pack 146 = .ok (.getfield 44, 3) := by decide +kernel
theorem d_M_pack_149 : decode b_M_pack 149 = .ok (.iload_n 1, 1) := by decide +kernel
theorem d_M_pack_150 : decode b_M_pack 150 = .ok (.iaload, 1) := by decide +kernel
theorem d_M_pack_151 : decode b_M_pack 151 = .ok (.iadd, 1) := by decide +kernel
theorem d_M_pack_152 : decode b_M_pack 152 = .ok (.if_icmp .ge 31, 3) := by decide +kernel
theorem d_M_pack_155 : decode b_M_pack 155 = .ok (.aload_n 0, 1) := by decide +kernel
theorem d_M_pack_156 : decode b_M_pack 156 = .ok (.aload_n 0, 1) := by decide +kernel
theorem d_M_pack_157 : decode b_M_pack 157 = .ok (.getfield 47, 3) := by decide +kernel
theorem d_M_pack_160 : decode b_M_pack 160 = .ok (.iload_n 2, 1) := by decide +kernel
theorem d_M_pack_161 : decode b_M_pack 161 = .ok (.iaload, 1) := by decide +kernel
theorem d_M_pack_162 : decode b_M_pack 162 = .ok (.iconst 1, 1) := by decide +kernel
theorem d_M_pack_163 : decode b_M_pack 163 = .ok (.invokevirtual 125, 3) := by decide +kernel
theorem d_M_pack_166 : decode b_M_pack 166 = .ok (.aload_n 0, 1) := by decide +kernel
theorem d_M_pack_167 : decode b_M_pack 167 = .ok (.aload_n 0, 1) := by decide +kernel
theorem d_M_pack_168 : decode b_M_pack 168 = .ok (.getfield 50, 3) := by decide +kernel
theorem d_M_pack_171 : decode b_M_pack 171 = .ok (.iload_n 2, 1) := by decide +kernel
theorem d_M_pack_172 : decode b_M_pack 172 = .ok (.iaload, 1) := by decide +kernel
theorem d_M_pack_173 : decode b_M_pack 173 = .ok (.iconst 3, 1) := by decide +kernel
theorem d_M_pack_174 : decode b_M_pack 174 = .ok (.invokevirtual 125, 3) := by decide +kernel
theorem d_M_pack_177 : decode b_M_pack 177 = .ok (.iinc 2 1, 3) := by decide +kernel
theorem d_M_pack_180 : decode b_M_pack 180 = .ok (.goto (-39), 3) := by decide +kernel
theorem d_M_pack_183 : decode b_M_pack 183 = .ok (.iconst 0, 1) := by decide +kernel
theorem d_M_pack_184 : decode b_M_pack 184 = .ok (.istore_n 2, 1) := by decide +kernel
theorem d_M_pack_185 : decode b_M_pack 185 = .ok (.iconst 0, 1) := by decide +kernel
theorem d_M_pack_186 : decode b_M_pack 186 = .ok (.istore_n 3, 1) := by decide +kernel
theorem d_M_pack_187 : decode b_M_pack 187 = .ok (.iload_n 3, 1) := by decide +kernel
theorem d_M_pack_188 : decode b_M_pack 188 = .ok (.aload_n 0, 1) := by decide +kernel
theorem d_M_pack_189 : decode b_M_pack 189 = .ok (.getfield 122, 3) := by decide +kernel
theorem d_M_pack_192 : decode b_M_pack 192 = .ok (.if_icmp .ge 18, 3) := by decide +kernel
theorem d_M_pack_195 : decode b_M_pack 195 = .ok (.iload_n 2, 1) := by decide +kernel
theorem d_M_pack_196 : decode b_M_pack 196 = .ok (.aload_n 0, 1) := by decide +kernel
theorem d_M_pack_197 : decode b_M_pack 197 = .ok (.getfield 68, 3) := by decide +kernel
theorem d_M_pack_200 : decode b_M_pack 200 = .ok (.iload_n 3, 1) := by decide +kernel
theorem d_M_pack_201 : decode b_M_pack 201 = .ok (.iaload, 1) := by decide +kernel
theorem d_M_pack_202 : decode b_M_pack 202 = .ok (.ixor, 1) := by decide +kernel
theorem d_M_pack_203 : decode b_M_pack 203 = .ok (.istore_n 2, 1) := by decide +kernel
theorem d_M_pack_204 : decode b_M_pack 204 = .ok (.iinc 3 1, 3) := by decide +kernel
theorem d_M_pack_207 : decode b_M_pack 207 = .ok (.goto (-20), 3) := by decide +kernel
theorem d_M_pack_210 : decode b_M_pack 210 = .ok (.aload_n 0, 1) := by decide +kernel
theorem d_M_pack_211 : decode b_M_pack 211 = .ok (.iload_n 2, 1) := by decide +kernel
theorem d_M_pack_212 : decode b_M_pack 212 = .ok (.iconst 1, 1) := by decide +kernel
theorem d_M_pack_213 : decode b_M_pack 213 = .ok (.invokevirtual 125, 3) := by decide +kernel
theorem d_M_pack_216 : decode b_M_pack 216 = .ok (.aload_n 0, 1) := by decide +kernel
theorem d_M_pack_217 : decode b_M_pack 217 = .ok (.getfield 122, 3) := by decide +kernel
theorem d_M_pack_220 : decode b_M_pack 220 = .ok (.ireturn, 1) := by decide +kernel
theorem d_M_octet_0 : decode b_M_octet 0 = .ok (.iload_n 1, 1) := by decide +kernel
theorem d_M_octet_1 : decode b_M_octet 1 = .ok (.iconst 0, 1) := by decide +kernel
theorem d_M_octet_2 : decode b_M_octet 2 = .ok (.aload_n 0, 1) := by decide +kernel
theorem d_M_octet_3 : decode b_M_octet 3 = .ok (.getfield 122, 3) := by decide +kernel
theorem d_M_octet_6 : decode b_M_octet 6 = .ok (.iconst 1, 1) := by decide +kernel
theorem d_M_octet_7 : decode b_M_octet 7 = .ok (.isub, 1) := by decide +kernel
theorem d_M_octet_8 : decode b_M_octet 8 = .ok (.invokestatic 75, 3) := by decide +kernel
theorem d_M_octet_11 : decode b_M_octet 11 = .ok (.ifCond .eq 12, 3) := by decide +kernel
theorem d_M_octet_14 : decode b_M_octet 14 = .ok (.aload_n 0, 1) := by decide +kernel
theorem d_M_octet_15 : decode b_M_octet 15 = .ok (.getfield 68, 3) := by decide +kernel
theorem d_M_octet_18 : decode b_M_octet 18 = .ok (.iload_n 1, 1) := by decide +kernel
theorem d_M_octet_19 : decode b_M_octet 19 = .ok (.iaload, 1) := by decide +kernel
theorem d_M_octet_20 : decode b_M_octet 20 = .ok (.goto 4, 3) := by decide +kernel
theorem d_M_octet_23 : decode b_M_octet 23 = .ok (.iconst (-1), 1) := by decide +kernel
theorem d_M_octet_24 : decode b_M_octet 24 = .ok (.ireturn, 1) := by decide +kernel
theorem d_M_aside_0 : decode b_M_aside 0 = .ok (.iload_n 1, 1) := by decide +kernel
theorem d_M_aside_1 : decode b_M_aside 1 = .ok (.istore_n 2, 1) := by decide +kernel
theorem d_M_aside_2 : decode b_M_aside 2 = .ok (.iconst 1, 1) := by decide +kernel
theorem d_M_aside_3 : decode b_M_aside 3 = .ok (.istore_n 3, 1) := by decide +kernel
theorem d_M_aside_4 : decode b_M_aside 4 = .ok (.iload_n 3, 1) := by decide +kernel
theorem d_M_aside_5 : decode b_M_aside 5 = .ok (.aload_n 0, 1) := by decide +kernel
theorem d_M_aside_6 : decode b_M_aside 6 = .ok (.getfield 71, 3) := by decide +kernel
theorem d_M_aside_9 : decode b_M_aside 9 = .ok (.if_icmp .gt 38, 3) := by decide +kernel
theorem d_M_aside_12 : decode b_M_aside 12 = .ok (.aload_n 0, 1) := by decide +kernel
theorem d_M_aside_13 : decode b_M_aside 13 = .ok (.getfield 28, 3) := by decide +kernel
theorem d_M_aside_16 : decode b_M_aside 16 = .ok (.iload_n 3, 1) := by decide +kernel
theorem d_M_aside_17 : decode b_M_aside 17 = .ok (.baload, 1) := by decide +kernel
theorem d_M_aside_18 : decode b_M_aside 18 = .ok (.ifCond .ne 14, 3) := by decide +kernel
theorem d_M_aside_21 : decode b_M_aside 21 = .ok (.aload_n 0, 1) := by decide +kernel
theorem d_M_aside_22 : decode b_M_aside 22 = .ok (.getfield 25, 3) := by decide +kernel
theorem d_M_aside_25 : decode b_M_aside 25 = .ok (.iload_n 3, 1) := by decide +kernel
theorem d_M_aside_26 : decode b_M_aside 26 = .ok (.iaload, 1) := by decide +kernel
theorem d_M_aside_27 : decode b_M_aside 27 = .ok (.bipush 8, 2) := by decide +kernel
theorem d_M_aside_29 : decode b_M_aside 29 = .ok (.if_icmp .ne 12, 3) := by decide +kernel
theorem d_M_aside_32 : decode b_M_aside 32 = .ok (.iload_n 2, 1) := by decide +kernel
theorem d_M_aside_33 : decode b_M_aside 33 = .ok (.ifCond .ne 5, 3) := by decide +kernel
theorem d_M_aside_36 : decode b_M_aside 36 = .ok (.iload_n 3, 1) := by decide +kernel
theorem d_M_aside_37 : decode b_M_aside 37 = .ok (.ireturn, 1) := by decide +kernel
theorem d_M_aside_38 : decode b_M_aside 38 = .ok (.iinc 2 (-1), 3) := by decide +kernel
theorem d_M_aside_41 : decode b_M_aside 41 = .ok (.iinc 3 1, 3) := by decide +kernel
theorem d_M_aside_44 : decode b_M_aside 44 = .ok (.goto (-40), 3) := by decide +kernel
theorem d_M_aside_47 : decode b_M_aside 47 = .ok (.iconst (-1), 1) := by decide +kernel
theorem d_M_aside_48 : decode b_M_aside 48 = .ok (.ireturn, 1) := by decide +kernel
