theorem d_F_init_0 : decode b_F_init 0 = .ok (.aload_n 0, 1) := by decide +kernel
theorem d_F_init_1 : decode b_F_init 1 = .ok (.invokespecial 1, 3) := by decide +kernel
theorem d_F_init_4 : decode b_F_init 4 = .ok (.aload_n 0, 1) := by decide +kernel
theorem d_F_init_5 : decode b_F_init 5 = .ok (.bipush 120, 2) := by decide +kernel
theorem d_F_init_7 : decode b_F_init 7 = .ok (.anewarray 9, 3) := by decide +kernel
theorem d_F_init_10 : decode b_F_init 10 = .ok (.putfield 11, 3) := by decide +kernel
theorem d_F_init_13 : decode b_F_init 13 = .ok (.aload_n 0, 1) := by decide +kernel
theorem d_F_init_14 : decode b_F_init 14 = .ok (.iconst 0, 1) := by decide +kernel
theorem d_F_init_15 : decode b_F_init 15 = .ok (.putfield 15, 3) := by decide +kernel
theorem d_F_init_18 : decode b_F_init 18 = .ok (.aload_n 0, 1) := by decide +kernel
theorem d_F_init_19 : decode b_F_init 19 = .ok (.sipush 200, 3) := by decide +kernel
theorem d_F_init_22 : decode b_F_init 22 = .ok (.anewarray 19, 3) := by decide +kernel
theorem d_F_init_25 : decode b_F_init 25 = .ok (.putfield 21, 3) := by decide +kernel
theorem d_F_init_28 : decode b_F_init 28 = .ok (.aload_n 0, 1) := by decide +kernel
theorem d_F_init_29 : decode b_F_init 29 = .ok (.iconst 0, 1) := by decide +kernel
theorem d_F_init_30 : decode b_F_init 30 = .ok (.putfield 25, 3) := by decide +kernel
theorem d_F_init_33 : decode b_F_init 33 = .ok (.aload_n 0, 1) := by decide +kernel
theorem d_F_init_34 : decode b_F_init 34 = .ok (.bipush 31, 2) := by decide +kernel
theorem d_F_init_36 : decode b_F_init 36 = .ok (.newarray .int, 2) := by decide +kernel
theorem d_F_init_38 : decode b_F_init 38 = .ok (.putfield 28, 3) := by decide +kernel
theorem d_F_init_41 : decode b_F_init 41 = .ok (.aload_n 0, 1) := by decide +kernel
theorem d_F_init_42 : decode b_F_init 42 = .ok (.bipush 31, 2) := by decide +kernel
theorem d_F_init_44 : decode b_F_init 44 = .ok (.newarray .boolean, 2) := by decide +kernel
theorem d_F_init_46 : decode b_F_init 46 = .ok (.putfield 32, 3) := by decide +kernel
theorem d_F_init_49 : decode b_F_init 49 = .ok (.aload_n 0, 1) := by decide +kernel
theorem d_F_init_50 : decode b_F_init 50 = .ok (.bipush 21, 2) := by decide +kernel
theorem d_F_init_52 : decode b_F_init 52 = .ok (.newarray .int, 2) := by decide +kernel
theorem d_F_init_54 : decode b_F_init 54 = .ok (.putfield 36, 3) := by decide +kernel
theorem d_F_init_57 : decode b_F_init 57 = .ok (.aload_n 0, 1) := by decide +kernel
theorem d_F_init_58 : decode b_F_init 58 = .ok (.new 39, 3) := by decide +kernel
theorem d_F_init_61 : decode b_F_init 61 = .ok (.dup, 1) := by decide +kernel
theorem d_F_init_62 : decode b_F_init 62 = .ok (.invokespecial 41, 3) := by decide +kernel
theorem d_F_init_65 : decode b_F_init 65 = .ok (.putfield 42, 3) := by decide +kernel
theorem d_F_init_68 : decode b_F_init 68 = .ok (.return_, 1) := by decide +kernel
theorem d_F_item_0 : decode b_F_item 0 = .ok (.iload_n 1, 1) := by decide +kernel
theorem d_F_item_1 : decode b_F_item 1 = .ok (.iconst 0, 1) := by decide +kernel
theorem d_F_item_2 : decode b_F_item 2 = .ok (.iconst 3, 1) := by decide +kernel
theorem d_F_item_3 : decode b_F_item 3 = .ok (.invokestatic 46, 3) := by decide +kernel
theorem d_F_item_6 : decode b_F_item 6 = .ok (.ifCond .eq 34, 3) := by decide +kernel
theorem d_F_item_9 : decode b_F_item 9 = .ok (.iload_n 2, 1) := by decide +kernel
theorem d_F_item_10 : decode b_F_item 10 = .ok (.iconst 1, 1) := by decide +kernel
theorem d_F_item_11 : decode b_F_item 11 = .ok (.ldc 50, 2) := by decide +kernel
theorem d_F_item_13 : decode b_F_item 13 = .ok (.invokestatic 46, 3) := by decide +kernel
theorem d_F_item_16 : decode b_F_item 16 = .ok (.ifCond .eq 24, 3) := by decide +kernel
theorem d_F_item_19 : decode b_F_item 19 = .ok (.iload_n 3, 1) := by decide +kernel
theorem d_F_item_20 : decode b_F_item 20 = .ok (.iconst 0, 1) := by decide +kernel
theorem d_F_item_21 : decode b_F_item 21 = .ok (.bipush 9, 2) := by decide +kernel
theorem d_F_item_23 : decode b_F_item 23 = .ok (.invokestatic 46, 3) := by decide +kernel
theorem d_F_item_26 : decode b_F_item 26 = .ok (.ifCond .eq 14, 3) := by decide +kernel
theorem d_F_item_29 : decode b_F_item 29 = .ok (.iload 4, 2) := by decide +kernel
theorem d_F_item_31 : decode b_F_item 31 = .ok (.iconst 0, 1) := by decide +kernel
theorem d_F_item_32 : decode b_F_item 32 = .ok (.bipush 99, 2) := by decide +kernel
theorem d_F_item_34 : decode b_F_item 34 = .ok (.invokestatic 46, 3) := by decide +kernel
theorem d_F_item_37 : decode b_F_item 37 = .ok (.ifCond .ne 6, 3) := by decide +kernel
theorem d_F_item_40 : decode b_F_item 40 = .ok (.bipush (-102), 2) := by decide +kernel
theorem d_F_item_42 : decode b_F_item 42 = .ok (.ireturn, 1) := by decide +kernel
theorem d_F_item_43 : decode b_F_item 43 = .ok (.aload_n 0, 1) := by decide +kernel
theorem d_F_item_44 : decode b_F_item 44 = .ok (.getfield 15, 3) := by decide +kernel
theorem d_F_item_47 : decode b_F_item 47 = .ok (.bipush 120, 2) := by decide +kernel
theorem d_F_item_49 : decode b_F_item 49 = .ok (.if_icmp .lt 6, 3) := by decide +kernel
theorem d_F_item_52 : decode b_F_item 52 = .ok (.bipush (-104), 2) := by decide +kernel
theorem d_F_item_54 : decode b_F_item 54 = .ok (.ireturn, 1) := by decide +kernel
theorem d_F_item_55 : decode b_F_item 55 = .ok (.iload_n 2, 1) := by decide +kernel
theorem d_F_item_56 : decode b_F_item 56 = .ok (.getstatic 51, 3) := by decide +kernel
theorem d_F_item_59 : decode b_F_item 59 = .ok (.iconst 3, 1) := by decide +kernel
theorem d_F_item_60 : decode b_F_item 60 = .ok (.iaload, 1) := by decide +kernel
theorem d_F_item_61 : decode b_F_item 61 = .ok (.if_icmp .le 6, 3) := by decide +kernel
theorem d_F_item_64 : decode b_F_item 64 = .ok (.bipush (-109), 2) := by decide +kernel
theorem d_F_item_66 : decode b_F_item 66 = .ok (.ireturn, 1) := by decide +kernel
theorem d_F_item_67 : decode b_F_item 67 = .ok (.iload_n 3, 1) := by decide +kernel
theorem d_F_item_68 : decode b_F_item 68 = .ok (.getstatic 54, 3) := by decide +kernel
theorem d_F_item_71 : decode b_F_item 71 = .ok (.iconst 3, 1) := by decide +kernel
theorem d_F_item_72 : decode b_F_item 72 = .ok (.iaload, 1) := by decide +kernel
theorem d_F_item_73 : decode b_F_item 73 = .ok (.if_icmp .le 6, 3) := by decide +kernel
theorem d_F_item_76 : decode b_F_item 76 = .ok (.bipush (-110), 2) := by decide +kernel
theorem d_F_item_78 : decode b_F_item 78 = .ok (.ireturn, 1) := by decide +kernel
theorem d_F_item_79 : decode b_F_item 79 = .ok (.aload_n 0, 1) := by decide +kernel
theorem d_F_item_80 : decode b_F_item 80 = .ok (.getfield 11, 3) := by decide +kernel
theorem d_F_item_83 : decode b_F_item 83 = .ok (.aload_n 0, 1) := by decide +kernel
theorem d_F_item_84 : decode b_F_item 84 = .ok (.getfield 15, 3) := by decide +kernel
theorem d_F_item_87 : decode b_F_item 87 = .ok (.new 9, 3) := by decide +kernel
theorem d_F_item_90 : decode b_F_item 90 = .ok (.dup, 1) := by decide +kernel
theorem d_F_item_91 : decode b_F_item 91 = .ok (.iload_n 1, 1) := by decide +kernel
theorem d_F_item_92 : decode b_F_item 92 = .ok (.iload_n 2, 1) := by decide +kernel
theorem d_F_item_93 : decode b_F_item 93 = .ok (.iload_n 3, 1) := by decide +kernel
theorem d_F_item_94 : decode b_F_item 94 = .ok (.invokestatic 57, 3) := by decide +kernel
theorem d_F_item_97 : decode b_F_item 97 = .ok (.iload_n 2, 1) := by decide +kernel
theorem d_F_item_98 : decode b_F_item 98 = .ok (.iload_n 3, 1) := by decide +kernel
theorem d_F_item_99 : decode b_F_item 99 = .ok (.iload 4, 2) := by decide +kernel
theorem d_F_item_101 : decode b_F_item 101 = .ok (.invokespecial 61, 3) := by decide +kernel
theorem d_F_item_104 : decode b_F_item 104 = .ok (.aastore, 1) := by decide +kernel
theorem d_F_item_105 : decode b_F_item 105 = .ok (.aload_n 0, 1) := by decide +kernel
theorem d_F_item_106 : decode b_F_item 106 = .ok (.dup, 1) := by decide +kernel
theorem d_F_item_107 : decode b_F_item 107 = .ok (.getfield 15, 3) := by decide +kernel
theorem d_F_item_110 : decode b_F_item 110 = .ok (.iconst 1, 1) := by decide +kernel
theorem d_F_item_111 : decode b_F_item 111 = .ok (.iadd, 1) := by decide +kernel
theorem d_F_item_112 : decode b_F_item 112 = .ok (.putfield 15, 3) := by decide +kernel
theorem d_F_item_115 : decode b_F_item 115 = .ok (.aload_n 0, 1) := by decide +kernel
theorem d_F_item_116 : decode b_F_item 116 = .ok (.getfield 15, 3) := by decide +kernel
theorem d_F_item_119 : decode b_F_item 119 = .ok (.ireturn, 1) := by decide +kernel
theorem d_F_service_0 : decode b_F_service 0 = .ok (.aload_n 0, 1) := by decide +kernel
theorem d_F_service_1 : decode b_F_service 1 = .ok (.iload_n 1, 1) := by decide +kernel
theorem d_F_service_2 : decode b_F_service 2 = .ok (.invokevirtual 64, 3) := by decide +kernel
theorem d_F_service_5 : decode b_F_service 5 = .ok (.astore_n 3, 1) := by decide +kernel
theorem d_F_service_6 : decode b_F_service 6 = .ok (.aload_n 3, 1) := by decide +kernel
theorem d_F_service_7 : decode b_F_service 7 = .ok (.ifnonnull 6, 3) := by decide +kernel
theorem d_F_service_10 : decode b_F_service 10 = .ok (.bipush (-101), 2) := by decide +kernel
theorem d_F_service_12 : decode b_F_service 12 = .ok (.ireturn, 1) := by decide +kernel
theorem d_F_service_13 : decode b_F_service 13 = .ok (.iload_n 2, 1) := by decide +kernel
theorem d_F_service_14 : decode b_F_service 14 = .ok (.iconst 0, 1) := by decide +kernel
theorem d_F_service_15 : decode b_F_service 15 = .ok (.iconst 5, 1) := by decide +kernel
theorem d_F_service_16 : decode b_F_service 16 = .ok (.invokestatic 46, 3) := by decide +kernel
theorem d_F_service_19 : decode b_F_service 19 = .ok (.ifCond .ne 6, 3) := by decide +kernel
theorem d_F_service_22 : decode b_F_service 22 = .ok (.bipush (-102), 2) := by decide +kernel
theorem d_F_service_24 : decode b_F_service 24 = .ok (.ireturn, 1) := by decide +kernel
theorem d_F_service_25 : decode b_F_service 25 = .ok (.aload_n 3, 1) := by decide +kernel
theorem d_F_service_26 : decode b_F_service 26 = .ok (.iload_n 2, 1) := by decide +kernel
theorem d_F_service_27 : decode b_F_service 27 = .ok (.invokevirtual 68, 3) := by decide +kernel
theorem d_F_service_30 : decode b_F_service 30 = .ok (.ifCond .ne 10, 3) := by decide +kernel
theorem d_F_service_33 : decode b_F_service 33 = .ok (.aload_n 3, 1) := by decide +kernel
theorem d_F_service_34 : decode b_F_service 34 = .ok (.invokevirtual 72, 3) := by decide +kernel
theorem d_F_service_37 : decode b_F_service 37 = .ok (.ifCond .eq 6, 3) := by decide +kernel
theorem d_F_service_40 : decode b_F_service 40 = .ok (.bipush (-103), 2) := by decide +kernel
theorem d_F_service_42 : decode b_F_service 42 = .ok (.ireturn, 1) := by decide +kernel
theorem d_F_service_43 : decode b_F_service 43 = .ok (.aload_n 3, 1) := by decide +kernel
theorem d_F_service_44 : decode b_F_service 44 = .ok (.iload_n 2, 1) := by decide +kernel
theorem d_F_service_45 : decode b_F_service 45 = .ok (.invokevirtual 76, 3) := by decide +kernel
theorem d_F_service_48 : decode b_F_service 48 = .ok (.istore 4, 2) := by decide +kernel
theorem d_F_service_50 : decode b_F_service 50 = .ok (.iload 4, 2) := by decide +kernel
theorem d_F_service_52 : decode b_F_service 52 = .ok (.iconst (-1), 1) := by decide +kernel
theorem d_F_service_53 : decode b_F_service 53 = .ok (.if_icmp .eq 10, 3) := by decide +kernel
theorem d_F_service_56 : decode b_F_service 56 = .ok (.sipush (-200), 3) := by decide +kernel
theorem d_F_service_59 : decode b_F_service 59 = .ok (.iload 4, 2) := by decide +kernel
theorem d_F_service_61 : decode b_F_service 61 = .ok (.isub, 1) := by decide +kernel
theorem d_F_service_62 : decode b_F_service 62 = .ok (.ireturn, 1) := by decide +kernel
theorem d_F_service_63 : decode b_F_service 63 = .ok (.aload_n 3, 1) := by decide +kernel
theorem d_F_service_64 : decode b_F_service 64 = .ok (.iload_n 2, 1) := by decide +kernel
theorem d_F_service_65 : decode b_F_service 65 = .ok (.invokevirtual 80, 3) := by decide +kernel
theorem d_F_service_68 : decode b_F_service 68 = .ok (.ifCond .eq 6, 3) := by decide +kernel
theorem d_F_service_71 : decode b_F_service 71 = .ok (.bipush (-111), 2) := by decide +kernel
theorem d_F_service_73 : decode b_F_service 73 = .ok (.ireturn, 1) := by decide +kernel
theorem d_F_service_74 : decode b_F_service 74 = .ok (.aload_n 3, 1) := by decide +kernel
theorem d_F_service_75 : decode b_F_service 75 = .ok (.dup, 1) := by decide +kernel
theorem d_F_service_76 : decode b_F_service 76 = .ok (.getfield 83, 3) := by decide +kernel
theorem d_F_service_79 : decode b_F_service 79 = .ok (.iconst 1, 1) := by decide +kernel
theorem d_F_service_80 : decode b_F_service 80 = .ok (.iload_n 2, 1) := by decide +kernel
theorem d_F_service_81 : decode b_F_service 81 = .ok (.ishl, 1) := by decide +kernel
theorem d_F_service_82 : decode b_F_service 82 = .ok (.ior, 1) := by decide +kernel
theorem d_F_service_83 : decode b_F_service 83 = .ok (.putfield 83, 3) := by decide +kernel
theorem d_F_service_86 : decode b_F_service 86 = .ok (.aload_n 3, 1) := by decide +kernel
theorem d_F_service_87 : decode b_F_service 87 = .ok (.getfield 83, 3) := by decide +kernel
theorem d_F_service_90 : decode b_F_service 90 = .ok (.invokestatic 86, 3) := by decide +kernel
theorem d_F_service_93 : decode b_F_service 93 = .ok (.ireturn, 1) := by decide +kernel
theorem d_F_event_0 : decode b_F_event 0 = .ok (.aload_n 0, 1) := by decide +kernel
theorem d_F_event_1 : decode b_F_event 1 = .ok (.iload_n 1, 1) := by decide +kernel
theorem d_F_event_2 : decode b_F_event 2 = .ok (.invokevirtual 64, 3) := by decide +kernel
theorem d_F_event_5 : decode b_F_event 5 = .ok (.astore_n 3, 1) := by decide +kernel
theorem d_F_event_6 : decode b_F_event 6 = .ok (.aload_n 3, 1) := by decide +kernel
theorem d_F_event_7 : decode b_F_event 7 = .ok (.ifnonnull 6, 3) := by decide +kernel
theorem d_F_event_10 : decode b_F_event 10 = .ok (.bipush (-101), 2) := by decide +kernel
theorem d_F_event_12 : decode b_F_event 12 = .ok (.ireturn, 1) := by decide +kernel
theorem d_F_event_13 : decode b_F_event 13 = .ok (.iload_n 2, 1) := by decide +kernel
theorem d_F_event_14 : decode b_F_event 14 = .ok (.iconst 0, 1) := by decide +kernel
theorem d_F_event_15 : decode b_F_event 15 = .ok (.bipush 10, 2) := by decide +kernel
theorem d_F_event_17 : decode b_F_event 17 = .ok (.invokestatic 46, 3) := by decide +kernel
theorem d_F_event_20 : decode b_F_event 20 = .ok (.ifCond .ne 6, 3) := by decide +kernel
theorem d_F_event_23 : decode b_F_event 23 = .ok (.bipush (-102), 2) := by decide +kernel
theorem d_F_event_25 : decode b_F_event 25 = .ok (.ireturn, 1) := by decide +kernel
theorem d_F_event_26 : decode b_F_event 26 = .ok (.aload_n 3, 1) := by decide +kernel
theorem d_F_event_27 : decode b_F_event 27 = .ok (.invokevirtual 72, 3) := by decide +kernel
theorem d_F_event_30 : decode b_F_event 30 = .ok (.ifCond .eq 16, 3) := by decide +kernel
theorem d_F_event_33 : decode b_F_event 33 = .ok (.aload_n 3, 1) := by decide +kernel
theorem d_F_event_34 : decode b_F_event 34 = .ok (.dup, 1) := by decide +kernel
theorem d_F_event_35 : decode b_F_event 35 = .ok (.getfield 91, 3) := by decide +kernel
theorem d_F_event_38 : decode b_F_event 38 = .ok (.iconst 1, 1) := by decide +kernel
theorem d_F_event_39 : decode b_F_event 39 = .ok (.iadd, 1) := by decide +kernel
theorem d_F_event_40 : decode b_F_event 40 = .ok (.putfield 91, 3) := by decide +kernel
theorem d_F_event_43 : decode b_F_event 43 = .ok (.bipush (-105), 2) := by decide +kernel
theorem d_F_event_45 : decode b_F_event 45 = .ok (.ireturn, 1) := by decide +kernel
theorem d_F_event_46 : decode b_F_event 46 = .ok (.aload_n 3, 1) := by decide +kernel
theorem d_F_event_47 : decode b_F_event 47 = .ok (.iload_n 2, 1) := by decide +kernel
theorem d_F_event_48 : decode b_F_event 48 = .ok (.invokevirtual 94, 3) := by decide +kernel
theorem d_F_event_51 : decode b_F_event 51 = .ok (.istore 4, 2) := by decide +kernel
theorem d_F_event_53 : decode b_F_event 53 = .ok (.iload 4, 2) := by decide +kernel
theorem d_F_event_55 : decode b_F_event 55 = .ok (.iconst (-1), 1) := by decide +kernel
theorem d_F_event_56 : decode b_F_event 56 = .ok (.if_icmp .ne 6, 3) := by decide +kernel
theorem d_F_event_59 : decode b_F_event 59 = .ok (.bipush (-103), 2) := by decide +kernel
theorem d_F_event_61 : decode b_F_event 61 = .ok (.ireturn, 1) := by decide +kernel
theorem d_F_event_62 : decode b_F_event 62 = .ok (.iload_n 2, 1) := by decide +kernel
theorem d_F_event_63 : decode b_F_event 63 = .ok (.iconst 2, 1) := by decide +kernel
theorem d_F_event_64 : decode b_F_event 64 = .ok (.if_icmp .ne 20, 3) := by decide +kernel
theorem d_F_event_67 : decode b_F_event 67 = .ok (.aload_n 3, 1) := by decide +kernel
theorem d_F_event_68 : decode b_F_event 68 = .ok (.getfield 97, 3) := by decide +kernel
theorem d_F_event_71 : decode b_F_event 71 = .ok (.ifCond .eq 13, 3) := by decide +kernel
theorem d_F_event_74 : decode b_F_event 74 = .ok (.aload_n 3, 1) := by decide +kernel
theorem d_F_event_75 : decode b_F_event 75 = .ok (.getfield 100, 3) := by decide +kernel
theorem d_F_event_78 : decode b_F_event 78 = .ok (.ifCond .ne 6, 3) := by decide +kernel
theorem d_F_event_81 : decode b_F_event 81 = .ok (.bipush (-106), 2) := by decide +kernel
theorem d_F_event_83 : decode b_F_event 83 = .ok (.ireturn, 1) := by decide +kernel
theorem d_F_event_84 : decode b_F_event 84 = .ok (.iload_n 2, 1) := by decide +kernel
theorem d_F_event_85 : decode b_F_event 85 = .ok (.iconst 4, 1) := by decide +kernel
theorem d_F_event_86 : decode b_F_event 86 = .ok (.if_icmp .ne 25, 3) := by decide +kernel
theorem d_F_event_89 : decode b_F_event 89 = .ok (.aload_n 3, 1) := by decide +kernel
theorem d_F_event_90 : decode b_F_event 90 = .ok (.getfield 103, 3) := by decide +kernel
theorem d_F_event_93 : decode b_F_event 93 = .ok (.iconst 4, 1) := by decide +kernel
theorem d_F_event_94 : decode b_F_event 94 = .ok (.if_icmp .ne 17, 3) := by decide +kernel
theorem d_F_event_97 : decode b_F_event 97 = .ok (.aload_n 0, 1) := by decide +kernel
theorem d_F_event_98 : decode b_F_event 98 = .ok (.aload_n 3, 1) := by decide +kernel
theorem d_F_event_99 : decode b_F_event 99 = .ok (.getfield 106, 3) := by decide +kernel
theorem d_F_event_102 : decode b_F_event 102 = .ok (.invokevirtual 109, 3) := by decide +kernel
theorem d_F_event_105 : decode b_F_event 105 = .ok (.ifCond .eq 6, 3) := by decide +kernel
theorem d_F_event_108 : decode b_F_event 108 = .ok (.bipush (-107), 2) := by decide +kernel
theorem d_F_event_110 : decode b_F_event 110 = .ok (.ireturn, 1) := by decide +kernel
theorem d_F_event_111 : decode b_F_event 111 = .ok (.aload_n 3, 1) := by decide +kernel
theorem d_F_event_112 : decode b_F_event 112 = .ok (.iload_n 2, 1) := by decide +kernel
theorem d_F_event_113 : decode b_F_event 113 = .ok (.iload 4, 2) := by decide +kernel
theorem d_F_event_115 : decode b_F_event 115 = .ok (.invokevirtual 112, 3) := by decide +kernel
theorem d_F_event_118 : decode b_F_event 118 = .ok (.iload 4, 2) := by decide +kernel
theorem d_F_event_120 : decode b_F_event 120 = .ok (.ireturn, 1) := by decide +kernel
theorem d_F_address_0 : decode b_F_address 0 = .ok (.aload_n 0, 1) := by decide +kernel
theorem d_F_address_1 : decode b_F_address 1 = .ok (.iload_n 1, 1) := by decide +kernel
theorem d_F_address_2 : decode b_F_address 2 = .ok (.invokevirtual 64, 3) := by decide +kernel
theorem d_F_address_5 : decode b_F_address 5 = .ok (.astore 4, 2) := by decide +kernel
theorem d_F_address_7 : decode b_F_address 7 = .ok (.aload 4, 2) := by decide +kernel
theorem d_F_address_9 : decode b_F_address 9 = .ok (.ifnonnull 6, 3) := by decide +kernel
theorem d_F_address_12 : decode b_F_address 12 = .ok (.bipush (-101), 2) := by decide +kernel
theorem d_F_address_14 : decode b_F_address 14 = .ok (.ireturn, 1) := by decide +kernel
theorem d_F_address_15 : decode b_F_address 15 = .ok (.iload_n 2, 1) := by decide +kernel
theorem d_F_address_16 : decode b_F_address 16 = .ok (.iconst 0, 1) := by decide +kernel
theorem d_F_address_17 : decode b_F_address 17 = .ok (.iconst 1, 1) := by decide +kernel
theorem d_F_address_18 : decode b_F_address 18 = .ok (.invokestatic 46, 3) := by decide +kernel
theorem d_F_address_21 : decode b_F_address 21 = .ok (.ifCond .eq 14, 3) := by decide +kernel
theorem d_F_address_24 : decode b_F_address 24 = .ok (.iload_n 3, 1) := by decide +kernel
theorem d_F_address_25 : decode b_F_address 25 = .ok (.iconst 0, 1) := by decide +kernel
theorem d_F_address_26 : decode b_F_address 26 = .ok (.sipush 9999, 3) := by decide +kernel
theorem d_F_address_29 : decode b_F_address 29 = .ok (.invokestatic 46, 3) := by decide +kernel
theorem d_F_address_32 : decode b_F_address 32 = .ok (.ifCond .ne 6, 3) := by decide +kernel
theorem d_F_address_35 : decode b_F_address 35 = .ok (.bipush (-102), 2) := by decide +kernel
theorem d_F_address_37 : decode b_F_address 37 = .ok (.ireturn, 1) := by decide +kernel
theorem d_F_address_38 : decode b_F_address 38 = .ok (.aload 4, 2) := by decide +kernel
theorem d_F_address_40 : decode b_F_address 40 = .ok (.invokevirtual 72, 3) := by decide +kernel
theorem d_F_address_43 : decode b_F_address 43 = .ok (.ifCond .ne 12, 3) := by decide +kernel
theorem d_F_address_46 : decode b_F_address 46 = .ok (.aload 4, 2) := by decide +kernel
theorem d_F_address_48 : decode b_F_address 48 = .ok (.getfield 116, 3) := by decide +kernel
theorem d_F_address_51 : decode b_F_address 51 = .ok (.iconst (-1), 1) := by decide +kernel
theorem d_F_address_52 : decode b_F_address 52 = .ok (.if_icmp .eq 6, 3) := by decide +kernel
theorem d_F_address_55 : decode b_F_address 55 = .ok (.bipush (-103), 2) := by decide +kernel
theorem d_F_address_57 : decode b_F_address 57 = .ok (.ireturn, 1) := by decide +kernel
theorem d_F_address_58 : decode b_F_address 58 = .ok (.iload_n 2, 1) := by decide +kernel
theorem d_F_address_59 : decode b_F_address 59 = .ok (.ifCond .ne 19, 3) := by decide +kernel
theorem d_F_address_62 : decode b_F_address 62 = .ok (.aload 4, 2) := by decide +kernel
theorem d_F_address_64 : decode b_F_address 64 = .ok (.getfield 119, 3) := by decide +kernel
theorem d_F_address_67 : decode b_F_address 67 = .ok (.istore 5, 2) := by decide +kernel
theorem d_F_address_69 : decode b_F_address 69 = .ok (.aload 4, 2) := by decide +kernel
theorem d_F_address_71 : decode b_F_address 71 = .ok (.iload_n 3, 1) := by decide +kernel
theorem d_F_address_72 : decode b_F_address 72 = .ok (.putfield 119, 3) := by decide +kernel
theorem d_F_address_75 : decode b_F_address 75 = .ok (.goto 16, 3) := by decide +kernel
theorem d_F_address_78 : decode b_F_address 78 = .ok (.aload 4, 2) := by decide +kernel
theorem d_F_address_80 : decode b_F_address 80 = .ok (.getfield 116, 3) := by decide +kernel
theorem d_F_address_83 : decode b_F_address 83 = .ok (.istore 5, 2) := by decide +kernel
theorem d_F_address_85 : decode b_F_address 85 = .ok (.aload 4, 2) := by decide +kernel
theorem d_F_address_87 : decode b_F_address 87 = .ok (.iload_n 3, 1) := by decide +kernel
theorem d_F_address_88 : decode b_F_address 88 = .ok (.putfield 116, 3) := by decide +kernel
theorem d_F_address_91 : decode b_F_address 91 = .ok (.iload 5, 2) := by decide +kernel
theorem d_F_address_93 : decode b_F_address 93 = .ok (.ireturn, 1) := by decide +kernel
theorem d_F_abroad_0 : decode b_F_abroad 0 = .ok (.aload_n 0, 1) := by decide +kernel
theorem d_F_abroad_1 : decode b_F_abroad 1 = .ok (.iload_n 1, 1) := by decide +kernel
theorem d_F_abroad_2 : decode b_F_abroad 2 = .ok (.invokevirtual 64, 3) := by decide +kernel
theorem d_F_abroad_5 : decode b_F_abroad 5 = .ok (.astore_n 3, 1) := by decide +kernel
theorem d_F_abroad_6 : decode b_F_abroad 6 = .ok (.aload_n 3, 1) := by decide +kernel
theorem d_F_abroad_7 : decode b_F_abroad 7 = .ok (.ifnonnull 6, 3) := by decide +kernel
theorem d_F_abroad_10 : decode b_F_abroad 10 = .ok (.bipush (-101), 2) := by decide +kernel
theorem d_F_abroad_12 : decode b_F_abroad 12 = .ok (.ireturn, 1) := by decide +kernel
theorem d_F_abroad_13 : decode b_F_abroad 13 = .ok (.iload_n 2, 1) := by decide +kernel
theorem d_F_abroad_14 : decode b_F_abroad 14 = .ok (.iconst 1, 1) := by decide +kernel
theorem d_F_abroad_15 : decode b_F_abroad 15 = .ok (.bipush 30, 2) := by decide +kernel
theorem d_F_abroad_17 : decode b_F_abroad 17 = .ok (.invokestatic 46, 3) := by decide +kernel
theorem d_F_abroad_20 : decode b_F_abroad 20 = .ok (.ifCond .ne 6, 3) := by decide +kernel
theorem d_F_abroad_23 : decode b_F_abroad 23 = .ok (.bipush (-102), 2) := by decide +kernel
theorem d_F_abroad_25 : decode b_F_abroad 25 = .ok (.ireturn, 1) := by decide +kernel
theorem d_F_abroad_26 : decode b_F_abroad 26 = .ok (.aload_n 3, 1) := by decide +kernel
theorem d_F_abroad_27 : decode b_F_abroad 27 = .ok (.getfield 97, 3) := by decide +kernel
theorem d_F_abroad_30 : decode b_F_abroad 30 = .ok (.ifCond .ne 18, 3) := by decide +kernel
theorem d_F_abroad_33 : decode b_F_abroad 33 = .ok (.aload_n 3, 1) := by decide +kernel
theorem d_F_abroad_34 : decode b_F_abroad 34 = .ok (.getfield 103, 3) := by decide +kernel
theorem d_F_abroad_37 : decode b_F_abroad 37 = .ok (.ifCond .eq 14, 3) := by decide +kernel
theorem d_F_abroad_40 : decode b_F_abroad 40 = .ok (.aload_n 3, 1) := by decide +kernel
theorem d_F_abroad_41 : decode b_F_abroad 41 = .ok (.getfield 103, 3) := by decide +kernel
theorem d_F_abroad_44 : decode b_F_abroad 44 = .ok (.iconst 1, 1) := by decide +kernel
theorem d_F_abroad_45 : decode b_F_abroad 45 = .ok (.if_icmp .eq 6, 3) := by decide +kernel
theorem d_F_abroad_48 : decode b_F_abroad 48 = .ok (.bipush (-103), 2) := by decide +kernel
theorem d_F_abroad_50 : decode b_F_abroad 50 = .ok (.ireturn, 1) := by decide +kernel
theorem d_F_abroad_51 : decode b_F_abroad 51 = .ok (.aload_n 3, 1) := by decide +kernel
theorem d_F_abroad_52 : decode b_F_abroad 52 = .ok (.iload_n 2, 1) := by decide +kernel
theorem d_F_abroad_53 : decode b_F_abroad 53 = .ok (.putfield 97, 3) := by decide +kernel
theorem d_F_abroad_56 : decode b_F_abroad 56 = .ok (.iconst 1, 1) := by decide +kernel
theorem d_F_abroad_57 : decode b_F_abroad 57 = .ok (.ireturn, 1) := by decide +kernel
theorem d_F_contents_0 : decode b_F_contents 0 = .ok (.aload_n 0, 1) := by decide +kernel
theorem d_F_contents_1 : decode b_F_contents 1 = .ok (.iload_n 1, 1) := by decide +kernel
theorem d_F_contents_2 : decode b_F_contents 2 = .ok (.invokevirtual 64, 3) := by decide +kernel
theorem d_F_contents_5 : decode b_F_contents 5 = .ok (.astore 4, 2) := by decide +kernel
theorem d_F_contents_7 : decode b_F_contents 7 = .ok (.aload 4, 2) := by decide +kernel
theorem d_F_contents_9 : decode b_F_contents 9 = .ok (.ifnonnull 6, 3) := by decide +kernel
theorem d_F_contents_12 : decode b_F_contents 12 = .ok (.bipush (-101), 2) := by decide +kernel
theorem d_F_contents_14 : decode b_F_contents 14 = .ok (.ireturn, 1) := by decide +kernel
theorem d_F_contents_15 : decode b_F_contents 15 = .ok (.iload_n 2, 1) := by decide +kernel
theorem d_F_contents_16 : decode b_F_contents 16 = .ok (.iconst 0, 1) := by decide +kernel
theorem d_F_contents_17 : decode b_F_contents 17 = .ok (.bipush 99, 2) := by decide +kernel
theorem d_F_contents_19 : decode b_F_contents 19 = .ok (.invokestatic 46, 3) := by decide +kernel
theorem d_F_contents_22 : decode b_F_contents 22 = .ok (.ifCond .eq 13, 3) := by decide +kernel
theorem d_F_contents_25 : decode b_F_contents 25 = .ok (.iload_n 3, 1) := by decide +kernel
theorem d_F_contents_26 : decode b_F_contents 26 = .ok (.iconst 0, 1) := by decide +kernel
theorem d_F_contents_27 : decode b_F_contents 27 = .ok (.ldc 50, 2) := by decide +kernel
theorem d_F_contents_29 : decode b_F_contents 29 = .ok (.invokestatic 46, 3) := by decide +kernel
theorem d_F_contents_32 : decode b_F_contents 32 = .ok (.ifCond .ne 6, 3) := by decide +kernel
theorem d_F_contents_35 : decode b_F_contents 35 = .ok (.bipush (-102), 2) := by decide +kernel
theorem d_F_contents_37 : decode b_F_contents 37 = .ok (.ireturn, 1) := by decide +kernel
theorem d_F_contents_38 : decode b_F_contents 38 = .ok (.aload 4, 2) := by decide +kernel
theorem d_F_contents_40 : decode b_F_contents 40 = .ok (.getfield 97, 3) := by decide +kernel
theorem d_F_contents_43 : decode b_F_contents 43 = .ok (.ifCond .eq 11, 3) := by decide +kernel
theorem d_F_contents_46 : decode b_F_contents 46 = .ok (.aload 4, 2) := by decide +kernel
theorem d_F_contents_48 : decode b_F_contents 48 = .ok (.invokevirtual 72, 3) := by decide +kernel
theorem d_F_contents_51 : decode b_F_contents 51 = .ok (.ifCond .eq 6, 3) := by decide +kernel
theorem d_F_contents_54 : decode b_F_contents 54 = .ok (.bipush (-103), 2) := by decide +kernel
theorem d_F_contents_56 : decode b_F_contents 56 = .ok (.ireturn, 1) := by decide +kernel
theorem d_F_contents_57 : decode b_F_contents 57 = .ok (.aload 4, 2) := by decide +kernel
theorem d_F_contents_59 : decode b_F_contents 59 = .ok (.getfield 100, 3) := by decide +kernel
theorem d_F_contents_62 : decode b_F_contents 62 = .ok (.iconst 4, 1) := by decide +kernel
theorem d_F_contents_63 : decode b_F_contents 63 = .ok (.if_icmp .lt 6, 3) := by decide +kernel
theorem d_F_contents_66 : decode b_F_contents 66 = .ok (.bipush (-104), 2) := by decide +kernel
theorem d_F_contents_68 : decode b_F_contents 68 = .ok (.ireturn, 1) := by decide +kernel
theorem d_F_contents_69 : decode b_F_contents 69 = .ok (.aload 4, 2) := by decide +kernel
theorem d_F_contents_71 : decode b_F_contents 71 = .ok (.getfield 122, 3) := by decide +kernel
theorem d_F_contents_74 : decode b_F_contents 74 = .ok (.aload 4, 2) := by decide +kernel
theorem d_F_contents_76 : decode b_F_contents 76 = .ok (.getfield 100, 3) := by decide +kernel
theorem d_F_contents_79 : decode b_F_contents 79 = .ok (.iload_n 2, 1) := by decide +kernel
theorem d_F_contents_80 : decode b_F_contents 80 = .ok (.iastore, 1) := by decide +kernel
theorem d_F_contents_81 : decode b_F_contents 81 = .ok (.aload 4, 2) := by decide +kernel
theorem d_F_contents_83 : decode b_F_contents 83 = .ok (.getfield 125, 3) := by decide +kernel
theorem d_F_contents_86 : decode b_F_contents 86 = .ok (.aload 4, 2) := by decide +kernel
theorem d_F_contents_88 : decode b_F_contents 88 = .ok (.getfield 100, 3) := by decide +kernel
theorem d_F_contents_91 : decode b_F_contents 91 = .ok (.iload_n 3, 1) := by decide +kernel
theorem d_F_contents_92 : decode b_F_contents 92 = .ok (.iastore, 1) := by decide +kernel
theorem d_F_contents_93 : decode b_F_contents 93 = .ok (.aload 4, 2) := by decide +kernel
theorem d_F_contents_95 : decode b_F_contents 95 = .ok (.dup, 1) := by decide +kernel
theorem d_F_contents_96 : decode b_F_contents 96 = .ok (.getfield 100, 3) := by decide +kernel
theorem d_F_contents_99 : decode b_F_contents 99 = .ok (.iconst 1, 1) := by decide +kernel
theorem d_F_contents_100 : decode b_F_contents 100 = .ok (.iadd, 1) := by decide +kernel
theorem d_F_contents_101 : decode b_F_contents 101 = .ok (.putfield 100, 3) := by decide +kernel
theorem d_F_contents_104 : decode b_F_contents 104 = .ok (.aload 4, 2) := by decide +kernel
theorem d_F_contents_106 : decode b_F_contents 106 = .ok (.getfield 100, 3) := by decide +kernel
theorem d_F_contents_109 : decode b_F_contents 109 = .ok (.ireturn, 1) := by decide +kernel
theorem d_F_join_0 : decode b_F_join 0 = .ok (.aload_n 0, 1) := by decide +kernel
theorem d_F_join_1 : decode b_F_join 1 = .ok (.iload_n 1, 1) := by decide +kernel
theorem d_F_join_2 : decode b_F_join 2 = .ok (.invokevirtual 64, 3) := by decide +kernel
theorem d_F_join_5 : decode b_F_join 5 = .ok (.astore 4, 2) := by decide +kernel
theorem d_F_join_7 : decode b_F_join 7 = .ok (.aload 4, 2) := by decide +kernel
theorem d_F_join_9 : decode b_F_join 9 = .ok (.ifnonnull 6, 3) := by decide +kernel
theorem d_F_join_12 : decode b_F_join 12 = .ok (.bipush (-101), 2) := by decide +kernel
theorem d_F_join_14 : decode b_F_join 14 = .ok (.ireturn, 1) := by decide +kernel
theorem d_F_join_15 : decode b_F_join 15 = .ok (.iload_n 2, 1) := by decide +kernel
theorem d_F_join_16 : decode b_F_join 16 = .ok (.iconst 1, 1) := by decide +kernel
theorem d_F_join_17 : decode b_F_join 17 = .ok (.bipush 30, 2) := by decide +kernel
theorem d_F_join_19 : decode b_F_join 19 = .ok (.invokestatic 46, 3) := by decide +kernel
theorem d_F_join_22 : decode b_F_join 22 = .ok (.ifCond .ne 6, 3) := by decide +kernel
theorem d_F_join_25 : decode b_F_join 25 = .ok (.bipush (-102), 2) := by decide +kernel
theorem d_F_join_27 : decode b_F_join 27 = .ok (.ireturn, 1) := by decide +kernel
theorem d_F_join_28 : decode b_F_join 28 = .ok (.aload 4, 2) := by decide +kernel
theorem d_F_join_30 : decode b_F_join 30 = .ok (.getfield 106, 3) := by decide +kernel
theorem d_F_join_33 : decode b_F_join 33 = .ok (.ifCond .ne 11, 3) := by decide +kernel
theorem d_F_join_36 : decode b_F_join 36 = .ok (.aload 4, 2) := by decide +kernel
theorem d_F_join_38 : decode b_F_join 38 = .ok (.invokevirtual 72, 3) := by decide +kernel
theorem d_F_join_41 : decode b_F_join 41 = .ok (.ifCond .eq 6, 3) := by decide +kernel
theorem d_F_join_44 : decode b_F_join 44 = .ok (.bipush (-103), 2) := by decide +kernel
theorem d_F_join_46 : decode b_F_join 46 = .ok (.ireturn, 1) := by decide +kernel
theorem d_F_join_47 : decode b_F_join 47 = .ok (.aload_n 0, 1) := by decide +kernel
theorem d_F_join_48 : decode b_F_join 48 = .ok (.getfield 28, 3) := by decide +kernel
theorem d_F_join_51 : decode b_F_join 51 = .ok (.iload_n 2, 1) := by decide +kernel
theorem d_F_join_52 : decode b_F_join 52 = .ok (.iaload, 1) := by decide +kernel
theorem d_F_join_53 : decode b_F_join 53 = .ok (.ifCond .ne 10, 3) := by decide +kernel
theorem d_F_join_56 : decode b_F_join 56 = .ok (.aload_n 0, 1) := by decide +kernel
theorem d_F_join_57 : decode b_F_join 57 = .ok (.getfield 32, 3) := by decide +kernel
theorem d_F_join_60 : decode b_F_join 60 = .ok (.iload_n 2, 1) := by decide +kernel
theorem d_F_join_61 : decode b_F_join 61 = .ok (.iload_n 3, 1) := by decide +kernel
theorem d_F_join_62 : decode b_F_join 62 = .ok (.bastore, 1) := by decide +kernel
theorem d_F_join_63 : decode b_F_join 63 = .ok (.aload 4, 2) := by decide +kernel
theorem d_F_join_65 : decode b_F_join 65 = .ok (.iload_n 2, 1) := by decide +kernel
theorem d_F_join_66 : decode b_F_join 66 = .ok (.putfield 106, 3) := by decide +kernel
theorem d_F_join_69 : decode b_F_join 69 = .ok (.aload_n 0, 1) := by decide +kernel
theorem d_F_join_70 : decode b_F_join 70 = .ok (.getfield 28, 3) := by decide +kernel
theorem d_F_join_73 : decode b_F_join 73 = .ok (.iload_n 2, 1) := by decide +kernel
theorem d_F_join_74 : decode b_F_join 74 = .ok (.dup2, 1) := by decide +kernel
theorem d_F_join_75 : decode b_F_join 75 = .ok (.iaload, 1) := by decide +kernel
theorem d_F_join_76 : decode b_F_join 76 = .ok (.iconst 1, 1) := by decide +kernel
theorem d_F_join_77 : decode b_F_join 77 = .ok (.iadd, 1) := by decide +kernel
theorem d_F_join_78 : decode b_F_join 78 = .ok (.iastore, 1) := by decide +kernel
theorem d_F_join_79 : decode b_F_join 79 = .ok (.aload_n 0, 1) := by decide +kernel
theorem d_F_join_80 : decode b_F_join 80 = .ok (.getfield 28, 3) := by decide +kernel
theorem d_F_join_83 : decode b_F_join 83 = .ok (.iload_n 2, 1) := by decide +kernel
theorem d_F_join_84 : decode b_F_join 84 = .ok (.iaload, 1) := by decide +kernel
theorem d_F_join_85 : decode b_F_join 85 = .ok (.ireturn, 1) := by decide +kernel
theorem d_F_bulk_0 : decode b_F_bulk 0 = .ok (.aload_n 0, 1) := by decide +kernel
theorem d_F_bulk_1 : decode b_F_bulk 1 = .ok (.iload_n 1, 1) := by decide +kernel
theorem d_F_bulk_2 : decode b_F_bulk 2 = .ok (.invokevirtual 64, 3) := by decide +kernel
theorem d_F_bulk_5 : decode b_F_bulk 5 = .ok (.astore_n 3, 1) := by decide +kernel
theorem d_F_bulk_6 : decode b_F_bulk 6 = .ok (.aload_n 3, 1) := by decide +kernel
theorem d_F_bulk_7 : decode b_F_bulk 7 = .ok (.ifnonnull 6, 3) := by decide +kernel
theorem d_F_bulk_10 : decode b_F_bulk 10 = .ok (.bipush (-101), 2) := by decide +kernel
theorem d_F_bulk_12 : decode b_F_bulk 12 = .ok (.ireturn, 1) := by decide +kernel
theorem d_F_bulk_13 : decode b_F_bulk 13 = .ok (.iload_n 2, 1) := by decide +kernel
theorem d_F_bulk_14 : decode b_F_bulk 14 = .ok (.iconst 1, 1) := by decide +kernel
theorem d_F_bulk_15 : decode b_F_bulk 15 = .ok (.bipush 20, 2) := by decide +kernel
theorem d_F_bulk_17 : decode b_F_bulk 17 = .ok (.invokestatic 46, 3) := by decide +kernel
theorem d_F_bulk_20 : decode b_F_bulk 20 = .ok (.ifCond .ne 6, 3) := by decide +kernel
theorem d_F_bulk_23 : decode b_F_bulk 23 = .ok (.bipush (-102), 2) := by decide +kernel
theorem d_F_bulk_25 : decode b_F_bulk 25 = .ok (.ireturn, 1) := by decide +kernel
theorem d_F_bulk_26 : decode b_F_bulk 26 = .ok (.aload_n 3, 1) := by decide +kernel
theorem d_F_bulk_27 : decode b_F_bulk 27 = .ok (.getfield 128, 3) := by decide +kernel
theorem d_F_bulk_30 : decode b_F_bulk 30 = .ok (.ifCond .eq 6, 3) := by decide +kernel
theorem d_F_bulk_33 : decode b_F_bulk 33 = .ok (.bipush (-103), 2) := by decide +kernel
theorem d_F_bulk_35 : decode b_F_bulk 35 = .ok (.ireturn, 1) := by decide +kernel
theorem d_F_bulk_36 : decode b_F_bulk 36 = .ok (.aload_n 3, 1) := by decide +kernel
theorem d_F_bulk_37 : decode b_F_bulk 37 = .ok (.iload_n 2, 1) := by decide +kernel
theorem d_F_bulk_38 : decode b_F_bulk 38 = .ok (.putfield 128, 3) := by decide +kernel
theorem d_F_bulk_41 : decode b_F_bulk 41 = .ok (.aload_n 0, 1) := by decide +kernel
theorem d_F_bulk_42 : decode b_F_bulk 42 = .ok (.getfield 36, 3) := by decide +kernel
theorem d_F_bulk_45 : decode b_F_bulk 45 = .ok (.iload_n 2, 1) := by decide +kernel
theorem d_F_bulk_46 : decode b_F_bulk 46 = .ok (.dup2, 1) := by decide +kernel
theorem d_F_bulk_47 : decode b_F_bulk 47 = .ok (.iaload, 1) := by decide +kernel
theorem d_F_bulk_48 : decode b_F_bulk 48 = .ok (.iconst 1, 1) := by decide +kernel
theorem d_F_bulk_49 : decode b_F_bulk 49 = .ok (.iadd, 1) := by decide +kernel
theorem d_F_bulk_50 : decode b_F_bulk 50 = .ok (.iastore, 1) := by decide +kernel
theorem d_F_bulk_51 : decode b_F_bulk 51 = .ok (.aload_n 0, 1) := by decide +kernel
theorem d_F_bulk_52 : decode b_F_bulk 52 = .ok (.getfield 36, 3) := by decide +kernel
theorem d_F_bulk_55 : decode b_F_bulk 55 = .ok (.iload_n 2, 1) := by decide +kernel
theorem d_F_bulk_56 : decode b_F_bulk 56 = .ok (.iaload, 1) := by decide +kernel
theorem d_F_bulk_57 : decode b_F_bulk 57 = .ok (.ireturn, 1) := by decide +kernel
theorem d_F_open_0 : decode b_F_open 0 = .ok (.aload_n 0, 1) := by decide +kernel
theorem d_F_open_1 : decode b_F_open 1 = .ok (.iload_n 1, 1) := by decide +kernel
theorem d_F_open_2 : decode b_F_open 2 = .ok (.invokevirtual 64, 3) := by decide +kernel
theorem d_F_open_5 : decode b_F_open 5 = .ok (.astore 4, 2) := by decide +kernel
theorem d_F_open_7 : decode b_F_open 7 = .ok (.aload 4, 2) := by decide +kernel
theorem d_F_open_9 : decode b_F_open 9 = .ok (.ifnonnull 6, 3) := by decide +kernel
theorem d_F_open_12 : decode b_F_open 12 = .ok (.bipush (-101), 2) := by decide +kernel
theorem d_F_open_14 : decode b_F_open 14 = .ok (.ireturn, 1) := by decide +kernel
theorem d_F_open_15 : decode b_F_open 15 = .ok (.iload_n 2, 1) := by decide +kernel
theorem d_F_open_16 : decode b_F_open 16 = .ok (.iconst 0, 1) := by decide +kernel
theorem d_F_open_17 : decode b_F_open 17 = .ok (.bipush 19, 2) := by decide +kernel
theorem d_F_open_19 : decode b_F_open 19 = .ok (.invokestatic 46, 3) := by decide +kernel
theorem d_F_open_22 : decode b_F_open 22 = .ok (.ifCond .eq 13, 3) := by decide +kernel
theorem d_F_open_25 : decode b_F_open 25 = .ok (.iload_n 3, 1) := by decide +kernel
theorem d_F_open_26 : decode b_F_open 26 = .ok (.iconst 0, 1) := by decide +kernel
theorem d_F_open_27 : decode b_F_open 27 = .ok (.bipush 19, 2) := by decide +kernel
theorem d_F_open_29 : decode b_F_open 29 = .ok (.invokestatic 46, 3) := by decide +kernel
theorem d_F_open_32 : decode b_F_open 32 = .ok (.ifCond .ne 6, 3) := by decide +kernel
theorem d_F_open_35 : decode b_F_open 35 = .ok (.bipush (-102), 2) := by decide +kernel
theorem d_F_open_37 : decode b_F_open 37 = .ok (.ireturn, 1) := by decide +kernel
theorem d_F_open_38 : decode b_F_open 38 = .ok (.aload 4, 2) := by decide +kernel
theorem d_F_open_40 : decode b_F_open 40 = .ok (.getfield 103, 3) := by decide +kernel
theorem d_F_open_43 : decode b_F_open 43 = .ok (.bipush 8, 2) := by decide +kernel
theorem d_F_open_45 : decode b_F_open 45 = .ok (.if_icmp .ne 11, 3) := by decide +kernel
theorem d_F_open_48 : decode b_F_open 48 = .ok (.aload 4, 2) := by decide +kernel
theorem d_F_open_50 : decode b_F_open 50 = .ok (.getfield 131, 3) := by decide +kernel
theorem d_F_open_53 : decode b_F_open 53 = .ok (.ifCond .eq 6, 3) := by decide +kernel
theorem d_F_open_56 : decode b_F_open 56 = .ok (.bipush (-103), 2) := by decide +kernel
theorem d_F_open_58 : decode b_F_open 58 = .ok (.ireturn, 1) := by decide +kernel
theorem d_F_open_59 : decode b_F_open 59 = .ok (.iload_n 2, 1) := by decide +kernel
theorem d_F_open_60 : decode b_F_open 60 = .ok (.iload_n 3, 1) := by decide +kernel
theorem d_F_open_61 : decode b_F_open 61 = .ok (.if_icmp .ne 6, 3) := by decide +kernel
theorem d_F_open_64 : decode b_F_open 64 = .ok (.bipush (-108), 2) := by decide +kernel
theorem d_F_open_66 : decode b_F_open 66 = .ok (.ireturn, 1) := by decide +kernel
theorem d_F_open_67 : decode b_F_open 67 = .ok (.aload 4, 2) := by decide +kernel
theorem d_F_open_69 : decode b_F_open 69 = .ok (.iconst 1, 1) := by decide +kernel
theorem d_F_open_70 : decode b_F_open 70 = .ok (.putfield 103, 3) := by decide +kernel
theorem d_F_open_73 : decode b_F_open 73 = .ok (.aload 4, 2) := by decide +kernel
theorem d_F_open_75 : decode b_F_open 75 = .ok (.iconst (-1), 1) := by decide +kernel
theorem d_F_open_76 : decode b_F_open 76 = .ok (.putfield 116, 3) := by decide +kernel
theorem d_F_open_79 : decode b_F_open 79 = .ok (.aload 4, 2) := by decide +kernel
theorem d_F_open_81 : decode b_F_open 81 = .ok (.bipush 100, 2) := by decide +kernel
theorem d_F_open_83 : decode b_F_open 83 = .ok (.iload_n 2, 1) := by decide +kernel
theorem d_F_open_84 : decode b_F_open 84 = .ok (.imul, 1) := by decide +kernel
theorem d_F_open_85 : decode b_F_open 85 = .ok (.iload_n 3, 1) := by decide +kernel
theorem d_F_open_86 : decode b_F_open 86 = .ok (.iadd, 1) := by decide +kernel
theorem d_F_open_87 : decode b_F_open 87 = .ok (.putfield 135, 3) := by decide +kernel
theorem d_F_open_90 : decode b_F_open 90 = .ok (.iconst 1, 1) := by decide +kernel
theorem d_F_open_91 : decode b_F_open 91 = .ok (.ireturn, 1) := by decide +kernel
theorem d_F_correct_0 : decode b_F_correct 0 = .ok (.aload_n 0, 1) := by decide +kernel
theorem d_F_correct_1 : decode b_F_correct 1 = .ok (.iload_n 1, 1) := by decide +kernel
theorem d_F_correct_2 : decode b_F_correct 2 = .ok (.invokevirtual 64, 3) := by decide +kernel
theorem d_F_correct_5 : decode b_F_correct 5 = .ok (.astore 5, 2) := by decide +kernel
theorem d_F_correct_7 : decode b_F_correct 7 = .ok (.aload 5, 2) := by decide +kernel
theorem d_F_correct_9 : decode b_F_correct 9 = .ok (.ifnonnull 6, 3) := by decide +kernel
theorem d_F_correct_12 : decode b_F_correct 12 = .ok (.bipush (-101), 2) := by decide +kernel
theorem d_F_correct_14 : decode b_F_correct 14 = .ok (.ireturn, 1) := by decide +kernel
theorem d_F_correct_15 : decode b_F_correct 15 = .ok (.iload_n 2, 1) := by decide +kernel
theorem d_F_correct_16 : decode b_F_correct 16 = .ok (.iload_n 3, 1) := by decide +kernel
theorem d_F_correct_17 : decode b_F_correct 17 = .ok (.invokestatic 138, 3) := by decide +kernel
theorem d_F_correct_20 : decode b_F_correct 20 = .ok (.ifCond .eq 14, 3) := by decide +kernel
theorem d_F_correct_23 : decode b_F_correct 23 = .ok (.iload 4, 2) := by decide +kernel
theorem d_F_correct_25 : decode b_F_correct 25 = .ok (.iconst 1, 1) := by decide +kernel
theorem d_F_correct_26 : decode b_F_correct 26 = .ok (.bipush 9, 2) := by decide +kernel
theorem d_F_correct_28 : decode b_F_correct 28 = .ok (.invokestatic 46, 3) := by decide +kernel
theorem d_F_correct_31 : decode b_F_correct 31 = .ok (.ifCond .ne 6, 3) := by decide +kernel
theorem d_F_correct_34 : decode b_F_correct 34 = .ok (.bipush (-102), 2) := by decide +kernel
theorem d_F_correct_36 : decode b_F_correct 36 = .ok (.ireturn, 1) := by decide +kernel
theorem d_F_correct_37 : decode b_F_correct 37 = .ok (.aload 5, 2) := by decide +kernel
theorem d_F_correct_39 : decode b_F_correct 39 = .ok (.iload_n 2, 1) := by decide +kernel
theorem d_F_correct_40 : decode b_F_correct 40 = .ok (.iload_n 3, 1) := by decide +kernel
theorem d_F_correct_41 : decode b_F_correct 41 = .ok (.invokevirtual 142, 3) := by decide +kernel
theorem d_F_correct_44 : decode b_F_correct 44 = .ok (.ifCond .eq 6, 3) := by decide +kernel
theorem d_F_correct_47 : decode b_F_correct 47 = .ok (.bipush (-103), 2) := by decide +kernel
theorem d_F_correct_49 : decode b_F_correct 49 = .ok (.ireturn, 1) := by decide +kernel
theorem d_F_correct_50 : decode b_F_correct 50 = .ok (.aload_n 0, 1) := by decide +kernel
theorem d_F_correct_51 : decode b_F_correct 51 = .ok (.getfield 25, 3) := by decide +kernel
theorem d_F_correct_54 : decode b_F_correct 54 = .ok (.sipush 200, 3) := by decide +kernel
theorem d_F_correct_57 : decode b_F_correct 57 = .ok (.if_icmp .lt 6, 3) := by decide +kernel
theorem d_F_correct_60 : decode b_F_correct 60 = .ok (.bipush (-104), 2) := by decide +kernel
theorem d_F_correct_62 : decode b_F_correct 62 = .ok (.ireturn, 1) := by decide +kernel
theorem d_F_correct_63 : decode b_F_correct 63 = .ok (.iload_n 2, 1) := by decide +kernel
theorem d_F_correct_64 : decode b_F_correct 64 = .ok (.iconst 1, 1) := by decide +kernel
theorem d_F_correct_65 : decode b_F_correct 65 = .ok (.if_icmp .ne 15, 3) := by decide +kernel
theorem d_F_correct_68 : decode b_F_correct 68 = .ok (.iload_n 3, 1) := by decide +kernel
theorem d_F_correct_69 : decode b_F_correct 69 = .ok (.getstatic 51, 3) := by decide +kernel
theorem d_F_correct_72 : decode b_F_correct 72 = .ok (.iconst 3, 1) := by decide +kernel
theorem d_F_correct_73 : decode b_F_correct 73 = .ok (.iaload, 1) := by decide +kernel
theorem d_F_correct_74 : decode b_F_correct 74 = .ok (.if_icmp .le 6, 3) := by decide +kernel
theorem d_F_correct_77 : decode b_F_correct 77 = .ok (.bipush (-109), 2) := by decide +kernel
theorem d_F_correct_79 : decode b_F_correct 79 = .ok (.ireturn, 1) := by decide +kernel
theorem d_F_correct_80 : decode b_F_correct 80 = .ok (.iload_n 2, 1) := by decide +kernel
theorem d_F_correct_81 : decode b_F_correct 81 = .ok (.iconst 2, 1) := by decide +kernel
theorem d_F_correct_82 : decode b_F_correct 82 = .ok (.if_icmp .ne 15, 3) := by decide +kernel
theorem d_F_correct_85 : decode b_F_correct 85 = .ok (.iload_n 3, 1) := by decide +kernel
theorem d_F_correct_86 : decode b_F_correct 86 = .ok (.getstatic 54, 3) := by decide +kernel
theorem d_F_correct_89 : decode b_F_correct 89 = .ok (.iconst 3, 1) := by decide +kernel
theorem d_F_correct_90 : decode b_F_correct 90 = .ok (.iaload, 1) := by decide +kernel
theorem d_F_correct_91 : decode b_F_correct 91 = .ok (.if_icmp .le 6, 3) := by decide +kernel
theorem d_F_correct_94 : decode b_F_correct 94 = .ok (.bipush (-110), 2) := by decide +kernel
theorem d_F_correct_96 : decode b_F_correct 96 = .ok (.ireturn, 1) := by decide +kernel
theorem d_F_correct_97 : decode b_F_correct 97 = .ok (.aload_n 0, 1) := by decide +kernel
theorem d_F_correct_98 : decode b_F_correct 98 = .ok (.getfield 21, 3) := by decide +kernel
theorem d_F_correct_101 : decode b_F_correct 101 = .ok (.aload_n 0, 1) := by decide +kernel
theorem d_F_correct_102 : decode b_F_correct 102 = .ok (.getfield 25, 3) := by decide +kernel
theorem d_F_correct_105 : decode b_F_correct 105 = .ok (.new 19, 3) := by decide +kernel
theorem d_F_correct_108 : decode b_F_correct 108 = .ok (.dup, 1) := by decide +kernel
theorem d_F_correct_109 : decode b_F_correct 109 = .ok (.iload_n 1, 1) := by decide +kernel
theorem d_F_correct_110 : decode b_F_correct 110 = .ok (.iload_n 2, 1) := by decide +kernel
theorem d_F_correct_111 : decode b_F_correct 111 = .ok (.aload 5, 2) := by decide +kernel
theorem d_F_correct_113 : decode b_F_correct 113 = .ok (.iload_n 2, 1) := by decide +kernel
theorem d_F_correct_114 : decode b_F_correct 114 = .ok (.invokevirtual 145, 3) := by decide +kernel
theorem d_F_correct_117 : decode b_F_correct 117 = .ok (.iload_n 3, 1) := by decide +kernel
theorem d_F_correct_118 : decode b_F_correct 118 = .ok (.iload 4, 2) := by decide +kernel
theorem d_F_correct_120 : decode b_F_correct 120 = .ok (.invokespecial 148, 3) := by decide +kernel
theorem d_F_correct_123 : decode b_F_correct 123 = .ok (.aastore, 1) := by decide +kernel
theorem d_F_correct_124 : decode b_F_correct 124 = .ok (.aload_n 0, 1) := by decide +kernel
theorem d_F_correct_125 : decode b_F_correct 125 = .ok (.dup, 1) := by decide +kernel
theorem d_F_correct_126 : decode b_F_correct 126 = .ok (.getfield 25, 3) := by decide +kernel
theorem d_F_correct_129 : decode b_F_correct 129 = .ok (.iconst 1, 1) := by decide +kernel
theorem d_F_correct_130 : decode b_F_correct 130 = .ok (.iadd, 1) := by decide +kernel
theorem d_F_correct_131 : decode b_F_correct 131 = .ok (.putfield 25, 3) := by decide +kernel
theorem d_F_correct_134 : decode b_F_correct 134 = .ok (.aload 5, 2) := by decide +kernel
theorem d_F_correct_136 : decode b_F_correct 136 = .ok (.iload_n 2, 1) := by decide +kernel
theorem d_F_correct_137 : decode b_F_correct 137 = .ok (.iload_n 3, 1) := by decide +kernel
theorem d_F_correct_138 : decode b_F_correct 138 = .ok (.invokevirtual 151, 3) := by decide +kernel
theorem d_F_correct_141 : decode b_F_correct 141 = .ok (.aload_n 0, 1) := by decide +kernel
theorem d_F_correct_142 : decode b_F_correct 142 = .ok (.getfield 25, 3) := by decide +kernel
theorem d_F_correct_145 : decode b_F_correct 145 = .ok (.ireturn, 1) := by decide +kernel
theorem d_F_row_0 : decode b_F_row 0 = .ok (.iload_n 1, 1) := by decide +kernel
theorem d_F_row_1 : decode b_F_row 1 = .ok (.iconst 0, 1) := by decide +kernel
theorem d_F_row_2 : decode b_F_row 2 = .ok (.aload_n 0, 1) := by decide +kernel
theorem d_F_row_3 : decode b_F_row 3 = .ok (.getfield 25, 3) := by decide +kernel
theorem d_F_row_6 : decode b_F_row 6 = .ok (.iconst 1, 1) := by decide +kernel
theorem d_F_row_7 : decode b_F_row 7 = .ok (.isub, 1) := by decide +kernel
theorem d_F_row_8 : decode b_F_row 8 = .ok (.invokestatic 46, 3) := by decide +kernel
theorem d_F_row_11 : decode b_F_row 11 = .ok (.ifCond .ne 5, 3) := by decide +kernel
theorem d_F_row_14 : decode b_F_row 14 = .ok (.iconst (-1), 1) := by decide +kernel
theorem d_F_row_15 : decode b_F_row 15 = .ok (.ireturn, 1) := by decide +kernel
theorem d_F_row_16 : decode b_F_row 16 = .ok (.aload_n 0, 1) := by decide +kernel
theorem d_F_row_17 : decode b_F_row 17 = .ok (.getfield 21, 3) := by decide +kernel
theorem d_F_row_20 : decode b_F_row 20 = .ok (.iload_n 1, 1) := by decide +kernel
theorem d_F_row_21 : decode b_F_row 21 = .ok (.aaload, 1) := by decide +kernel
theorem d_F_row_22 : decode b_F_row 22 = .ok (.astore_n 3, 1) := by decide +kernel
theorem d_F_row_23 : decode b_F_row 23 = .ok (.aload_n 3, 1) := by decide +kernel
theorem d_F_row_24 : decode b_F_row 24 = .ok (.ifnonnull 5, 3) := by decide +kernel
theorem d_F_row_27 : decode b_F_row 27 = .ok (.iconst (-1), 1) := by decide +kernel
theorem d_F_row_28 : decode b_F_row 28 = .ok (.ireturn, 1) := by decide +kernel
theorem d_F_row_29 : decode b_F_row 29 = .ok (.aload_n 3, 1) := by decide +kernel
theorem d_F_row_30 : decode b_F_row 30 = .ok (.iload_n 2, 1) := by decide +kernel
theorem d_F_row_31 : decode b_F_row 31 = .ok (.invokevirtual 154, 3) := by decide +kernel
theorem d_F_row_34 : decode b_F_row 34 = .ok (.ireturn, 1) := by decide +kernel
theorem d_F_about_0 : decode b_F_about 0 = .ok (.aload_n 0, 1) := by decide +kernel
theorem d_F_about_1 : decode b_F_about 1 = .ok (.iload_n 1, 1) := by decide +kernel
theorem d_F_about_2 : decode b_F_about 2 = .ok (.invokevirtual 64, 3) := by decide +kernel
theorem d_F_about_5 : decode b_F_about 5 = .ok (.astore_n 3, 1) := by decide +kernel
theorem d_F_about_6 : decode b_F_about 6 = .ok (.aload_n 3, 1) := by decide +kernel
theorem d_F_about_7 : decode b_F_about 7 = .ok (.ifnonnull 6, 3) := by decide +kernel
theorem d_F_about_10 : decode b_F_about 10 = .ok (.bipush (-101), 2) := by decide +kernel
theorem d_F_about_12 : decode b_F_about 12 = .ok (.ireturn, 1) := by decide +kernel
theorem d_F_about_13 : decode b_F_about 13 = .ok (.iload_n 2, 1) := by decide +kernel
theorem d_F_about_14 : decode b_F_about 14 = .ok (.iconst 0, 1) := by decide +kernel
theorem d_F_about_15 : decode b_F_about 15 = .ok (.bipush 13, 2) := by decide +kernel
theorem d_F_about_17 : decode b_F_about 17 = .ok (.invokestatic 46, 3) := by decide +kernel
theorem d_F_about_20 : decode b_F_about 20 = .ok (.ifCond .ne 6, 3) := by decide +kernel
theorem d_F_about_23 : decode b_F_about 23 = .ok (.bipush (-102), 2) := by decide +kernel
theorem d_F_about_25 : decode b_F_about 25 = .ok (.ireturn, 1) := by decide +kernel
theorem d_F_about_26 : decode b_F_about 26 = .ok (.aload_n 3, 1) := by decide +kernel
theorem d_F_about_27 : decode b_F_about 27 = .ok (.iload_n 2, 1) := by decide +kernel
theorem d_F_about_28 : decode b_F_about 28 = .ok (.invokevirtual 157, 3) := by decide +kernel
theorem d_F_about_31 : decode b_F_about 31 = .ok (.ireturn, 1) := by decide +kernel
theorem d_F_pack_0 : decode b_F_pack 0 = .ok (.aload_n 0, 1) := by decide +kernel
theorem d_F_pack_1 : decode b_F_pack 1 = .ok (.iload_n 1, 1) := by decide +kernel
theorem d_F_pack_2 : decode b_F_pack 2 = .ok (.invokevirtual 64, 3) := by decide +kernel
theorem d_F_pack_5 : decode b_F_pack 5 = .ok (.astore_n 2, 1) := by decide +kernel
theorem d_F_pack_6 : decode b_F_pack 6 = .ok (.aload_n 2, 1) := by decide +kernel
theorem d_F_pack_7 : decode b_F_pack 7 = .ok (.ifnonnull 6, 3) := by decide +kernel
theorem d_F_pack_10 : decode b_F_pack 10 = .ok (.bipush (-101), 2) := by decide +kernel
theorem d_F_pack_12 : decode b_F_pack 12 = .ok (.ireturn, 1) := by decide +kernel
theorem d_F_pack_13 : decode b_F_pack 13 = .ok (.aload_n 0, 1) := by decide +kernel
theorem d_F_pack_14 : decode b_F_pack 14 = .ok (.getfield 42, 3) := by decide +kernel
theorem d_F_pack_17 : decode b_F_pack 17 = .ok (.iload_n 1, 1) := by decide +kernel
theorem d_F_pack_18 : decode b_F_pack 18 = .ok (.aload_n 2, 1) := by decide +kernel
theorem d_F_pack_19 : decode b_F_pack 19 = .ok (.invokevirtual 160, 3) := by decide +kernel
theorem d_F_pack_22 : decode b_F_pack 22 = .ok (.aload_n 0, 1) := by decide +kernel
theorem d_F_pack_23 : decode b_F_pack 23 = .ok (.getfield 42, 3) := by decide +kernel
theorem d_F_pack_26 : decode b_F_pack 26 = .ok (.getfield 164, 3) := by decide +kernel
theorem d_F_pack_29 : decode b_F_pack 29 = .ok (.ireturn, 1) := by decide +kernel
theorem d_F_octet_0 : decode b_F_octet 0 = .ok (.aload_n 0, 1) := by decide +kernel
theorem d_F_octet_1 : decode b_F_octet 1 = .ok (.getfield 42, 3) := by decide +kernel
theorem d_F_octet_4 : decode b_F_octet 4 = .ok (.iload_n 1, 1) := by decide +kernel
theorem d_F_octet_5 : decode b_F_octet 5 = .ok (.invokevirtual 167, 3) := by decide +kernel
theorem d_F_octet_8 : decode b_F_octet 8 = .ok (.ireturn, 1) := by decide +kernel
theorem d_F_aside_0 : decode b_F_aside 0 = .ok (.iload_n 1, 1) := by decide +kernel
theorem d_F_aside_1 : decode b_F_aside 1 = .ok (.ifCond .ge 5, 3) := by decide +kernel
theorem d_F_aside_4 : decode b_F_aside 4 = .ok (.iconst (-1), 1) := by decide +kernel
theorem d_F_aside_5 : decode b_F_aside 5 = .ok (.ireturn, 1) := by decide +kernel
theorem d_F_aside_6 : decode b_F_aside 6 = .ok (.iconst 0, 1) := by decide +kernel
theorem d_F_aside_7 : decode b_F_aside 7 = .ok (.istore_n 2, 1) := by decide +kernel
theorem d_F_aside_8 : decode b_F_aside 8 = .ok (.iconst 0, 1) := by decide +kernel
theorem d_F_aside_9 : decode b_F_aside 9 = .ok (.istore_n 3, 1) := by decide +kernel
theorem d_F_aside_10 : decode b_F_aside 10 = .ok (.iload_n 3, 1) := by decide +kernel
theorem d_F_aside_11 : decode b_F_aside 11 = .ok (.aload_n 0, 1) := by decide +kernel
theorem d_F_aside_12 : decode b_F_aside 12 = .ok (.getfield 15, 3) := by decide +kernel
theorem d_F_aside_15 : decode b_F_aside 15 = .ok (.if_icmp .ge 42, 3) := by decide +kernel
theorem d_F_aside_18 : decode b_F_aside 18 = .ok (.aload_n 0, 1) := by decide +kernel
theorem d_F_aside_19 : decode b_F_aside 19 = .ok (.getfield 11, 3) := by decide +kernel
theorem d_F_aside_22 : decode b_F_aside 22 = .ok (.iload_n 3, 1) := by decide +kernel
theorem d_F_aside_23 : decode b_F_aside 23 = .ok (.aaload, 1) := by decide +kernel
theorem d_F_aside_24 : decode b_F_aside 24 = .ok (.astore 4, 2) := by decide +kernel
theorem d_F_aside_26 : decode b_F_aside 26 = .ok (.aload 4, 2) := by decide +kernel
theorem d_F_aside_28 : decode b_F_aside 28 = .ok (.ifnull 23, 3) := by decide +kernel
theorem d_F_aside_31 : decode b_F_aside 31 = .ok (.aload 4, 2) := by decide +kernel
theorem d_F_aside_33 : decode b_F_aside 33 = .ok (.invokevirtual 170, 3) := by decide +kernel
theorem d_F_aside_36 : decode b_F_aside 36 = .ok (.ifCond .eq 15, 3) := by decide +kernel
theorem d_F_aside_39 : decode b_F_aside 39 = .ok (.iload_n 2, 1) := by decide +kernel
theorem d_F_aside_40 : decode b_F_aside 40 = .ok (.iload_n 1, 1) := by decide +kernel
theorem d_F_aside_41 : decode b_F_aside 41 = .ok (.if_icmp .ne 7, 3) := by decide +kernel
theorem d_F_aside_44 : decode b_F_aside 44 = .ok (.iload_n 3, 1) := by decide +kernel
theorem d_F_aside_45 : decode b_F_aside 45 = .ok (.iconst 1, 1) := by decide +kernel
theorem d_F_aside_46 : decode b_F_aside 46 = .ok (.iadd, 1) := by decide +kernel
theorem d_F_aside_47 : decode b_F_aside 47 = .ok (.ireturn, 1) := by decide +kernel
theorem d_F_aside_48 : decode b_F_aside 48 = .ok (.iinc 2 1, 3) := by decide +kernel
theorem d_F_aside_51 : decode b_F_aside 51 = .ok (.iinc 3 1, 3) := by decide +kernel
theorem d_F_aside_54 : decode b_F_aside 54 = .ok (.goto (-44), 3) := by decide +kernel
theorem d_F_aside_57 : decode b_F_aside 57 = .ok (.iconst (-1), 1) := by decide +kernel
theorem d_F_aside_58 : decode b_F_aside 58 = .ok (.ireturn, 1) := by decide +kernel
theorem d_F_within_0 : decode b_F_within 0 = .ok (.iload_n 0, 1) := by decide +kernel
theorem d_F_within_1 : decode b_F_within 1 = .ok (.iload_n 1, 1) := by decide +kernel
theorem d_F_within_2 : decode b_F_within 2 = .ok (.if_icmp .lt 12, 3) := by decide +kernel
theorem d_F_within_5 : decode b_F_within 5 = .ok (.iload_n 0, 1) := by decide +kernel
theorem d_F_within_6 : decode b_F_within 6 = .ok (.iload_n 2, 1) := by decide +kernel
theorem d_F_within_7 : decode b_F_within 7 = .ok (.if_icmp .gt 7, 3) := by decide +kernel
theorem d_F_within_10 : decode b_F_within 10 = .ok (.iconst 1, 1) := by decide +kernel
theorem d_F_within_11 : decode b_F_within 11 = .ok (.goto 4, 3) := by decide +kernel
theorem d_F_within_14 : decode b_F_within 14 = .ok (.iconst 0, 1) := by decide +kernel
theorem d_F_within_15 : decode b_F_within 15 = .ok (.ireturn, 1) := by decide +kernel
theorem d_F_find_0 : decode b_F_find 0 = .ok (.iload_n 1, 1) := by decide +kernel
theorem d_F_find_1 : decode b_F_find 1 = .ok (.iconst 1, 1) := by decide +kernel
theorem d_F_find_2 : decode b_F_find 2 = .ok (.aload_n 0, 1) := by decide +kernel
theorem d_F_find_3 : decode b_F_find 3 = .ok (.getfield 15, 3) := by decide +kernel
theorem d_F_find_6 : decode b_F_find 6 = .ok (.invokestatic 46, 3) := by decide +kernel
theorem d_F_find_9 : decode b_F_find 9 = .ok (.ifCond .ne 5, 3) := by decide +kernel
theorem d_F_find_12 : decode b_F_find 12 = .ok (.aconst_null, 1) := by decide +kernel
theorem d_F_find_13 : decode b_F_find 13 = .ok (.areturn, 1) := by decide +kernel
theorem d_F_find_14 : decode b_F_find 14 = .ok (.aload_n 0, 1) := by decide +kernel
theorem d_F_find_15 : decode b_F_find 15 = .ok (.getfield 11, 3) := by decide +kernel
theorem d_F_find_18 : decode b_F_find 18 = .ok (.iload_n 1, 1) := by decide +kernel
theorem d_F_find_19 : decode b_F_find 19 = .ok (.iconst 1, 1) := by decide +kernel
theorem d_F_find_20 : decode b_F_find 20 = .ok (.isub, 1) := by decide +kernel
theorem d_F_find_21 : decode b_F_find 21 = .ok (.aaload, 1) := by decide +kernel
theorem d_F_find_22 : decode b_F_find 22 = .ok (.areturn, 1) := by decide +kernel
theorem d_F_turned_0 : decode b_F_turned 0 = .ok (.iload_n 0, 1) := by decide +kernel
theorem d_F_turned_1 : decode b_F_turned 1 = .ok (.istore_n 3, 1) := by decide +kernel
theorem d_F_turned_2 : decode b_F_turned 2 = .ok (.iload_n 3, 1) := by decide +kernel
theorem d_F_turned_3 : decode b_F_turned 3 = .ok (.iconst 3, 1) := by decide +kernel
theorem d_F_turned_4 : decode b_F_turned 4 = .ok (.if_icmp .ge 29, 3) := by decide +kernel
theorem d_F_turned_7 : decode b_F_turned 7 = .ok (.iload_n 1, 1) := by decide +kernel
theorem d_F_turned_8 : decode b_F_turned 8 = .ok (.getstatic 51, 3) := by decide +kernel
theorem d_F_turned_11 : decode b_F_turned 11 = .ok (.iload_n 3, 1) := by decide +kernel
theorem d_F_turned_12 : decode b_F_turned 12 = .ok (.iaload, 1) := by decide +kernel
theorem d_F_turned_13 : decode b_F_turned 13 = .ok (.if_icmp .gt 14, 3) := by decide +kernel
theorem d_F_turned_16 : decode b_F_turned 16 = .ok (.iload_n 2, 1) := by decide +kernel
theorem d_F_turned_17 : decode b_F_turned 17 = .ok (.getstatic 54, 3) := by decide +kernel
theorem d_F_turned_20 : decode b_F_turned 20 = .ok (.iload_n 3, 1) := by decide +kernel
theorem d_F_turned_21 : decode b_F_turned 21 = .ok (.iaload, 1) := by decide +kernel
theorem d_F_turned_22 : decode b_F_turned 22 = .ok (.if_icmp .gt 5, 3) := by decide +kernel
theorem d_F_turned_25 : decode b_F_turned 25 = .ok (.iload_n 3, 1) := by decide +kernel
theorem d_F_turned_26 : decode b_F_turned 26 = .ok (.ireturn, 1) := by decide +kernel
theorem d_F_turned_27 : decode b_F_turned 27 = .ok (.iinc 3 1, 3) := by decide +kernel
theorem d_F_turned_30 : decode b_F_turned 30 = .ok (.goto (-28), 3) := by decide +kernel
theorem d_F_turned_33 : decode b_F_turned 33 = .ok (.iconst 3, 1) := by decide +kernel
theorem d_F_turned_34 : decode b_F_turned 34 = .ok (.ireturn, 1) := by decide +kernel
theorem d_F_mustWait_0 : decode b_F_mustWait 0 = .ok (.iload_n 1, 1) := by decide +kernel
theorem d_F_mustWait_1 : decode b_F_mustWait 1 = .ok (.iconst 1, 1) := by decide +kernel
theorem d_F_mustWait_2 : decode b_F_mustWait 2 = .ok (.bipush 30, 2) := by decide +kernel
theorem d_F_mustWait_4 : decode b_F_mustWait 4 = .ok (.invokestatic 46, 3) := by decide +kernel
theorem d_F_mustWait_7 : decode b_F_mustWait 7 = .ok (.ifCond .eq 12, 3) := by decide +kernel
theorem d_F_mustWait_10 : decode b_F_mustWait 10 = .ok (.aload_n 0, 1) := by decide +kernel
theorem d_F_mustWait_11 : decode b_F_mustWait 11 = .ok (.getfield 32, 3) := by decide +kernel
theorem d_F_mustWait_14 : decode b_F_mustWait 14 = .ok (.iload_n 1, 1) := by decide +kernel
theorem d_F_mustWait_15 : decode b_F_mustWait 15 = .ok (.baload, 1) := by decide +kernel
theorem d_F_mustWait_16 : decode b_F_mustWait 16 = .ok (.ifCond .ne 5, 3) := by decide +kernel
theorem d_F_mustWait_19 : decode b_F_mustWait 19 = .ok (.iconst 0, 1) := by decide +kernel
theorem d_F_mustWait_20 : decode b_F_mustWait 20 = .ok (.ireturn, 1) := by decide +kernel
theorem d_F_mustWait_21 : decode b_F_mustWait 21 = .ok (.iconst 0, 1) := by decide +kernel
theorem d_F_mustWait_22 : decode b_F_mustWait 22 = .ok (.istore_n 2, 1) := by decide +kernel
theorem d_F_mustWait_23 : decode b_F_mustWait 23 = .ok (.iload_n 2, 1) := by decide +kernel
theorem d_F_mustWait_24 : decode b_F_mustWait 24 = .ok (.aload_n 0, 1) := by decide +kernel
theorem d_F_mustWait_25 : decode b_F_mustWait 25 = .ok (.getfield 15, 3) := by decide +kernel
theorem d_F_mustWait_28 : decode b_F_mustWait 28 = .ok (.if_icmp .ge 45, 3) := by decide +kernel
theorem d_F_mustWait_31 : decode b_F_mustWait 31 = .ok (.aload_n 0, 1) := by decide +kernel
theorem d_F_mustWait_32 : decode b_F_mustWait 32 = .ok (.getfield 11, 3) := by decide +kernel
theorem d_F_mustWait_35 : decode b_F_mustWait 35 = .ok (.iload_n 2, 1) := by decide +kernel
theorem d_F_mustWait_36 : decode b_F_mustWait 36 = .ok (.aaload, 1) := by decide +kernel
theorem d_F_mustWait_37 : decode b_F_mustWait 37 = .ok (.astore_n 3, 1) := by decide +kernel
theorem d_F_mustWait_38 : decode b_F_mustWait 38 = .ok (.aload_n 3, 1) := by decide +kernel
theorem d_F_mustWait_39 : decode b_F_mustWait 39 = .ok (.ifnull 28, 3) := by decide +kernel
theorem d_F_mustWait_42 : decode b_F_mustWait 42 = .ok (.aload_n 3, 1) := by decide +kernel
theorem d_F_mustWait_43 : decode b_F_mustWait 43 = .ok (.getfield 106, 3) := by decide +kernel
theorem d_F_mustWait_46 : decode b_F_mustWait 46 = .ok (.iload_n 1, 1) := by decide +kernel
theorem d_F_mustWait_47 : decode b_F_mustWait 47 = .ok (.if_icmp .ne 20, 3) := by decide +kernel
theorem d_F_mustWait_50 : decode b_F_mustWait 50 = .ok (.aload_n 3, 1) := by decide +kernel
theorem d_F_mustWait_51 : decode b_F_mustWait 51 = .ok (.getfield 103, 3) := by decide +kernel
theorem d_F_mustWait_54 : decode b_F_mustWait 54 = .ok (.iconst 4, 1) := by decide +kernel
theorem d_F_mustWait_55 : decode b_F_mustWait 55 = .ok (.if_icmp .eq 12, 3) := by decide +kernel
theorem d_F_mustWait_58 : decode b_F_mustWait 58 = .ok (.aload_n 3, 1) := by decide +kernel
theorem d_F_mustWait_59 : decode b_F_mustWait 59 = .ok (.invokevirtual 72, 3) := by decide +kernel
theorem d_F_mustWait_62 : decode b_F_mustWait 62 = .ok (.ifCond .ne 5, 3) := by decide +kernel
theorem d_F_mustWait_65 : decode b_F_mustWait 65 = .ok (.iconst 1, 1) := by decide +kernel
theorem d_F_mustWait_66 : decode b_F_mustWait 66 = .ok (.ireturn, 1) := by decide +kernel
theorem d_F_mustWait_67 : decode b_F_mustWait 67 = .ok (.iinc 2 1, 3) := by decide +kernel
theorem d_F_mustWait_70 : decode b_F_mustWait 70 = .ok (.goto (-47), 3) := by decide +kernel
theorem d_F_mustWait_73 : decode b_F_mustWait 73 = .ok (.iconst 0, 1) := by decide +kernel
theorem d_F_mustWait_74 : decode b_F_mustWait 74 = .ok (.ireturn, 1) := by decide +kernel
theorem d_F_mayBecome_0 : decode b_F_mayBecome 0 = .ok (.iload_n 0, 1) := by decide +kernel
theorem d_F_mayBecome_1 : decode b_F_mayBecome 1 = .ok (.tableswitch 67 0 4 #[35, 42, 50, 58, 58], 35) := by decide +kernel
theorem d_F_mayBecome_36 : decode b_F_mayBecome 36 = .ok (.iload_n 1, 1) := by decide +kernel
theorem d_F_mayBecome_37 : decode b_F_mayBecome 37 = .ok (.iconst 0, 1) := by decide +kernel
theorem d_F_mayBecome_38 : decode b_F_mayBecome 38 = .ok (.iconst 3, 1) := by decide +kernel
theorem d_F_mayBecome_39 : decode b_F_mayBecome 39 = .ok (.invokestatic 46, 3) := by decide +kernel
theorem d_F_mayBecome_42 : decode b_F_mayBecome 42 = .ok (.ireturn, 1) := by decide +kernel
theorem d_F_mayBecome_43 : decode b_F_mayBecome 43 = .ok (.iload_n 1, 1) := by decide +kernel
theorem d_F_mayBecome_44 : decode b_F_mayBecome 44 = .ok (.iconst 1, 1) := by decide +kernel
theorem d_F_mayBecome_45 : decode b_F_mayBecome 45 = .ok (.ldc 50, 2) := by decide +kernel
theorem d_F_mayBecome_47 : decode b_F_mayBecome 47 = .ok (.invokestatic 46, 3) := by decide +kernel
theorem d_F_mayBecome_50 : decode b_F_mayBecome 50 = .ok (.ireturn, 1) := by decide +kernel
theorem d_F_mayBecome_51 : decode b_F_mayBecome 51 = .ok (.iload_n 1, 1) := by decide +kernel
theorem d_F_mayBecome_52 : decode b_F_mayBecome 52 = .ok (.iconst 0, 1) := by decide +kernel
theorem d_F_mayBecome_53 : decode b_F_mayBecome 53 = .ok (.bipush 9, 2) := by decide +kernel
theorem d_F_mayBecome_55 : decode b_F_mayBecome 55 = .ok (.invokestatic 46, 3) := by decide +kernel
theorem d_F_mayBecome_58 : decode b_F_mayBecome 58 = .ok (.ireturn, 1) := by decide +kernel
theorem d_F_mayBecome_59 : decode b_F_mayBecome 59 = .ok (.iload_n 1, 1) := by decide +kernel
theorem d_F_mayBecome_60 : decode b_F_mayBecome 60 = .ok (.iconst 0, 1) := by decide +kernel
theorem d_F_mayBecome_61 : decode b_F_mayBecome 61 = .ok (.sipush 9999, 3) := by decide +kernel
theorem d_F_mayBecome_64 : decode b_F_mayBecome 64 = .ok (.invokestatic 46, 3) := by decide +kernel
theorem d_F_mayBecome_67 : decode b_F_mayBecome 67 = .ok (.ireturn, 1) := by decide +kernel
theorem d_F_mayBecome_68 : decode b_F_mayBecome 68 = .ok (.iconst 0, 1) := by decide +kernel
theorem d_F_mayBecome_69 : decode b_F_mayBecome 69 = .ok (.ireturn, 1) := by decide +kernel
theorem d_J_bitCount_0 : decode b_J_bitCount 0 = .ok (.iload_n 0, 1) := by decide +kernel
theorem d_J_bitCount_1 : decode b_J_bitCount 1 = .ok (.iload_n 0, 1) := by decide +kernel
theorem d_J_bitCount_2 : decode b_J_bitCount 2 = .ok (.iconst 1, 1) := by decide +kernel
theorem d_J_bitCount_3 : decode b_J_bitCount 3 = .ok (.iushr, 1) := by decide +kernel
theorem d_J_bitCount_4 : decode b_J_bitCount 4 = .ok (.ldc_w 265, 3) := by decide +kernel
theorem d_J_bitCount_7 : decode b_J_bitCount 7 = .ok (.iand, 1) := by decide +kernel
theorem d_J_bitCount_8 : decode b_J_bitCount 8 = .ok (.isub, 1) := by decide +kernel
theorem d_J_bitCount_9 : decode b_J_bitCount 9 = .ok (.istore_n 0, 1) := by decide +kernel
theorem d_J_bitCount_10 : decode b_J_bitCount 10 = .ok (.iload_n 0, 1) := by decide +kernel
theorem d_J_bitCount_11 : decode b_J_bitCount 11 = .ok (.ldc_w 266, 3) := by decide +kernel
theorem d_J_bitCount_14 : decode b_J_bitCount 14 = .ok (.iand, 1) := by decide +kernel
theorem d_J_bitCount_15 : decode b_J_bitCount 15 = .ok (.iload_n 0, 1) := by decide +kernel
theorem d_J_bitCount_16 : decode b_J_bitCount 16 = .ok (.iconst 2, 1) := by decide +kernel
theorem d_J_bitCount_17 : decode b_J_bitCount 17 = .ok (.iushr, 1) := by decide +kernel
theorem d_J_bitCount_18 : decode b_J_bitCount 18 = .ok (.ldc_w 266, 3) := by decide +kernel
theorem d_J_bitCount_21 : decode b_J_bitCount 21 = .ok (.iand, 1) := by decide +kernel
theorem d_J_bitCount_22 : decode b_J_bitCount 22 = .ok (.iadd, 1) := by decide +kernel
theorem d_J_bitCount_23 : decode b_J_bitCount 23 = .ok (.istore_n 0, 1) := by decide +kernel
theorem d_J_bitCount_24 : decode b_J_bitCount 24 = .ok (.iload_n 0, 1) := by decide +kernel
theorem d_J_bitCount_25 : decode b_J_bitCount 25 = .ok (.iload_n 0, 1) := by decide +kernel
theorem d_J_bitCount_26 : decode b_J_bitCount 26 = .ok (.iconst 4, 1) := by decide +kernel
theorem d_J_bitCount_27 : decode b_J_bitCount 27 = .ok (.iushr, 1) := by decide +kernel
theorem d_J_bitCount_28 : decode b_J_bitCount 28 = .ok (.iadd, 1) := by decide +kernel
theorem d_J_bitCount_29 : decode b_J_bitCount 29 = .ok (.ldc_w 267, 3) := by decide +kernel
theorem d_J_bitCount_32 : decode b_J_bitCount 32 = .ok (.iand, 1) := by decide +kernel
theorem d_J_bitCount_33 : decode b_J_bitCount 33 = .ok (.istore_n 0, 1) := by decide +kernel
theorem d_J_bitCount_34 : decode b_J_bitCount 34 = .ok (.iload_n 0, 1) := by decide +kernel
theorem d_J_bitCount_35 : decode b_J_bitCount 35 = .ok (.iload_n 0, 1) := by decide +kernel
theorem d_J_bitCount_36 : decode b_J_bitCount 36 = .ok (.bipush 8, 2) := by decide +kernel
theorem d_J_bitCount_38 : decode b_J_bitCount 38 = .ok (.iushr, 1) := by decide +kernel
theorem d_J_bitCount_39 : decode b_J_bitCount 39 = .ok (.iadd, 1) := by decide +kernel
theorem d_J_bitCount_40 : decode b_J_bitCount 40 = .ok (.istore_n 0, 1) := by decide +kernel
theorem d_J_bitCount_41 : decode b_J_bitCount 41 = .ok (.iload_n 0, 1) := by decide +kernel
theorem d_J_bitCount_42 : decode b_J_bitCount 42 = .ok (.iload_n 0, 1) := by decide +kernel
theorem d_J_bitCount_43 : decode b_J_bitCount 43 = .ok (.bipush 16, 2) := by decide +kernel
theorem d_J_bitCount_45 : decode b_J_bitCount 45 = .ok (.iushr, 1) := by decide +kernel
theorem d_J_bitCount_46 : decode b_J_bitCount 46 = .ok (.iadd, 1) := by decide +kernel
theorem d_J_bitCount_47 : decode b_J_bitCount 47 = .ok (.istore_n 0, 1) := by decide +kernel
theorem d_J_bitCount_48 : decode b_J_bitCount 48 = .ok (.iload_n 0, 1) := by decide +kernel
theorem d_J_bitCount_49 : decode b_J_bitCount 49 = .ok (.bipush 63, 2) := by decide +kernel
theorem d_J_bitCount_51 : decode b_J_bitCount 51 = .ok (.iand, 1) := by decide +kernel
theorem d_J_bitCount_52 : decode b_J_bitCount 52 = .ok (.ireturn, 1) := by decide +kernel
