theorem dX8_init_0 : decode cX8_init 0 = .ok (.aload_n 0, 1) := by decide +kernel
theorem dX8_init_1 : decode cX8_init 1 = .ok (.invokespecial 1, 3) := by decide +kernel
theorem dX8_init_4 : decode cX8_init 4 = .ok (.aload_n 0, 1) := by decide +kernel
theorem dX8_init_5 : decode cX8_init 5 = .ok (.new 7, 3) := by decide +kernel
theorem dX8_init_8 : decode cX8_init 8 = .ok (.dup, 1) := by decide +kernel
theorem dX8_init_9 : decode cX8_init 9 = .ok (.invokespecial 9, 3) := by decide +kernel
theorem dX8_init_12 : decode cX8_init 12 = .ok (.putfield 10, 3) := by decide +kernel
theorem dX8_init_15 : decode cX8_init 15 = .ok (.aload_n 0, 1) := by decide +kernel
theorem dX8_init_16 : decode cX8_init 16 = .ok (.new 16, 3) := by decide +kernel
theorem dX8_init_19 : decode cX8_init 19 = .ok (.dup, 1) := by decide +kernel
theorem dX8_init_20 : decode cX8_init 20 = .ok (.invokespecial 18, 3) := by decide +kernel
theorem dX8_init_23 : decode cX8_init 23 = .ok (.putfield 19, 3) := by decide +kernel
theorem dX8_init_26 : decode cX8_init 26 = .ok (.aload_n 0, 1) := by decide +kernel
theorem dX8_init_27 : decode cX8_init 27 = .ok (.new 7, 3) := by decide +kernel
theorem dX8_init_30 : decode cX8_init 30 = .ok (.dup, 1) := by decide +kernel
theorem dX8_init_31 : decode cX8_init 31 = .ok (.invokespecial 9, 3) := by decide +kernel
theorem dX8_init_34 : decode cX8_init 34 = .ok (.putfield 23, 3) := by decide +kernel
theorem dX8_init_37 : decode cX8_init 37 = .ok (.aload_n 0, 1) := by decide +kernel
theorem dX8_init_38 : decode cX8_init 38 = .ok (.new 16, 3) := by decide +kernel
theorem dX8_init_41 : decode cX8_init 41 = .ok (.dup, 1) := by decide +kernel
theorem dX8_init_42 : decode cX8_init 42 = .ok (.invokespecial 18, 3) := by decide +kernel
theorem dX8_init_45 : decode cX8_init 45 = .ok (.putfield 26, 3) := by decide +kernel
theorem dX8_init_48 : decode cX8_init 48 = .ok (.aload_n 0, 1) := by decide +kernel
theorem dX8_init_49 : decode cX8_init 49 = .ok (.new 29, 3) := by decide +kernel
theorem dX8_init_52 : decode cX8_init 52 = .ok (.dup, 1) := by decide +kernel
theorem dX8_init_53 : decode cX8_init 53 = .ok (.invokespecial 31, 3) := by decide +kernel
theorem dX8_init_56 : decode cX8_init 56 = .ok (.putfield 32, 3) := by decide +kernel
theorem dX8_init_59 : decode cX8_init 59 = .ok (.aload_n 0, 1) := by decide +kernel
theorem dX8_init_60 : decode cX8_init 60 = .ok (.new 36, 3) := by decide +kernel
theorem dX8_init_63 : decode cX8_init 63 = .ok (.dup, 1) := by decide +kernel
theorem dX8_init_64 : decode cX8_init 64 = .ok (.invokespecial 38, 3) := by decide +kernel
theorem dX8_init_67 : decode cX8_init 67 = .ok (.putfield 39, 3) := by decide +kernel
theorem dX8_init_70 : decode cX8_init 70 = .ok (.aload_n 0, 1) := by decide +kernel
theorem dX8_init_71 : decode cX8_init 71 = .ok (.new 43, 3) := by decide +kernel
theorem dX8_init_74 : decode cX8_init 74 = .ok (.dup, 1) := by decide +kernel
theorem dX8_init_75 : decode cX8_init 75 = .ok (.invokespecial 45, 3) := by decide +kernel
theorem dX8_init_78 : decode cX8_init 78 = .ok (.putfield 46, 3) := by decide +kernel
theorem dX8_init_81 : decode cX8_init 81 = .ok (.aload_n 0, 1) := by decide +kernel
theorem dX8_init_82 : decode cX8_init 82 = .ok (.new 50, 3) := by decide +kernel
theorem dX8_init_85 : decode cX8_init 85 = .ok (.dup, 1) := by decide +kernel
theorem dX8_init_86 : decode cX8_init 86 = .ok (.invokespecial 52, 3) := by decide +kernel
theorem dX8_init_89 : decode cX8_init 89 = .ok (.putfield 53, 3) := by decide +kernel
theorem dX8_init_92 : decode cX8_init 92 = .ok (.aload_n 0, 1) := by decide +kernel
theorem dX8_init_93 : decode cX8_init 93 = .ok (.iconst 4, 1) := by decide +kernel
theorem dX8_init_94 : decode cX8_init 94 = .ok (.anewarray 57, 3) := by decide +kernel
theorem dX8_init_97 : decode cX8_init 97 = .ok (.putfield 59, 3) := by decide +kernel
theorem dX8_init_100 : decode cX8_init 100 = .ok (.iconst 0, 1) := by decide +kernel
theorem dX8_init_101 : decode cX8_init 101 = .ok (.istore_n 1, 1) := by decide +kernel
theorem dX8_init_102 : decode cX8_init 102 = .ok (.iload_n 1, 1) := by decide +kernel
theorem dX8_init_103 : decode cX8_init 103 = .ok (.iconst 4, 1) := by decide +kernel
theorem dX8_init_104 : decode cX8_init 104 = .ok (.if_icmp .ge 22, 3) := by decide +kernel
theorem dX8_init_107 : decode cX8_init 107 = .ok (.aload_n 0, 1) := by decide +kernel
theorem dX8_init_108 : decode cX8_init 108 = .ok (.getfield 59, 3) := by decide +kernel
theorem dX8_init_111 : decode cX8_init 111 = .ok (.iload_n 1, 1) := by decide +kernel
theorem dX8_init_112 : decode cX8_init 112 = .ok (.new 57, 3) := by decide +kernel
theorem dX8_init_115 : decode cX8_init 115 = .ok (.dup, 1) := by decide +kernel
theorem dX8_init_116 : decode cX8_init 116 = .ok (.invokespecial 63, 3) := by decide +kernel
theorem dX8_init_119 : decode cX8_init 119 = .ok (.aastore, 1) := by decide +kernel
theorem dX8_init_120 : decode cX8_init 120 = .ok (.iinc 1 1, 3) := by decide +kernel
theorem dX8_init_123 : decode cX8_init 123 = .ok (.goto (-21), 3) := by decide +kernel
theorem dX8_init_126 : decode cX8_init 126 = .ok (.return_, 1) := by decide +kernel
theorem dX8_man_0 : decode cX8_man 0 = .ok (.iload_n 1, 1) := by decide +kernel
theorem dX8_man_1 : decode cX8_man 1 = .ok (.iconst 0, 1) := by decide +kernel
theorem dX8_man_2 : decode cX8_man 2 = .ok (.iconst 4, 1) := by decide +kernel
theorem dX8_man_3 : decode cX8_man 3 = .ok (.invokestatic 64, 3) := by decide +kernel
theorem dX8_man_6 : decode cX8_man 6 = .ok (.ifCond .eq 20, 3) := by decide +kernel
theorem dX8_man_9 : decode cX8_man 9 = .ok (.iload_n 2, 1) := by decide +kernel
theorem dX8_man_10 : decode cX8_man 10 = .ok (.iconst 0, 1) := by decide +kernel
theorem dX8_man_11 : decode cX8_man 11 = .ok (.bipush 9, 2) := by decide +kernel
theorem dX8_man_13 : decode cX8_man 13 = .ok (.invokestatic 64, 3) := by decide +kernel
theorem dX8_man_16 : decode cX8_man 16 = .ok (.ifCond .eq 10, 3) := by decide +kernel
theorem dX8_man_19 : decode cX8_man 19 = .ok (.iload_n 3, 1) := by decide +kernel
theorem dX8_man_20 : decode cX8_man 20 = .ok (.invokestatic 68, 3) := by decide +kernel
theorem dX8_man_23 : decode cX8_man 23 = .ok (.ifCond .ne 5, 3) := by decide +kernel
theorem dX8_man_26 : decode cX8_man 26 = .ok (.iconst (-1), 1) := by decide +kernel
theorem dX8_man_27 : decode cX8_man 27 = .ok (.ireturn, 1) := by decide +kernel
theorem dX8_man_28 : decode cX8_man 28 = .ok (.aload_n 0, 1) := by decide +kernel
theorem dX8_man_29 : decode cX8_man 29 = .ok (.getfield 10, 3) := by decide +kernel
theorem dX8_man_32 : decode cX8_man 32 = .ok (.getfield 72, 3) := by decide +kernel
theorem dX8_man_35 : decode cX8_man 35 = .ok (.bipush 6, 2) := by decide +kernel
theorem dX8_man_37 : decode cX8_man 37 = .ok (.if_icmp .lt 6, 3) := by decide +kernel
theorem dX8_man_40 : decode cX8_man 40 = .ok (.bipush (-3), 2) := by decide +kernel
theorem dX8_man_42 : decode cX8_man 42 = .ok (.ireturn, 1) := by decide +kernel
theorem dX8_man_43 : decode cX8_man 43 = .ok (.aload_n 0, 1) := by decide +kernel
theorem dX8_man_44 : decode cX8_man 44 = .ok (.getfield 10, 3) := by decide +kernel
theorem dX8_man_47 : decode cX8_man 47 = .ok (.iload_n 3, 1) := by decide +kernel
theorem dX8_man_48 : decode cX8_man 48 = .ok (.invokevirtual 76, 3) := by decide +kernel
theorem dX8_man_51 : decode cX8_man 51 = .ok (.bipush (-4), 2) := by decide +kernel
theorem dX8_man_53 : decode cX8_man 53 = .ok (.if_icmp .eq 6, 3) := by decide +kernel
theorem dX8_man_56 : decode cX8_man 56 = .ok (.bipush (-2), 2) := by decide +kernel
theorem dX8_man_58 : decode cX8_man 58 = .ok (.ireturn, 1) := by decide +kernel
theorem dX8_man_59 : decode cX8_man 59 = .ok (.aload_n 0, 1) := by decide +kernel
theorem dX8_man_60 : decode cX8_man 60 = .ok (.getfield 19, 3) := by decide +kernel
theorem dX8_man_63 : decode cX8_man 63 = .ok (.invokevirtual 80, 3) := by decide +kernel
theorem dX8_man_66 : decode cX8_man 66 = .ok (.aload_n 0, 1) := by decide +kernel
theorem dX8_man_67 : decode cX8_man 67 = .ok (.getfield 10, 3) := by decide +kernel
theorem dX8_man_70 : decode cX8_man 70 = .ok (.iload_n 1, 1) := by decide +kernel
theorem dX8_man_71 : decode cX8_man 71 = .ok (.iload_n 2, 1) := by decide +kernel
theorem dX8_man_72 : decode cX8_man 72 = .ok (.iload_n 3, 1) := by decide +kernel
theorem dX8_man_73 : decode cX8_man 73 = .ok (.invokevirtual 83, 3) := by decide +kernel
theorem dX8_man_76 : decode cX8_man 76 = .ok (.aload_n 0, 1) := by decide +kernel
theorem dX8_man_77 : decode cX8_man 77 = .ok (.getfield 10, 3) := by decide +kernel
theorem dX8_man_80 : decode cX8_man 80 = .ok (.getfield 72, 3) := by decide +kernel
theorem dX8_man_83 : decode cX8_man 83 = .ok (.iconst 1, 1) := by decide +kernel
theorem dX8_man_84 : decode cX8_man 84 = .ok (.isub, 1) := by decide +kernel
theorem dX8_man_85 : decode cX8_man 85 = .ok (.ireturn, 1) := by decide +kernel
theorem dX8_rule_0 : decode cX8_rule 0 = .ok (.iload_n 1, 1) := by decide +kernel
theorem dX8_rule_1 : decode cX8_rule 1 = .ok (.iconst 2, 1) := by decide +kernel
theorem dX8_rule_2 : decode cX8_rule 2 = .ok (.if_icmp .ne 8, 3) := by decide +kernel
theorem dX8_rule_5 : decode cX8_rule 5 = .ok (.bipush 12, 2) := by decide +kernel
theorem dX8_rule_7 : decode cX8_rule 7 = .ok (.goto 5, 3) := by decide +kernel
theorem dX8_rule_10 : decode cX8_rule 10 = .ok (.bipush 11, 2) := by decide +kernel
theorem dX8_rule_12 : decode cX8_rule 12 = .ok (.istore_n 3, 1) := by decide +kernel
theorem dX8_rule_13 : decode cX8_rule 13 = .ok (.iload_n 1, 1) := by decide +kernel
theorem dX8_rule_14 : decode cX8_rule 14 = .ok (.iconst 0, 1) := by decide +kernel
theorem dX8_rule_15 : decode cX8_rule 15 = .ok (.iconst 2, 1) := by decide +kernel
theorem dX8_rule_16 : decode cX8_rule 16 = .ok (.invokestatic 64, 3) := by decide +kernel
theorem dX8_rule_19 : decode cX8_rule 19 = .ok (.ifCond .eq 12, 3) := by decide +kernel
theorem dX8_rule_22 : decode cX8_rule 22 = .ok (.iload_n 2, 1) := by decide +kernel
theorem dX8_rule_23 : decode cX8_rule 23 = .ok (.iconst 0, 1) := by decide +kernel
theorem dX8_rule_24 : decode cX8_rule 24 = .ok (.iload_n 3, 1) := by decide +kernel
theorem dX8_rule_25 : decode cX8_rule 25 = .ok (.invokestatic 64, 3) := by decide +kernel
theorem dX8_rule_28 : decode cX8_rule 28 = .ok (.ifCond .ne 5, 3) := by decide +kernel
theorem dX8_rule_31 : decode cX8_rule 31 = .ok (.iconst (-1), 1) := by decide +kernel
theorem dX8_rule_32 : decode cX8_rule 32 = .ok (.ireturn, 1) := by decide +kernel
theorem dX8_rule_33 : decode cX8_rule 33 = .ok (.aload_n 0, 1) := by decide +kernel
theorem dX8_rule_34 : decode cX8_rule 34 = .ok (.iload_n 1, 1) := by decide +kernel
theorem dX8_rule_35 : decode cX8_rule 35 = .ok (.invokevirtual 87, 3) := by decide +kernel
theorem dX8_rule_38 : decode cX8_rule 38 = .ok (.istore 4, 2) := by decide +kernel
theorem dX8_rule_40 : decode cX8_rule 40 = .ok (.iload_n 1, 1) := by decide +kernel
theorem dX8_rule_41 : decode cX8_rule 41 = .ok (.ifCond .ne 14, 3) := by decide +kernel
theorem dX8_rule_44 : decode cX8_rule 44 = .ok (.aload_n 0, 1) := by decide +kernel
theorem dX8_rule_45 : decode cX8_rule 45 = .ok (.getfield 10, 3) := by decide +kernel
theorem dX8_rule_48 : decode cX8_rule 48 = .ok (.iload_n 2, 1) := by decide +kernel
theorem dX8_rule_49 : decode cX8_rule 49 = .ok (.putfield 90, 3) := by decide +kernel
theorem dX8_rule_52 : decode cX8_rule 52 = .ok (.goto 27, 3) := by decide +kernel
theorem dX8_rule_55 : decode cX8_rule 55 = .ok (.iload_n 1, 1) := by decide +kernel
theorem dX8_rule_56 : decode cX8_rule 56 = .ok (.iconst 1, 1) := by decide +kernel
theorem dX8_rule_57 : decode cX8_rule 57 = .ok (.if_icmp .ne 14, 3) := by decide +kernel
theorem dX8_rule_60 : decode cX8_rule 60 = .ok (.aload_n 0, 1) := by decide +kernel
theorem dX8_rule_61 : decode cX8_rule 61 = .ok (.getfield 10, 3) := by decide +kernel
theorem dX8_rule_64 : decode cX8_rule 64 = .ok (.iload_n 2, 1) := by decide +kernel
theorem dX8_rule_65 : decode cX8_rule 65 = .ok (.putfield 93, 3) := by decide +kernel
theorem dX8_rule_68 : decode cX8_rule 68 = .ok (.goto 11, 3) := by decide +kernel
theorem dX8_rule_71 : decode cX8_rule 71 = .ok (.aload_n 0, 1) := by decide +kernel
theorem dX8_rule_72 : decode cX8_rule 72 = .ok (.getfield 10, 3) := by decide +kernel
theorem dX8_rule_75 : decode cX8_rule 75 = .ok (.iload_n 2, 1) := by decide +kernel
theorem dX8_rule_76 : decode cX8_rule 76 = .ok (.putfield 96, 3) := by decide +kernel
theorem dX8_rule_79 : decode cX8_rule 79 = .ok (.iload 4, 2) := by decide +kernel
theorem dX8_rule_81 : decode cX8_rule 81 = .ok (.ireturn, 1) := by decide +kernel
theorem dX8_of_0 : decode cX8_of 0 = .ok (.aload_n 0, 1) := by decide +kernel
theorem dX8_of_1 : decode cX8_of 1 = .ok (.iload_n 1, 1) := by decide +kernel
theorem dX8_of_2 : decode cX8_of 2 = .ok (.invokevirtual 99, 3) := by decide +kernel
theorem dX8_of_5 : decode cX8_of 5 = .ok (.ifCond .eq 12, 3) := by decide +kernel
theorem dX8_of_8 : decode cX8_of 8 = .ok (.iload_n 2, 1) := by decide +kernel
theorem dX8_of_9 : decode cX8_of 9 = .ok (.iconst 0, 1) := by decide +kernel
theorem dX8_of_10 : decode cX8_of 10 = .ok (.iconst 4, 1) := by decide +kernel
theorem dX8_of_11 : decode cX8_of 11 = .ok (.invokestatic 64, 3) := by decide +kernel
theorem dX8_of_14 : decode cX8_of 14 = .ok (.ifCond .ne 5, 3) := by decide +kernel
theorem dX8_of_17 : decode cX8_of 17 = .ok (.iconst (-1), 1) := by decide +kernel
theorem dX8_of_18 : decode cX8_of 18 = .ok (.ireturn, 1) := by decide +kernel
theorem dX8_of_19 : decode cX8_of 19 = .ok (.iload_n 2, 1) := by decide +kernel
theorem dX8_of_20 : decode cX8_of 20 = .ok (.tableswitch 92 0 3 #[32, 42, 52, 61], 32) := by decide +kernel
theorem dX8_of_52 : decode cX8_of 52 = .ok (.aload_n 0, 1) := by decide +kernel
theorem dX8_of_53 : decode cX8_of 53 = .ok (.getfield 10, 3) := by decide +kernel
theorem dX8_of_56 : decode cX8_of 56 = .ok (.getfield 102, 3) := by decide +kernel
theorem dX8_of_59 : decode cX8_of 59 = .ok (.iload_n 1, 1) := by decide +kernel
theorem dX8_of_60 : decode cX8_of 60 = .ok (.iaload, 1) := by decide +kernel
theorem dX8_of_61 : decode cX8_of 61 = .ok (.ireturn, 1) := by decide +kernel
theorem dX8_of_62 : decode cX8_of 62 = .ok (.aload_n 0, 1) := by decide +kernel
theorem dX8_of_63 : decode cX8_of 63 = .ok (.getfield 10, 3) := by decide +kernel
theorem dX8_of_66 : decode cX8_of 66 = .ok (.getfield 106, 3) := by decide +kernel
theorem dX8_of_69 : decode cX8_of 69 = .ok (.iload_n 1, 1) := by decide +kernel
theorem dX8_of_70 : decode cX8_of 70 = .ok (.iaload, 1) := by decide +kernel
theorem dX8_of_71 : decode cX8_of 71 = .ok (.ireturn, 1) := by decide +kernel
theorem dX8_of_72 : decode cX8_of 72 = .ok (.aload_n 0, 1) := by decide +kernel
theorem dX8_of_73 : decode cX8_of 73 = .ok (.getfield 10, 3) := by decide +kernel
theorem dX8_of_76 : decode cX8_of 76 = .ok (.iload_n 1, 1) := by decide +kernel
theorem dX8_of_77 : decode cX8_of 77 = .ok (.invokestatic 109, 3) := by decide +kernel
theorem dX8_of_80 : decode cX8_of 80 = .ok (.ireturn, 1) := by decide +kernel
theorem dX8_of_81 : decode cX8_of 81 = .ok (.aload_n 0, 1) := by decide +kernel
theorem dX8_of_82 : decode cX8_of 82 = .ok (.getfield 10, 3) := by decide +kernel
theorem dX8_of_85 : decode cX8_of 85 = .ok (.iload_n 1, 1) := by decide +kernel
theorem dX8_of_86 : decode cX8_of 86 = .ok (.invokevirtual 113, 3) := by decide +kernel
theorem dX8_of_89 : decode cX8_of 89 = .ok (.ifCond .eq 21, 3) := by decide +kernel
theorem dX8_of_92 : decode cX8_of 92 = .ok (.aload_n 0, 1) := by decide +kernel
theorem dX8_of_93 : decode cX8_of 93 = .ok (.getfield 10, 3) := by decide +kernel
theorem dX8_of_96 : decode cX8_of 96 = .ok (.iload_n 1, 1) := by decide +kernel
theorem dX8_of_97 : decode cX8_of 97 = .ok (.aload_n 0, 1) := by decide +kernel
theorem dX8_of_98 : decode cX8_of 98 = .ok (.getfield 10, 3) := by decide +kernel
theorem dX8_of_101 : decode cX8_of 101 = .ok (.invokevirtual 116, 3) := by decide +kernel
theorem dX8_of_104 : decode cX8_of 104 = .ok (.invokevirtual 120, 3) := by decide +kernel
theorem dX8_of_107 : decode cX8_of 107 = .ok (.goto 4, 3) := by decide +kernel
theorem dX8_of_110 : decode cX8_of 110 = .ok (.iconst 0, 1) := by decide +kernel
theorem dX8_of_111 : decode cX8_of 111 = .ok (.ireturn, 1) := by decide +kernel
theorem dX8_of_112 : decode cX8_of 112 = .ok (.aload_n 0, 1) := by decide +kernel
theorem dX8_of_113 : decode cX8_of 113 = .ok (.getfield 10, 3) := by decide +kernel
theorem dX8_of_116 : decode cX8_of 116 = .ok (.iload_n 1, 1) := by decide +kernel
theorem dX8_of_117 : decode cX8_of 117 = .ok (.invokevirtual 124, 3) := by decide +kernel
theorem dX8_of_120 : decode cX8_of 120 = .ok (.ireturn, 1) := by decide +kernel
theorem dX8_at_0 : decode cX8_at 0 = .ok (.iload_n 1, 1) := by decide +kernel
theorem dX8_at_1 : decode cX8_at 1 = .ok (.invokestatic 68, 3) := by decide +kernel
theorem dX8_at_4 : decode cX8_at 4 = .ok (.ifCond .eq 12, 3) := by decide +kernel
theorem dX8_at_7 : decode cX8_at 7 = .ok (.iload_n 2, 1) := by decide +kernel
theorem dX8_at_8 : decode cX8_at 8 = .ok (.iconst 0, 1) := by decide +kernel
theorem dX8_at_9 : decode cX8_at 9 = .ok (.iconst 1, 1) := by decide +kernel
theorem dX8_at_10 : decode cX8_at 10 = .ok (.invokestatic 64, 3) := by decide +kernel
theorem dX8_at_13 : decode cX8_at 13 = .ok (.ifCond .ne 5, 3) := by decide +kernel
theorem dX8_at_16 : decode cX8_at 16 = .ok (.iconst (-1), 1) := by decide +kernel
theorem dX8_at_17 : decode cX8_at 17 = .ok (.ireturn, 1) := by decide +kernel
theorem dX8_at_18 : decode cX8_at 18 = .ok (.iload_n 2, 1) := by decide +kernel
theorem dX8_at_19 : decode cX8_at 19 = .ok (.ifCond .ne 14, 3) := by decide +kernel
theorem dX8_at_22 : decode cX8_at 22 = .ok (.aload_n 0, 1) := by decide +kernel
theorem dX8_at_23 : decode cX8_at 23 = .ok (.getfield 10, 3) := by decide +kernel
theorem dX8_at_26 : decode cX8_at 26 = .ok (.iload_n 1, 1) := by decide +kernel
theorem dX8_at_27 : decode cX8_at 27 = .ok (.invokevirtual 76, 3) := by decide +kernel
theorem dX8_at_30 : decode cX8_at 30 = .ok (.goto 19, 3) := by decide +kernel
theorem dX8_at_33 : decode cX8_at 33 = .ok (.aload_n 0, 1) := by decide +kernel
theorem dX8_at_34 : decode cX8_at 34 = .ok (.getfield 10, 3) := by decide +kernel
theorem dX8_at_37 : decode cX8_at 37 = .ok (.iload_n 1, 1) := by decide +kernel
theorem dX8_at_38 : decode cX8_at 38 = .ok (.aload_n 0, 1) := by decide +kernel
theorem dX8_at_39 : decode cX8_at 39 = .ok (.getfield 10, 3) := by decide +kernel
theorem dX8_at_42 : decode cX8_at 42 = .ok (.iconst 0, 1) := by decide +kernel
theorem dX8_at_43 : decode cX8_at 43 = .ok (.invokevirtual 127, 3) := by decide +kernel
theorem dX8_at_46 : decode cX8_at 46 = .ok (.invokevirtual 130, 3) := by decide +kernel
theorem dX8_at_49 : decode cX8_at 49 = .ok (.ireturn, 1) := by decide +kernel
theorem dX8_wave_0 : decode cX8_wave 0 = .ok (.iload_n 1, 1) := by decide +kernel
theorem dX8_wave_1 : decode cX8_wave 1 = .ok (.invokestatic 68, 3) := by decide +kernel
theorem dX8_wave_4 : decode cX8_wave 4 = .ok (.ifCond .eq 13, 3) := by decide +kernel
theorem dX8_wave_7 : decode cX8_wave 7 = .ok (.iload_n 2, 1) := by decide +kernel
theorem dX8_wave_8 : decode cX8_wave 8 = .ok (.iconst 0, 1) := by decide +kernel
theorem dX8_wave_9 : decode cX8_wave 9 = .ok (.bipush 60, 2) := by decide +kernel
theorem dX8_wave_11 : decode cX8_wave 11 = .ok (.invokestatic 64, 3) := by decide +kernel
theorem dX8_wave_14 : decode cX8_wave 14 = .ok (.ifCond .ne 5, 3) := by decide +kernel
theorem dX8_wave_17 : decode cX8_wave 17 = .ok (.iconst (-1), 1) := by decide +kernel
theorem dX8_wave_18 : decode cX8_wave 18 = .ok (.ireturn, 1) := by decide +kernel
theorem dX8_wave_19 : decode cX8_wave 19 = .ok (.aload_n 0, 1) := by decide +kernel
theorem dX8_wave_20 : decode cX8_wave 20 = .ok (.getfield 10, 3) := by decide +kernel
theorem dX8_wave_23 : decode cX8_wave 23 = .ok (.iload_n 1, 1) := by decide +kernel
theorem dX8_wave_24 : decode cX8_wave 24 = .ok (.aload_n 0, 1) := by decide +kernel
theorem dX8_wave_25 : decode cX8_wave 25 = .ok (.getfield 10, 3) := by decide +kernel
theorem dX8_wave_28 : decode cX8_wave 28 = .ok (.iload_n 2, 1) := by decide +kernel
theorem dX8_wave_29 : decode cX8_wave 29 = .ok (.invokevirtual 127, 3) := by decide +kernel
theorem dX8_wave_32 : decode cX8_wave 32 = .ok (.invokevirtual 130, 3) := by decide +kernel
theorem dX8_wave_35 : decode cX8_wave 35 = .ok (.ireturn, 1) := by decide +kernel
theorem dX8_held_0 : decode cX8_held 0 = .ok (.iload_n 1, 1) := by decide +kernel
theorem dX8_held_1 : decode cX8_held 1 = .ok (.iconst 0, 1) := by decide +kernel
theorem dX8_held_2 : decode cX8_held 2 = .ok (.iconst 5, 1) := by decide +kernel
theorem dX8_held_3 : decode cX8_held 3 = .ok (.invokestatic 64, 3) := by decide +kernel
theorem dX8_held_6 : decode cX8_held 6 = .ok (.ifCond .ne 5, 3) := by decide +kernel
theorem dX8_held_9 : decode cX8_held 9 = .ok (.iconst (-1), 1) := by decide +kernel
theorem dX8_held_10 : decode cX8_held 10 = .ok (.ireturn, 1) := by decide +kernel
theorem dX8_held_11 : decode cX8_held 11 = .ok (.aload_n 0, 1) := by decide +kernel
theorem dX8_held_12 : decode cX8_held 12 = .ok (.getfield 10, 3) := by decide +kernel
theorem dX8_held_15 : decode cX8_held 15 = .ok (.aload_n 0, 1) := by decide +kernel
theorem dX8_held_16 : decode cX8_held 16 = .ok (.getfield 10, 3) := by decide +kernel
theorem dX8_held_19 : decode cX8_held 19 = .ok (.invokevirtual 133, 3) := by decide +kernel
theorem dX8_held_22 : decode cX8_held 22 = .ok (.iload_n 1, 1) := by decide +kernel
theorem dX8_held_23 : decode cX8_held 23 = .ok (.invokevirtual 136, 3) := by decide +kernel
theorem dX8_held_26 : decode cX8_held 26 = .ok (.ireturn, 1) := by decide +kernel
theorem dX8_type_0 : decode cX8_type 0 = .ok (.iload_n 1, 1) := by decide +kernel
theorem dX8_type_1 : decode cX8_type 1 = .ok (.bipush 32, 2) := by decide +kernel
theorem dX8_type_3 : decode cX8_type 3 = .ok (.bipush 126, 2) := by decide +kernel
theorem dX8_type_5 : decode cX8_type 5 = .ok (.invokestatic 64, 3) := by decide +kernel
theorem dX8_type_8 : decode cX8_type 8 = .ok (.ifCond .ne 5, 3) := by decide +kernel
theorem dX8_type_11 : decode cX8_type 11 = .ok (.iconst (-1), 1) := by decide +kernel
theorem dX8_type_12 : decode cX8_type 12 = .ok (.ireturn, 1) := by decide +kernel
theorem dX8_type_13 : decode cX8_type 13 = .ok (.aload_n 0, 1) := by decide +kernel
theorem dX8_type_14 : decode cX8_type 14 = .ok (.getfield 32, 3) := by decide +kernel
theorem dX8_type_17 : decode cX8_type 17 = .ok (.getfield 139, 3) := by decide +kernel
theorem dX8_type_20 : decode cX8_type 20 = .ok (.bipush 60, 2) := by decide +kernel
theorem dX8_type_22 : decode cX8_type 22 = .ok (.if_icmp .lt 6, 3) := by decide +kernel
theorem dX8_type_25 : decode cX8_type 25 = .ok (.bipush (-3), 2) := by decide +kernel
theorem dX8_type_27 : decode cX8_type 27 = .ok (.ireturn, 1) := by decide +kernel
theorem dX8_type_28 : decode cX8_type 28 = .ok (.aload_n 0, 1) := by decide +kernel
theorem dX8_type_29 : decode cX8_type 29 = .ok (.getfield 32, 3) := by decide +kernel
theorem dX8_type_32 : decode cX8_type 32 = .ok (.iload_n 1, 1) := by decide +kernel
theorem dX8_type_33 : decode cX8_type 33 = .ok (.i2c, 1) := by decide +kernel
theorem dX8_type_34 : decode cX8_type 34 = .ok (.invokevirtual 142, 3) := by decide +kernel
theorem dX8_type_37 : decode cX8_type 37 = .ok (.aload_n 0, 1) := by decide +kernel
theorem dX8_type_38 : decode cX8_type 38 = .ok (.getfield 32, 3) := by decide +kernel
theorem dX8_type_41 : decode cX8_type 41 = .ok (.getfield 139, 3) := by decide +kernel
theorem dX8_type_44 : decode cX8_type 44 = .ok (.ireturn, 1) := by decide +kernel
theorem dX8_rim_0 : decode cX8_rim 0 = .ok (.aload_n 0, 1) := by decide +kernel
theorem dX8_rim_1 : decode cX8_rim 1 = .ok (.getfield 32, 3) := by decide +kernel
theorem dX8_rim_4 : decode cX8_rim 4 = .ok (.invokevirtual 146, 3) := by decide +kernel
theorem dX8_rim_7 : decode cX8_rim 7 = .ok (.istore_n 1, 1) := by decide +kernel
theorem dX8_rim_8 : decode cX8_rim 8 = .ok (.iload_n 1, 1) := by decide +kernel
theorem dX8_rim_9 : decode cX8_rim 9 = .ok (.ifCond .eq 5, 3) := by decide +kernel
theorem dX8_rim_12 : decode cX8_rim 12 = .ok (.iload_n 1, 1) := by decide +kernel
theorem dX8_rim_13 : decode cX8_rim 13 = .ok (.ireturn, 1) := by decide +kernel
theorem dX8_rim_14 : decode cX8_rim 14 = .ok (.aload_n 0, 1) := by decide +kernel
theorem dX8_rim_15 : decode cX8_rim 15 = .ok (.getfield 10, 3) := by decide +kernel
theorem dX8_rim_18 : decode cX8_rim 18 = .ok (.getfield 149, 3) := by decide +kernel
theorem dX8_rim_21 : decode cX8_rim 21 = .ok (.istore_n 2, 1) := by decide +kernel
theorem dX8_rim_22 : decode cX8_rim 22 = .ok (.aload_n 0, 1) := by decide +kernel
theorem dX8_rim_23 : decode cX8_rim 23 = .ok (.getfield 10, 3) := by decide +kernel
theorem dX8_rim_26 : decode cX8_rim 26 = .ok (.aload_n 0, 1) := by decide +kernel
theorem dX8_rim_27 : decode cX8_rim 27 = .ok (.getfield 32, 3) := by decide +kernel
theorem dX8_rim_30 : decode cX8_rim 30 = .ok (.getfield 152, 3) := by decide +kernel
theorem dX8_rim_33 : decode cX8_rim 33 = .ok (.invokevirtual 155, 3) := by decide +kernel
theorem dX8_rim_36 : decode cX8_rim 36 = .ok (.aload_n 0, 1) := by decide +kernel
theorem dX8_rim_37 : decode cX8_rim 37 = .ok (.getfield 10, 3) := by decide +kernel
theorem dX8_rim_40 : decode cX8_rim 40 = .ok (.iload_n 2, 1) := by decide +kernel
theorem dX8_rim_41 : decode cX8_rim 41 = .ok (.putfield 149, 3) := by decide +kernel
theorem dX8_rim_44 : decode cX8_rim 44 = .ok (.aload_n 0, 1) := by decide +kernel
theorem dX8_rim_45 : decode cX8_rim 45 = .ok (.getfield 19, 3) := by decide +kernel
theorem dX8_rim_48 : decode cX8_rim 48 = .ok (.invokevirtual 80, 3) := by decide +kernel
theorem dX8_rim_51 : decode cX8_rim 51 = .ok (.aload_n 0, 1) := by decide +kernel
theorem dX8_rim_52 : decode cX8_rim 52 = .ok (.getfield 10, 3) := by decide +kernel
theorem dX8_rim_55 : decode cX8_rim 55 = .ok (.getfield 72, 3) := by decide +kernel
theorem dX8_rim_58 : decode cX8_rim 58 = .ok (.ireturn, 1) := by decide +kernel
theorem dX8_count_0 : decode cX8_count 0 = .ok (.iload_n 1, 1) := by decide +kernel
theorem dX8_count_1 : decode cX8_count 1 = .ok (.tableswitch 120 0 9 #[55, 63, 71, 79, 87, 95, 103, 103, 103, 112], 55) := by decide +kernel
theorem dX8_count_56 : decode cX8_count 56 = .ok (.aload_n 0, 1) := by decide +kernel
theorem dX8_count_57 : decode cX8_count 57 = .ok (.getfield 10, 3) := by decide +kernel
theorem dX8_count_60 : decode cX8_count 60 = .ok (.getfield 72, 3) := by decide +kernel
theorem dX8_count_63 : decode cX8_count 63 = .ok (.ireturn, 1) := by decide +kernel
theorem dX8_count_64 : decode cX8_count 64 = .ok (.aload_n 0, 1) := by decide +kernel
theorem dX8_count_65 : decode cX8_count 65 = .ok (.getfield 10, 3) := by decide +kernel
theorem dX8_count_68 : decode cX8_count 68 = .ok (.invokevirtual 159, 3) := by decide +kernel
theorem dX8_count_71 : decode cX8_count 71 = .ok (.ireturn, 1) := by decide +kernel
theorem dX8_count_72 : decode cX8_count 72 = .ok (.aload_n 0, 1) := by decide +kernel
theorem dX8_count_73 : decode cX8_count 73 = .ok (.getfield 10, 3) := by decide +kernel
theorem dX8_count_76 : decode cX8_count 76 = .ok (.getfield 162, 3) := by decide +kernel
theorem dX8_count_79 : decode cX8_count 79 = .ok (.ireturn, 1) := by decide +kernel
theorem dX8_count_80 : decode cX8_count 80 = .ok (.aload_n 0, 1) := by decide +kernel
theorem dX8_count_81 : decode cX8_count 81 = .ok (.getfield 10, 3) := by decide +kernel
theorem dX8_count_84 : decode cX8_count 84 = .ok (.invokevirtual 133, 3) := by decide +kernel
theorem dX8_count_87 : decode cX8_count 87 = .ok (.ireturn, 1) := by decide +kernel
theorem dX8_count_88 : decode cX8_count 88 = .ok (.aload_n 0, 1) := by decide +kernel
theorem dX8_count_89 : decode cX8_count 89 = .ok (.getfield 10, 3) := by decide +kernel
theorem dX8_count_92 : decode cX8_count 92 = .ok (.invokevirtual 116, 3) := by decide +kernel
theorem dX8_count_95 : decode cX8_count 95 = .ok (.ireturn, 1) := by decide +kernel
theorem dX8_count_96 : decode cX8_count 96 = .ok (.aload_n 0, 1) := by decide +kernel
theorem dX8_count_97 : decode cX8_count 97 = .ok (.getfield 10, 3) := by decide +kernel
theorem dX8_count_100 : decode cX8_count 100 = .ok (.invokevirtual 165, 3) := by decide +kernel
theorem dX8_count_103 : decode cX8_count 103 = .ok (.ireturn, 1) := by decide +kernel
theorem dX8_count_104 : decode cX8_count 104 = .ok (.aload_n 0, 1) := by decide +kernel
theorem dX8_count_105 : decode cX8_count 105 = .ok (.iload_n 1, 1) := by decide +kernel
theorem dX8_count_106 : decode cX8_count 106 = .ok (.bipush 6, 2) := by decide +kernel
theorem dX8_count_108 : decode cX8_count 108 = .ok (.isub, 1) := by decide +kernel
theorem dX8_count_109 : decode cX8_count 109 = .ok (.invokevirtual 87, 3) := by decide +kernel
theorem dX8_count_112 : decode cX8_count 112 = .ok (.ireturn, 1) := by decide +kernel
theorem dX8_count_113 : decode cX8_count 113 = .ok (.aload_n 0, 1) := by decide +kernel
theorem dX8_count_114 : decode cX8_count 114 = .ok (.getfield 19, 3) := by decide +kernel
theorem dX8_count_117 : decode cX8_count 117 = .ok (.getfield 168, 3) := by decide +kernel
theorem dX8_count_120 : decode cX8_count 120 = .ok (.ireturn, 1) := by decide +kernel
theorem dX8_count_121 : decode cX8_count 121 = .ok (.iconst (-1), 1) := by decide +kernel
theorem dX8_count_122 : decode cX8_count 122 = .ok (.ireturn, 1) := by decide +kernel
theorem dX8_nights_0 : decode cX8_nights 0 = .ok (.aload_n 0, 1) := by decide +kernel
theorem dX8_nights_1 : decode cX8_nights 1 = .ok (.iload_n 1, 1) := by decide +kernel
theorem dX8_nights_2 : decode cX8_nights 2 = .ok (.iconst 0, 1) := by decide +kernel
theorem dX8_nights_3 : decode cX8_nights 3 = .ok (.invokevirtual 171, 3) := by decide +kernel
theorem dX8_nights_6 : decode cX8_nights 6 = .ok (.ireturn, 1) := by decide +kernel
theorem dX8_march_0 : decode cX8_march 0 = .ok (.aload_n 0, 1) := by decide +kernel
theorem dX8_march_1 : decode cX8_march 1 = .ok (.iload_n 1, 1) := by decide +kernel
theorem dX8_march_2 : decode cX8_march 2 = .ok (.invokevirtual 99, 3) := by decide +kernel
theorem dX8_march_5 : decode cX8_march 5 = .ok (.ifCond .eq 10, 3) := by decide +kernel
theorem dX8_march_8 : decode cX8_march 8 = .ok (.iload_n 2, 1) := by decide +kernel
theorem dX8_march_9 : decode cX8_march 9 = .ok (.invokestatic 68, 3) := by decide +kernel
theorem dX8_march_12 : decode cX8_march 12 = .ok (.ifCond .ne 5, 3) := by decide +kernel
theorem dX8_march_15 : decode cX8_march 15 = .ok (.iconst (-1), 1) := by decide +kernel
theorem dX8_march_16 : decode cX8_march 16 = .ok (.ireturn, 1) := by decide +kernel
theorem dX8_march_17 : decode cX8_march 17 = .ok (.aload_n 0, 1) := by decide +kernel
theorem dX8_march_18 : decode cX8_march 18 = .ok (.getfield 10, 3) := by decide +kernel
theorem dX8_march_21 : decode cX8_march 21 = .ok (.iload_n 1, 1) := by decide +kernel
theorem dX8_march_22 : decode cX8_march 22 = .ok (.invokevirtual 113, 3) := by decide +kernel
theorem dX8_march_25 : decode cX8_march 25 = .ok (.ifCond .eq 16, 3) := by decide +kernel
theorem dX8_march_28 : decode cX8_march 28 = .ok (.aload_n 0, 1) := by decide +kernel
theorem dX8_march_29 : decode cX8_march 29 = .ok (.getfield 10, 3) := by decide +kernel
theorem dX8_march_32 : decode cX8_march 32 = .ok (.iload_n 2, 1) := by decide +kernel
theorem dX8_march_33 : decode cX8_march 33 = .ok (.invokevirtual 76, 3) := by decide +kernel
theorem dX8_march_36 : decode cX8_march 36 = .ok (.bipush (-4), 2) := by decide +kernel
theorem dX8_march_38 : decode cX8_march 38 = .ok (.if_icmp .eq 6, 3) := by decide +kernel
theorem dX8_march_41 : decode cX8_march 41 = .ok (.bipush (-2), 2) := by decide +kernel
theorem dX8_march_43 : decode cX8_march 43 = .ok (.ireturn, 1) := by decide +kernel
theorem dX8_march_44 : decode cX8_march 44 = .ok (.aload_n 0, 1) := by decide +kernel
theorem dX8_march_45 : decode cX8_march 45 = .ok (.getfield 19, 3) := by decide +kernel
theorem dX8_march_48 : decode cX8_march 48 = .ok (.aload_n 0, 1) := by decide +kernel
theorem dX8_march_49 : decode cX8_march 49 = .ok (.getfield 10, 3) := by decide +kernel
theorem dX8_march_52 : decode cX8_march 52 = .ok (.invokevirtual 175, 3) := by decide +kernel
theorem dX8_march_55 : decode cX8_march 55 = .ok (.aload_n 0, 1) := by decide +kernel
theorem dX8_march_56 : decode cX8_march 56 = .ok (.getfield 10, 3) := by decide +kernel
theorem dX8_march_59 : decode cX8_march 59 = .ok (.getfield 179, 3) := by decide +kernel
theorem dX8_march_62 : decode cX8_march 62 = .ok (.iload_n 1, 1) := by decide +kernel
theorem dX8_march_63 : decode cX8_march 63 = .ok (.iaload, 1) := by decide +kernel
theorem dX8_march_64 : decode cX8_march 64 = .ok (.istore_n 3, 1) := by decide +kernel
theorem dX8_march_65 : decode cX8_march 65 = .ok (.aload_n 0, 1) := by decide +kernel
theorem dX8_march_66 : decode cX8_march 66 = .ok (.getfield 10, 3) := by decide +kernel
theorem dX8_march_69 : decode cX8_march 69 = .ok (.getfield 179, 3) := by decide +kernel
theorem dX8_march_72 : decode cX8_march 72 = .ok (.iload_n 1, 1) := by decide +kernel
theorem dX8_march_73 : decode cX8_march 73 = .ok (.iload_n 2, 1) := by decide +kernel
theorem dX8_march_74 : decode cX8_march 74 = .ok (.iastore, 1) := by decide +kernel
theorem dX8_march_75 : decode cX8_march 75 = .ok (.iload_n 3, 1) := by decide +kernel
theorem dX8_march_76 : decode cX8_march 76 = .ok (.ireturn, 1) := by decide +kernel
theorem dX8_put_0 : decode cX8_put 0 = .ok (.aload_n 0, 1) := by decide +kernel
theorem dX8_put_1 : decode cX8_put 1 = .ok (.iload_n 1, 1) := by decide +kernel
theorem dX8_put_2 : decode cX8_put 2 = .ok (.invokevirtual 99, 3) := by decide +kernel
theorem dX8_put_5 : decode cX8_put 5 = .ok (.ifCond .eq 10, 3) := by decide +kernel
theorem dX8_put_8 : decode cX8_put 8 = .ok (.iload_n 2, 1) := by decide +kernel
theorem dX8_put_9 : decode cX8_put 9 = .ok (.invokestatic 68, 3) := by decide +kernel
theorem dX8_put_12 : decode cX8_put 12 = .ok (.ifCond .ne 5, 3) := by decide +kernel
theorem dX8_put_15 : decode cX8_put 15 = .ok (.iconst (-1), 1) := by decide +kernel
theorem dX8_put_16 : decode cX8_put 16 = .ok (.ireturn, 1) := by decide +kernel
theorem dX8_put_17 : decode cX8_put 17 = .ok (.aload_n 0, 1) := by decide +kernel
theorem dX8_put_18 : decode cX8_put 18 = .ok (.getfield 10, 3) := by decide +kernel
theorem dX8_put_21 : decode cX8_put 21 = .ok (.iload_n 1, 1) := by decide +kernel
theorem dX8_put_22 : decode cX8_put 22 = .ok (.invokevirtual 113, 3) := by decide +kernel
theorem dX8_put_25 : decode cX8_put 25 = .ok (.ifCond .ne 16, 3) := by decide +kernel
theorem dX8_put_28 : decode cX8_put 28 = .ok (.aload_n 0, 1) := by decide +kernel
theorem dX8_put_29 : decode cX8_put 29 = .ok (.getfield 10, 3) := by decide +kernel
theorem dX8_put_32 : decode cX8_put 32 = .ok (.iload_n 2, 1) := by decide +kernel
theorem dX8_put_33 : decode cX8_put 33 = .ok (.invokevirtual 76, 3) := by decide +kernel
theorem dX8_put_36 : decode cX8_put 36 = .ok (.bipush (-4), 2) := by decide +kernel
theorem dX8_put_38 : decode cX8_put 38 = .ok (.if_icmp .eq 6, 3) := by decide +kernel
theorem dX8_put_41 : decode cX8_put 41 = .ok (.bipush (-2), 2) := by decide +kernel
theorem dX8_put_43 : decode cX8_put 43 = .ok (.ireturn, 1) := by decide +kernel
theorem dX8_put_44 : decode cX8_put 44 = .ok (.aload_n 0, 1) := by decide +kernel
theorem dX8_put_45 : decode cX8_put 45 = .ok (.getfield 19, 3) := by decide +kernel
theorem dX8_put_48 : decode cX8_put 48 = .ok (.aload_n 0, 1) := by decide +kernel
theorem dX8_put_49 : decode cX8_put 49 = .ok (.getfield 10, 3) := by decide +kernel
theorem dX8_put_52 : decode cX8_put 52 = .ok (.invokevirtual 175, 3) := by decide +kernel
theorem dX8_put_55 : decode cX8_put 55 = .ok (.aload_n 0, 1) := by decide +kernel
theorem dX8_put_56 : decode cX8_put 56 = .ok (.getfield 10, 3) := by decide +kernel
theorem dX8_put_59 : decode cX8_put 59 = .ok (.getfield 179, 3) := by decide +kernel
theorem dX8_put_62 : decode cX8_put 62 = .ok (.iload_n 1, 1) := by decide +kernel
theorem dX8_put_63 : decode cX8_put 63 = .ok (.iload_n 2, 1) := by decide +kernel
theorem dX8_put_64 : decode cX8_put 64 = .ok (.iastore, 1) := by decide +kernel
theorem dX8_put_65 : decode cX8_put 65 = .ok (.aload_n 0, 1) := by decide +kernel
theorem dX8_put_66 : decode cX8_put 66 = .ok (.getfield 10, 3) := by decide +kernel
theorem dX8_put_69 : decode cX8_put 69 = .ok (.invokevirtual 159, 3) := by decide +kernel
theorem dX8_put_72 : decode cX8_put 72 = .ok (.ireturn, 1) := by decide +kernel
theorem dX8_paint_0 : decode cX8_paint 0 = .ok (.aload_n 0, 1) := by decide +kernel
theorem dX8_paint_1 : decode cX8_paint 1 = .ok (.iload_n 1, 1) := by decide +kernel
theorem dX8_paint_2 : decode cX8_paint 2 = .ok (.invokevirtual 99, 3) := by decide +kernel
theorem dX8_paint_5 : decode cX8_paint 5 = .ok (.ifCond .eq 13, 3) := by decide +kernel
theorem dX8_paint_8 : decode cX8_paint 8 = .ok (.iload_n 2, 1) := by decide +kernel
theorem dX8_paint_9 : decode cX8_paint 9 = .ok (.iconst 1, 1) := by decide +kernel
theorem dX8_paint_10 : decode cX8_paint 10 = .ok (.bipush 9, 2) := by decide +kernel
theorem dX8_paint_12 : decode cX8_paint 12 = .ok (.invokestatic 64, 3) := by decide +kernel
theorem dX8_paint_15 : decode cX8_paint 15 = .ok (.ifCond .ne 5, 3) := by decide +kernel
theorem dX8_paint_18 : decode cX8_paint 18 = .ok (.iconst (-1), 1) := by decide +kernel
theorem dX8_paint_19 : decode cX8_paint 19 = .ok (.ireturn, 1) := by decide +kernel
theorem dX8_paint_20 : decode cX8_paint 20 = .ok (.aload_n 0, 1) := by decide +kernel
theorem dX8_paint_21 : decode cX8_paint 21 = .ok (.getfield 10, 3) := by decide +kernel
theorem dX8_paint_24 : decode cX8_paint 24 = .ok (.getfield 106, 3) := by decide +kernel
theorem dX8_paint_27 : decode cX8_paint 27 = .ok (.iload_n 1, 1) := by decide +kernel
theorem dX8_paint_28 : decode cX8_paint 28 = .ok (.iaload, 1) := by decide +kernel
theorem dX8_paint_29 : decode cX8_paint 29 = .ok (.bipush 9, 2) := by decide +kernel
theorem dX8_paint_31 : decode cX8_paint 31 = .ok (.if_icmp .lt 6, 3) := by decide +kernel
theorem dX8_paint_34 : decode cX8_paint 34 = .ok (.bipush (-2), 2) := by decide +kernel
theorem dX8_paint_36 : decode cX8_paint 36 = .ok (.ireturn, 1) := by decide +kernel
theorem dX8_paint_37 : decode cX8_paint 37 = .ok (.aload_n 0, 1) := by decide +kernel
theorem dX8_paint_38 : decode cX8_paint 38 = .ok (.getfield 19, 3) := by decide +kernel
theorem dX8_paint_41 : decode cX8_paint 41 = .ok (.aload_n 0, 1) := by decide +kernel
theorem dX8_paint_42 : decode cX8_paint 42 = .ok (.getfield 10, 3) := by decide +kernel
theorem dX8_paint_45 : decode cX8_paint 45 = .ok (.invokevirtual 175, 3) := by decide +kernel
theorem dX8_paint_48 : decode cX8_paint 48 = .ok (.aload_n 0, 1) := by decide +kernel
theorem dX8_paint_49 : decode cX8_paint 49 = .ok (.getfield 10, 3) := by decide +kernel
theorem dX8_paint_52 : decode cX8_paint 52 = .ok (.iload_n 1, 1) := by decide +kernel
theorem dX8_paint_53 : decode cX8_paint 53 = .ok (.iload_n 2, 1) := by decide +kernel
theorem dX8_paint_54 : decode cX8_paint 54 = .ok (.invokevirtual 182, 3) := by decide +kernel
theorem dX8_paint_57 : decode cX8_paint 57 = .ok (.aload_n 0, 1) := by decide +kernel
theorem dX8_paint_58 : decode cX8_paint 58 = .ok (.getfield 10, 3) := by decide +kernel
theorem dX8_paint_61 : decode cX8_paint 61 = .ok (.getfield 106, 3) := by decide +kernel
theorem dX8_paint_64 : decode cX8_paint 64 = .ok (.iload_n 1, 1) := by decide +kernel
theorem dX8_paint_65 : decode cX8_paint 65 = .ok (.iaload, 1) := by decide +kernel
theorem dX8_paint_66 : decode cX8_paint 66 = .ok (.ireturn, 1) := by decide +kernel
theorem dX8_drift_0 : decode cX8_drift 0 = .ok (.aload_n 0, 1) := by decide +kernel
theorem dX8_drift_1 : decode cX8_drift 1 = .ok (.iload_n 1, 1) := by decide +kernel
theorem dX8_drift_2 : decode cX8_drift 2 = .ok (.iconst 1, 1) := by decide +kernel
theorem dX8_drift_3 : decode cX8_drift 3 = .ok (.invokevirtual 171, 3) := by decide +kernel
theorem dX8_drift_6 : decode cX8_drift 6 = .ok (.ireturn, 1) := by decide +kernel
theorem dX8_undo_0 : decode cX8_undo 0 = .ok (.aload_n 0, 1) := by decide +kernel
theorem dX8_undo_1 : decode cX8_undo 1 = .ok (.getfield 19, 3) := by decide +kernel
theorem dX8_undo_4 : decode cX8_undo 4 = .ok (.getfield 168, 3) := by decide +kernel
theorem dX8_undo_7 : decode cX8_undo 7 = .ok (.ifCond .gt 6, 3) := by decide +kernel
theorem dX8_undo_10 : decode cX8_undo 10 = .ok (.bipush (-4), 2) := by decide +kernel
theorem dX8_undo_12 : decode cX8_undo 12 = .ok (.ireturn, 1) := by decide +kernel
theorem dX8_undo_13 : decode cX8_undo 13 = .ok (.aload_n 0, 1) := by decide +kernel
theorem dX8_undo_14 : decode cX8_undo 14 = .ok (.getfield 19, 3) := by decide +kernel
theorem dX8_undo_17 : decode cX8_undo 17 = .ok (.aload_n 0, 1) := by decide +kernel
theorem dX8_undo_18 : decode cX8_undo 18 = .ok (.getfield 10, 3) := by decide +kernel
theorem dX8_undo_21 : decode cX8_undo 21 = .ok (.invokevirtual 186, 3) := by decide +kernel
theorem dX8_undo_24 : decode cX8_undo 24 = .ok (.aload_n 0, 1) := by decide +kernel
theorem dX8_undo_25 : decode cX8_undo 25 = .ok (.getfield 19, 3) := by decide +kernel
theorem dX8_undo_28 : decode cX8_undo 28 = .ok (.getfield 168, 3) := by decide +kernel
theorem dX8_undo_31 : decode cX8_undo 31 = .ok (.ireturn, 1) := by decide +kernel
theorem dX8_seed_0 : decode cX8_seed 0 = .ok (.iload_n 1, 1) := by decide +kernel
theorem dX8_seed_1 : decode cX8_seed 1 = .ok (.ifCond .ge 5, 3) := by decide +kernel
theorem dX8_seed_4 : decode cX8_seed 4 = .ok (.iconst (-1), 1) := by decide +kernel
theorem dX8_seed_5 : decode cX8_seed 5 = .ok (.ireturn, 1) := by decide +kernel
theorem dX8_seed_6 : decode cX8_seed 6 = .ok (.aload_n 0, 1) := by decide +kernel
theorem dX8_seed_7 : decode cX8_seed 7 = .ok (.getfield 10, 3) := by decide +kernel
theorem dX8_seed_10 : decode cX8_seed 10 = .ok (.getfield 149, 3) := by decide +kernel
theorem dX8_seed_13 : decode cX8_seed 13 = .ok (.istore_n 2, 1) := by decide +kernel
theorem dX8_seed_14 : decode cX8_seed 14 = .ok (.aload_n 0, 1) := by decide +kernel
theorem dX8_seed_15 : decode cX8_seed 15 = .ok (.getfield 10, 3) := by decide +kernel
theorem dX8_seed_18 : decode cX8_seed 18 = .ok (.iload_n 1, 1) := by decide +kernel
theorem dX8_seed_19 : decode cX8_seed 19 = .ok (.putfield 149, 3) := by decide +kernel
theorem dX8_seed_22 : decode cX8_seed 22 = .ok (.iload_n 2, 1) := by decide +kernel
theorem dX8_seed_23 : decode cX8_seed 23 = .ok (.ireturn, 1) := by decide +kernel
theorem dX8_ahead_0 : decode cX8_ahead 0 = .ok (.aload_n 0, 1) := by decide +kernel
theorem dX8_ahead_1 : decode cX8_ahead 1 = .ok (.iload_n 1, 1) := by decide +kernel
theorem dX8_ahead_2 : decode cX8_ahead 2 = .ok (.invokevirtual 99, 3) := by decide +kernel
theorem dX8_ahead_5 : decode cX8_ahead 5 = .ok (.ifCond .eq 22, 3) := by decide +kernel
theorem dX8_ahead_8 : decode cX8_ahead 8 = .ok (.iload_n 2, 1) := by decide +kernel
theorem dX8_ahead_9 : decode cX8_ahead 9 = .ok (.iconst 0, 1) := by decide +kernel
theorem dX8_ahead_10 : decode cX8_ahead 10 = .ok (.bipush 60, 2) := by decide +kernel
theorem dX8_ahead_12 : decode cX8_ahead 12 = .ok (.invokestatic 64, 3) := by decide +kernel
theorem dX8_ahead_15 : decode cX8_ahead 15 = .ok (.ifCond .eq 12, 3) := by decide +kernel
theorem dX8_ahead_18 : decode cX8_ahead 18 = .ok (.iload_n 3, 1) := by decide +kernel
theorem dX8_ahead_19 : decode cX8_ahead 19 = .ok (.iconst 0, 1) := by decide +kernel
theorem dX8_ahead_20 : decode cX8_ahead 20 = .ok (.iconst 1, 1) := by decide +kernel
theorem dX8_ahead_21 : decode cX8_ahead 21 = .ok (.invokestatic 64, 3) := by decide +kernel
theorem dX8_ahead_24 : decode cX8_ahead 24 = .ok (.ifCond .ne 5, 3) := by decide +kernel
theorem dX8_ahead_27 : decode cX8_ahead 27 = .ok (.iconst (-1), 1) := by decide +kernel
theorem dX8_ahead_28 : decode cX8_ahead 28 = .ok (.ireturn, 1) := by decide +kernel
theorem dX8_ahead_29 : decode cX8_ahead 29 = .ok (.aload_n 0, 1) := by decide +kernel
theorem dX8_ahead_30 : decode cX8_ahead 30 = .ok (.getfield 39, 3) := by decide +kernel
theorem dX8_ahead_33 : decode cX8_ahead 33 = .ok (.aload_n 0, 1) := by decide +kernel
theorem dX8_ahead_34 : decode cX8_ahead 34 = .ok (.getfield 10, 3) := by decide +kernel
theorem dX8_ahead_37 : decode cX8_ahead 37 = .ok (.iload_n 2, 1) := by decide +kernel
theorem dX8_ahead_38 : decode cX8_ahead 38 = .ok (.invokevirtual 189, 3) := by decide +kernel
theorem dX8_ahead_41 : decode cX8_ahead 41 = .ok (.astore 4, 2) := by decide +kernel
theorem dX8_ahead_43 : decode cX8_ahead 43 = .ok (.iload_n 3, 1) := by decide +kernel
theorem dX8_ahead_44 : decode cX8_ahead 44 = .ok (.ifCond .ne 12, 3) := by decide +kernel
theorem dX8_ahead_47 : decode cX8_ahead 47 = .ok (.aload 4, 2) := by decide +kernel
theorem dX8_ahead_49 : decode cX8_ahead 49 = .ok (.iload_n 1, 1) := by decide +kernel
theorem dX8_ahead_50 : decode cX8_ahead 50 = .ok (.invokestatic 109, 3) := by decide +kernel
theorem dX8_ahead_53 : decode cX8_ahead 53 = .ok (.goto 10, 3) := by decide +kernel
theorem dX8_ahead_56 : decode cX8_ahead 56 = .ok (.aload 4, 2) := by decide +kernel
theorem dX8_ahead_58 : decode cX8_ahead 58 = .ok (.getfield 106, 3) := by decide +kernel
theorem dX8_ahead_61 : decode cX8_ahead 61 = .ok (.iload_n 1, 1) := by decide +kernel
theorem dX8_ahead_62 : decode cX8_ahead 62 = .ok (.iaload, 1) := by decide +kernel
theorem dX8_ahead_63 : decode cX8_ahead 63 = .ok (.ireturn, 1) := by decide +kernel
theorem dX8_then_0 : decode cX8_then 0 = .ok (.iload_n 1, 1) := by decide +kernel
theorem dX8_then_1 : decode cX8_then 1 = .ok (.iconst 0, 1) := by decide +kernel
theorem dX8_then_2 : decode cX8_then 2 = .ok (.bipush 60, 2) := by decide +kernel
theorem dX8_then_4 : decode cX8_then 4 = .ok (.invokestatic 64, 3) := by decide +kernel
theorem dX8_then_7 : decode cX8_then 7 = .ok (.ifCond .ne 5, 3) := by decide +kernel
theorem dX8_then_10 : decode cX8_then 10 = .ok (.iconst (-1), 1) := by decide +kernel
theorem dX8_then_11 : decode cX8_then 11 = .ok (.ireturn, 1) := by decide +kernel
theorem dX8_then_12 : decode cX8_then 12 = .ok (.aload_n 0, 1) := by decide +kernel
theorem dX8_then_13 : decode cX8_then 13 = .ok (.getfield 39, 3) := by decide +kernel
theorem dX8_then_16 : decode cX8_then 16 = .ok (.aload_n 0, 1) := by decide +kernel
theorem dX8_then_17 : decode cX8_then 17 = .ok (.getfield 10, 3) := by decide +kernel
theorem dX8_then_20 : decode cX8_then 20 = .ok (.iload_n 1, 1) := by decide +kernel
theorem dX8_then_21 : decode cX8_then 21 = .ok (.invokevirtual 189, 3) := by decide +kernel
theorem dX8_then_24 : decode cX8_then 24 = .ok (.invokevirtual 133, 3) := by decide +kernel
theorem dX8_then_27 : decode cX8_then 27 = .ok (.ireturn, 1) := by decide +kernel
theorem dX8_falls_0 : decode cX8_falls 0 = .ok (.aload_n 0, 1) := by decide +kernel
theorem dX8_falls_1 : decode cX8_falls 1 = .ok (.iload_n 1, 1) := by decide +kernel
theorem dX8_falls_2 : decode cX8_falls 2 = .ok (.invokevirtual 99, 3) := by decide +kernel
theorem dX8_falls_5 : decode cX8_falls 5 = .ok (.ifCond .ne 5, 3) := by decide +kernel
theorem dX8_falls_8 : decode cX8_falls 8 = .ok (.iconst (-1), 1) := by decide +kernel
theorem dX8_falls_9 : decode cX8_falls 9 = .ok (.ireturn, 1) := by decide +kernel
theorem dX8_falls_10 : decode cX8_falls 10 = .ok (.aload_n 0, 1) := by decide +kernel
theorem dX8_falls_11 : decode cX8_falls 11 = .ok (.getfield 39, 3) := by decide +kernel
theorem dX8_falls_14 : decode cX8_falls 14 = .ok (.aload_n 0, 1) := by decide +kernel
theorem dX8_falls_15 : decode cX8_falls 15 = .ok (.getfield 10, 3) := by decide +kernel
theorem dX8_falls_18 : decode cX8_falls 18 = .ok (.iload_n 1, 1) := by decide +kernel
theorem dX8_falls_19 : decode cX8_falls 19 = .ok (.invokevirtual 193, 3) := by decide +kernel
theorem dX8_falls_22 : decode cX8_falls 22 = .ok (.ireturn, 1) := by decide +kernel
theorem dX8_alone_0 : decode cX8_alone 0 = .ok (.aload_n 0, 1) := by decide +kernel
theorem dX8_alone_1 : decode cX8_alone 1 = .ok (.getfield 39, 3) := by decide +kernel
theorem dX8_alone_4 : decode cX8_alone 4 = .ok (.aload_n 0, 1) := by decide +kernel
theorem dX8_alone_5 : decode cX8_alone 5 = .ok (.getfield 10, 3) := by decide +kernel
theorem dX8_alone_8 : decode cX8_alone 8 = .ok (.invokevirtual 196, 3) := by decide +kernel
theorem dX8_alone_11 : decode cX8_alone 11 = .ok (.ireturn, 1) := by decide +kernel
theorem dX8_post_0 : decode cX8_post 0 = .ok (.aload_n 0, 1) := by decide +kernel
theorem dX8_post_1 : decode cX8_post 1 = .ok (.iload_n 1, 1) := by decide +kernel
theorem dX8_post_2 : decode cX8_post 2 = .ok (.invokevirtual 99, 3) := by decide +kernel
theorem dX8_post_5 : decode cX8_post 5 = .ok (.ifCond .eq 22, 3) := by decide +kernel
theorem dX8_post_8 : decode cX8_post 8 = .ok (.iload_n 2, 1) := by decide +kernel
theorem dX8_post_9 : decode cX8_post 9 = .ok (.iconst 1, 1) := by decide +kernel
theorem dX8_post_10 : decode cX8_post 10 = .ok (.bipush 40, 2) := by decide +kernel
theorem dX8_post_12 : decode cX8_post 12 = .ok (.invokestatic 64, 3) := by decide +kernel
theorem dX8_post_15 : decode cX8_post 15 = .ok (.ifCond .eq 12, 3) := by decide +kernel
theorem dX8_post_18 : decode cX8_post 18 = .ok (.iload_n 3, 1) := by decide +kernel
theorem dX8_post_19 : decode cX8_post 19 = .ok (.iconst 0, 1) := by decide +kernel
theorem dX8_post_20 : decode cX8_post 20 = .ok (.iconst 1, 1) := by decide +kernel
theorem dX8_post_21 : decode cX8_post 21 = .ok (.invokestatic 64, 3) := by decide +kernel
theorem dX8_post_24 : decode cX8_post 24 = .ok (.ifCond .ne 5, 3) := by decide +kernel
theorem dX8_post_27 : decode cX8_post 27 = .ok (.iconst (-1), 1) := by decide +kernel
theorem dX8_post_28 : decode cX8_post 28 = .ok (.ireturn, 1) := by decide +kernel
theorem dX8_post_29 : decode cX8_post 29 = .ok (.aload_n 0, 1) := by decide +kernel
theorem dX8_post_30 : decode cX8_post 30 = .ok (.getfield 39, 3) := by decide +kernel
theorem dX8_post_33 : decode cX8_post 33 = .ok (.aload_n 0, 1) := by decide +kernel
theorem dX8_post_34 : decode cX8_post 34 = .ok (.getfield 10, 3) := by decide +kernel
theorem dX8_post_37 : decode cX8_post 37 = .ok (.iload_n 1, 1) := by decide +kernel
theorem dX8_post_38 : decode cX8_post 38 = .ok (.iload_n 2, 1) := by decide +kernel
theorem dX8_post_39 : decode cX8_post 39 = .ok (.invokevirtual 200, 3) := by decide +kernel
theorem dX8_post_42 : decode cX8_post 42 = .ok (.iload_n 3, 1) := by decide +kernel
theorem dX8_post_43 : decode cX8_post 43 = .ok (.ifCond .ne 13, 3) := by decide +kernel
theorem dX8_post_46 : decode cX8_post 46 = .ok (.aload_n 0, 1) := by decide +kernel
theorem dX8_post_47 : decode cX8_post 47 = .ok (.getfield 39, 3) := by decide +kernel
theorem dX8_post_50 : decode cX8_post 50 = .ok (.getfield 204, 3) := by decide +kernel
theorem dX8_post_53 : decode cX8_post 53 = .ok (.goto 10, 3) := by decide +kernel
theorem dX8_post_56 : decode cX8_post 56 = .ok (.aload_n 0, 1) := by decide +kernel
theorem dX8_post_57 : decode cX8_post 57 = .ok (.getfield 39, 3) := by decide +kernel
theorem dX8_post_60 : decode cX8_post 60 = .ok (.getfield 207, 3) := by decide +kernel
theorem dX8_post_63 : decode cX8_post 63 = .ok (.ireturn, 1) := by decide +kernel
theorem dX8_safe_0 : decode cX8_safe 0 = .ok (.aload_n 0, 1) := by decide +kernel
theorem dX8_safe_1 : decode cX8_safe 1 = .ok (.iload_n 1, 1) := by decide +kernel
theorem dX8_safe_2 : decode cX8_safe 2 = .ok (.invokevirtual 99, 3) := by decide +kernel
theorem dX8_safe_5 : decode cX8_safe 5 = .ok (.ifCond .eq 13, 3) := by decide +kernel
theorem dX8_safe_8 : decode cX8_safe 8 = .ok (.iload_n 2, 1) := by decide +kernel
theorem dX8_safe_9 : decode cX8_safe 9 = .ok (.iconst 1, 1) := by decide +kernel
theorem dX8_safe_10 : decode cX8_safe 10 = .ok (.bipush 40, 2) := by decide +kernel
theorem dX8_safe_12 : decode cX8_safe 12 = .ok (.invokestatic 64, 3) := by decide +kernel
theorem dX8_safe_15 : decode cX8_safe 15 = .ok (.ifCond .ne 5, 3) := by decide +kernel
theorem dX8_safe_18 : decode cX8_safe 18 = .ok (.iconst (-1), 1) := by decide +kernel
theorem dX8_safe_19 : decode cX8_safe 19 = .ok (.ireturn, 1) := by decide +kernel
theorem dX8_safe_20 : decode cX8_safe 20 = .ok (.aload_n 0, 1) := by decide +kernel
theorem dX8_safe_21 : decode cX8_safe 21 = .ok (.getfield 39, 3) := by decide +kernel
theorem dX8_safe_24 : decode cX8_safe 24 = .ok (.aload_n 0, 1) := by decide +kernel
theorem dX8_safe_25 : decode cX8_safe 25 = .ok (.getfield 10, 3) := by decide +kernel
theorem dX8_safe_28 : decode cX8_safe 28 = .ok (.iload_n 1, 1) := by decide +kernel
theorem dX8_safe_29 : decode cX8_safe 29 = .ok (.iload_n 2, 1) := by decide +kernel
theorem dX8_safe_30 : decode cX8_safe 30 = .ok (.invokevirtual 210, 3) := by decide +kernel
theorem dX8_safe_33 : decode cX8_safe 33 = .ok (.ireturn, 1) := by decide +kernel
theorem dX8_change_0 : decode cX8_change 0 = .ok (.iload_n 1, 1) := by decide +kernel
theorem dX8_change_1 : decode cX8_change 1 = .ok (.iconst 1, 1) := by decide +kernel
theorem dX8_change_2 : decode cX8_change 2 = .ok (.bipush 40, 2) := by decide +kernel
theorem dX8_change_4 : decode cX8_change 4 = .ok (.invokestatic 64, 3) := by decide +kernel
theorem dX8_change_7 : decode cX8_change 7 = .ok (.ifCond .eq 12, 3) := by decide +kernel
theorem dX8_change_10 : decode cX8_change 10 = .ok (.iload_n 2, 1) := by decide +kernel
theorem dX8_change_11 : decode cX8_change 11 = .ok (.iconst 0, 1) := by decide +kernel
theorem dX8_change_12 : decode cX8_change 12 = .ok (.iconst 1, 1) := by decide +kernel
theorem dX8_change_13 : decode cX8_change 13 = .ok (.invokestatic 64, 3) := by decide +kernel
theorem dX8_change_16 : decode cX8_change 16 = .ok (.ifCond .ne 5, 3) := by decide +kernel
theorem dX8_change_19 : decode cX8_change 19 = .ok (.iconst (-1), 1) := by decide +kernel
theorem dX8_change_20 : decode cX8_change 20 = .ok (.ireturn, 1) := by decide +kernel
theorem dX8_change_21 : decode cX8_change 21 = .ok (.aload_n 0, 1) := by decide +kernel
theorem dX8_change_22 : decode cX8_change 22 = .ok (.getfield 39, 3) := by decide +kernel
theorem dX8_change_25 : decode cX8_change 25 = .ok (.aload_n 0, 1) := by decide +kernel
theorem dX8_change_26 : decode cX8_change 26 = .ok (.getfield 10, 3) := by decide +kernel
theorem dX8_change_29 : decode cX8_change 29 = .ok (.iload_n 1, 1) := by decide +kernel
theorem dX8_change_30 : decode cX8_change 30 = .ok (.invokevirtual 214, 3) := by decide +kernel
theorem dX8_change_33 : decode cX8_change 33 = .ok (.iload_n 2, 1) := by decide +kernel
theorem dX8_change_34 : decode cX8_change 34 = .ok (.ifCond .ne 13, 3) := by decide +kernel
theorem dX8_change_37 : decode cX8_change 37 = .ok (.aload_n 0, 1) := by decide +kernel
theorem dX8_change_38 : decode cX8_change 38 = .ok (.getfield 39, 3) := by decide +kernel
theorem dX8_change_41 : decode cX8_change 41 = .ok (.getfield 204, 3) := by decide +kernel
theorem dX8_change_44 : decode cX8_change 44 = .ok (.goto 10, 3) := by decide +kernel
theorem dX8_change_47 : decode cX8_change 47 = .ok (.aload_n 0, 1) := by decide +kernel
theorem dX8_change_48 : decode cX8_change 48 = .ok (.getfield 39, 3) := by decide +kernel
theorem dX8_change_51 : decode cX8_change 51 = .ok (.getfield 207, 3) := by decide +kernel
theorem dX8_change_54 : decode cX8_change 54 = .ok (.ireturn, 1) := by decide +kernel
theorem dX8_coats_0 : decode cX8_coats 0 = .ok (.iload_n 1, 1) := by decide +kernel
theorem dX8_coats_1 : decode cX8_coats 1 = .ok (.iconst 0, 1) := by decide +kernel
theorem dX8_coats_2 : decode cX8_coats 2 = .ok (.bipush 8, 2) := by decide +kernel
theorem dX8_coats_4 : decode cX8_coats 4 = .ok (.invokestatic 64, 3) := by decide +kernel
theorem dX8_coats_7 : decode cX8_coats 7 = .ok (.ifCond .eq 19, 3) := by decide +kernel
theorem dX8_coats_10 : decode cX8_coats 10 = .ok (.iload_n 2, 1) := by decide +kernel
theorem dX8_coats_11 : decode cX8_coats 11 = .ok (.iconst 1, 1) := by decide +kernel
theorem dX8_coats_12 : decode cX8_coats 12 = .ok (.bipush 30, 2) := by decide +kernel
theorem dX8_coats_14 : decode cX8_coats 14 = .ok (.invokestatic 64, 3) := by decide +kernel
theorem dX8_coats_17 : decode cX8_coats 17 = .ok (.ifCond .eq 9, 3) := by decide +kernel
theorem dX8_coats_20 : decode cX8_coats 20 = .ok (.iload_n 3, 1) := by decide +kernel
theorem dX8_coats_21 : decode cX8_coats 21 = .ok (.bipush (-2), 2) := by decide +kernel
theorem dX8_coats_23 : decode cX8_coats 23 = .ok (.if_icmp .ge 5, 3) := by decide +kernel
theorem dX8_coats_26 : decode cX8_coats 26 = .ok (.iconst (-1), 1) := by decide +kernel
theorem dX8_coats_27 : decode cX8_coats 27 = .ok (.ireturn, 1) := by decide +kernel
theorem dX8_coats_28 : decode cX8_coats 28 = .ok (.iload_n 3, 1) := by decide +kernel
theorem dX8_coats_29 : decode cX8_coats 29 = .ok (.aload_n 0, 1) := by decide +kernel
theorem dX8_coats_30 : decode cX8_coats 30 = .ok (.getfield 10, 3) := by decide +kernel
theorem dX8_coats_33 : decode cX8_coats 33 = .ok (.getfield 72, 3) := by decide +kernel
theorem dX8_coats_36 : decode cX8_coats 36 = .ok (.if_icmp .ge 13, 3) := by decide +kernel
theorem dX8_coats_39 : decode cX8_coats 39 = .ok (.aload_n 0, 1) := by decide +kernel
theorem dX8_coats_40 : decode cX8_coats 40 = .ok (.getfield 10, 3) := by decide +kernel
theorem dX8_coats_43 : decode cX8_coats 43 = .ok (.getfield 72, 3) := by decide +kernel
theorem dX8_coats_46 : decode cX8_coats 46 = .ok (.ifCond .ne 6, 3) := by decide +kernel
theorem dX8_coats_49 : decode cX8_coats 49 = .ok (.bipush (-4), 2) := by decide +kernel
theorem dX8_coats_51 : decode cX8_coats 51 = .ok (.ireturn, 1) := by decide +kernel
theorem dX8_coats_52 : decode cX8_coats 52 = .ok (.aload_n 0, 1) := by decide +kernel
theorem dX8_coats_53 : decode cX8_coats 53 = .ok (.getfield 53, 3) := by decide +kernel
theorem dX8_coats_56 : decode cX8_coats 56 = .ok (.aload_n 0, 1) := by decide +kernel
theorem dX8_coats_57 : decode cX8_coats 57 = .ok (.getfield 10, 3) := by decide +kernel
theorem dX8_coats_60 : decode cX8_coats 60 = .ok (.iload_n 1, 1) := by decide +kernel
theorem dX8_coats_61 : decode cX8_coats 61 = .ok (.iload_n 2, 1) := by decide +kernel
theorem dX8_coats_62 : decode cX8_coats 62 = .ok (.invokevirtual 218, 3) := by decide +kernel
theorem dX8_coats_65 : decode cX8_coats 65 = .ok (.iload_n 3, 1) := by decide +kernel
theorem dX8_coats_66 : decode cX8_coats 66 = .ok (.iconst (-1), 1) := by decide +kernel
theorem dX8_coats_67 : decode cX8_coats 67 = .ok (.if_icmp .ne 11, 3) := by decide +kernel
theorem dX8_coats_70 : decode cX8_coats 70 = .ok (.aload_n 0, 1) := by decide +kernel
theorem dX8_coats_71 : decode cX8_coats 71 = .ok (.getfield 53, 3) := by decide +kernel
theorem dX8_coats_74 : decode cX8_coats 74 = .ok (.getfield 221, 3) := by decide +kernel
theorem dX8_coats_77 : decode cX8_coats 77 = .ok (.ireturn, 1) := by decide +kernel
theorem dX8_coats_78 : decode cX8_coats 78 = .ok (.iload_n 3, 1) := by decide +kernel
theorem dX8_coats_79 : decode cX8_coats 79 = .ok (.bipush (-2), 2) := by decide +kernel
theorem dX8_coats_81 : decode cX8_coats 81 = .ok (.if_icmp .ne 13, 3) := by decide +kernel
theorem dX8_coats_84 : decode cX8_coats 84 = .ok (.aload_n 0, 1) := by decide +kernel
theorem dX8_coats_85 : decode cX8_coats 85 = .ok (.getfield 53, 3) := by decide +kernel
theorem dX8_coats_88 : decode cX8_coats 88 = .ok (.getfield 224, 3) := by decide +kernel
theorem dX8_coats_91 : decode cX8_coats 91 = .ok (.goto 12, 3) := by decide +kernel
theorem dX8_coats_94 : decode cX8_coats 94 = .ok (.aload_n 0, 1) := by decide +kernel
theorem dX8_coats_95 : decode cX8_coats 95 = .ok (.getfield 53, 3) := by decide +kernel
theorem dX8_coats_98 : decode cX8_coats 98 = .ok (.getfield 227, 3) := by decide +kernel
theorem dX8_coats_101 : decode cX8_coats 101 = .ok (.iload_n 3, 1) := by decide +kernel
theorem dX8_coats_102 : decode cX8_coats 102 = .ok (.iaload, 1) := by decide +kernel
theorem dX8_coats_103 : decode cX8_coats 103 = .ok (.ireturn, 1) := by decide +kernel
theorem dX8_guard_0 : decode cX8_guard 0 = .ok (.iload_n 1, 1) := by decide +kernel
theorem dX8_guard_1 : decode cX8_guard 1 = .ok (.iconst 0, 1) := by decide +kernel
theorem dX8_guard_2 : decode cX8_guard 2 = .ok (.iconst 5, 1) := by decide +kernel
theorem dX8_guard_3 : decode cX8_guard 3 = .ok (.invokestatic 64, 3) := by decide +kernel
theorem dX8_guard_6 : decode cX8_guard 6 = .ok (.ifCond .eq 12, 3) := by decide +kernel
theorem dX8_guard_9 : decode cX8_guard 9 = .ok (.iload_n 2, 1) := by decide +kernel
theorem dX8_guard_10 : decode cX8_guard 10 = .ok (.iconst 0, 1) := by decide +kernel
theorem dX8_guard_11 : decode cX8_guard 11 = .ok (.iconst 1, 1) := by decide +kernel
theorem dX8_guard_12 : decode cX8_guard 12 = .ok (.invokestatic 64, 3) := by decide +kernel
theorem dX8_guard_15 : decode cX8_guard 15 = .ok (.ifCond .ne 5, 3) := by decide +kernel
theorem dX8_guard_18 : decode cX8_guard 18 = .ok (.iconst (-1), 1) := by decide +kernel
theorem dX8_guard_19 : decode cX8_guard 19 = .ok (.ireturn, 1) := by decide +kernel
theorem dX8_guard_20 : decode cX8_guard 20 = .ok (.aload_n 0, 1) := by decide +kernel
theorem dX8_guard_21 : decode cX8_guard 21 = .ok (.getfield 39, 3) := by decide +kernel
theorem dX8_guard_24 : decode cX8_guard 24 = .ok (.aload_n 0, 1) := by decide +kernel
theorem dX8_guard_25 : decode cX8_guard 25 = .ok (.getfield 10, 3) := by decide +kernel
theorem dX8_guard_28 : decode cX8_guard 28 = .ok (.iload_n 1, 1) := by decide +kernel
theorem dX8_guard_29 : decode cX8_guard 29 = .ok (.invokevirtual 230, 3) := by decide +kernel
theorem dX8_guard_32 : decode cX8_guard 32 = .ok (.istore_n 3, 1) := by decide +kernel
theorem dX8_guard_33 : decode cX8_guard 33 = .ok (.iload_n 2, 1) := by decide +kernel
theorem dX8_guard_34 : decode cX8_guard 34 = .ok (.ifCond .ne 10, 3) := by decide +kernel
theorem dX8_guard_37 : decode cX8_guard 37 = .ok (.iload_n 3, 1) := by decide +kernel
theorem dX8_guard_38 : decode cX8_guard 38 = .ok (.invokestatic 233, 3) := by decide +kernel
theorem dX8_guard_41 : decode cX8_guard 41 = .ok (.goto 4, 3) := by decide +kernel
theorem dX8_guard_44 : decode cX8_guard 44 = .ok (.iload_n 3, 1) := by decide +kernel
theorem dX8_guard_45 : decode cX8_guard 45 = .ok (.ireturn, 1) := by decide +kernel
theorem dX8_calm_0 : decode cX8_calm 0 = .ok (.iload_n 1, 1) := by decide +kernel
theorem dX8_calm_1 : decode cX8_calm 1 = .ok (.iconst 1, 1) := by decide +kernel
theorem dX8_calm_2 : decode cX8_calm 2 = .ok (.bipush 40, 2) := by decide +kernel
theorem dX8_calm_4 : decode cX8_calm 4 = .ok (.invokestatic 64, 3) := by decide +kernel
theorem dX8_calm_7 : decode cX8_calm 7 = .ok (.ifCond .ne 5, 3) := by decide +kernel
theorem dX8_calm_10 : decode cX8_calm 10 = .ok (.iconst (-1), 1) := by decide +kernel
theorem dX8_calm_11 : decode cX8_calm 11 = .ok (.ireturn, 1) := by decide +kernel
theorem dX8_calm_12 : decode cX8_calm 12 = .ok (.aload_n 0, 1) := by decide +kernel
theorem dX8_calm_13 : decode cX8_calm 13 = .ok (.getfield 39, 3) := by decide +kernel
theorem dX8_calm_16 : decode cX8_calm 16 = .ok (.aload_n 0, 1) := by decide +kernel
theorem dX8_calm_17 : decode cX8_calm 17 = .ok (.getfield 10, 3) := by decide +kernel
theorem dX8_calm_20 : decode cX8_calm 20 = .ok (.iload_n 1, 1) := by decide +kernel
theorem dX8_calm_21 : decode cX8_calm 21 = .ok (.invokevirtual 238, 3) := by decide +kernel
theorem dX8_calm_24 : decode cX8_calm 24 = .ok (.ireturn, 1) := by decide +kernel
theorem dX8_steam_0 : decode cX8_steam 0 = .ok (.iload_n 1, 1) := by decide +kernel
theorem dX8_steam_1 : decode cX8_steam 1 = .ok (.iconst 0, 1) := by decide +kernel
theorem dX8_steam_2 : decode cX8_steam 2 = .ok (.bipush 6, 2) := by decide +kernel
theorem dX8_steam_4 : decode cX8_steam 4 = .ok (.invokestatic 64, 3) := by decide +kernel
theorem dX8_steam_7 : decode cX8_steam 7 = .ok (.ifCond .eq 22, 3) := by decide +kernel
theorem dX8_steam_10 : decode cX8_steam 10 = .ok (.iload_n 2, 1) := by decide +kernel
theorem dX8_steam_11 : decode cX8_steam 11 = .ok (.iconst 0, 1) := by decide +kernel
theorem dX8_steam_12 : decode cX8_steam 12 = .ok (.bipush 10, 2) := by decide +kernel
theorem dX8_steam_14 : decode cX8_steam 14 = .ok (.invokestatic 64, 3) := by decide +kernel
theorem dX8_steam_17 : decode cX8_steam 17 = .ok (.ifCond .eq 12, 3) := by decide +kernel
theorem dX8_steam_20 : decode cX8_steam 20 = .ok (.iload_n 3, 1) := by decide +kernel
theorem dX8_steam_21 : decode cX8_steam 21 = .ok (.iconst 0, 1) := by decide +kernel
theorem dX8_steam_22 : decode cX8_steam 22 = .ok (.iconst 1, 1) := by decide +kernel
theorem dX8_steam_23 : decode cX8_steam 23 = .ok (.invokestatic 64, 3) := by decide +kernel
theorem dX8_steam_26 : decode cX8_steam 26 = .ok (.ifCond .ne 5, 3) := by decide +kernel
theorem dX8_steam_29 : decode cX8_steam 29 = .ok (.iconst (-1), 1) := by decide +kernel
theorem dX8_steam_30 : decode cX8_steam 30 = .ok (.ireturn, 1) := by decide +kernel
theorem dX8_steam_31 : decode cX8_steam 31 = .ok (.aload_n 0, 1) := by decide +kernel
theorem dX8_steam_32 : decode cX8_steam 32 = .ok (.getfield 46, 3) := by decide +kernel
theorem dX8_steam_35 : decode cX8_steam 35 = .ok (.aload_n 0, 1) := by decide +kernel
theorem dX8_steam_36 : decode cX8_steam 36 = .ok (.getfield 10, 3) := by decide +kernel
theorem dX8_steam_39 : decode cX8_steam 39 = .ok (.iload_n 1, 1) := by decide +kernel
theorem dX8_steam_40 : decode cX8_steam 40 = .ok (.iload_n 2, 1) := by decide +kernel
theorem dX8_steam_41 : decode cX8_steam 41 = .ok (.invokevirtual 241, 3) := by decide +kernel
theorem dX8_steam_44 : decode cX8_steam 44 = .ok (.iload_n 3, 1) := by decide +kernel
theorem dX8_steam_45 : decode cX8_steam 45 = .ok (.ifCond .ne 13, 3) := by decide +kernel
theorem dX8_steam_48 : decode cX8_steam 48 = .ok (.aload_n 0, 1) := by decide +kernel
theorem dX8_steam_49 : decode cX8_steam 49 = .ok (.getfield 46, 3) := by decide +kernel
theorem dX8_steam_52 : decode cX8_steam 52 = .ok (.getfield 244, 3) := by decide +kernel
theorem dX8_steam_55 : decode cX8_steam 55 = .ok (.goto 10, 3) := by decide +kernel
theorem dX8_steam_58 : decode cX8_steam 58 = .ok (.aload_n 0, 1) := by decide +kernel
theorem dX8_steam_59 : decode cX8_steam 59 = .ok (.getfield 46, 3) := by decide +kernel
theorem dX8_steam_62 : decode cX8_steam 62 = .ok (.getfield 247, 3) := by decide +kernel
theorem dX8_steam_65 : decode cX8_steam 65 = .ok (.ireturn, 1) := by decide +kernel
theorem dX8_image_0 : decode cX8_image 0 = .ok (.aload_n 0, 1) := by decide +kernel
theorem dX8_image_1 : decode cX8_image 1 = .ok (.getfield 23, 3) := by decide +kernel
theorem dX8_image_4 : decode cX8_image 4 = .ok (.aload_n 0, 1) := by decide +kernel
theorem dX8_image_5 : decode cX8_image 5 = .ok (.getfield 10, 3) := by decide +kernel
theorem dX8_image_8 : decode cX8_image 8 = .ok (.invokevirtual 155, 3) := by decide +kernel
theorem dX8_image_11 : decode cX8_image 11 = .ok (.aload_n 0, 1) := by decide +kernel
theorem dX8_image_12 : decode cX8_image 12 = .ok (.getfield 26, 3) := by decide +kernel
theorem dX8_image_15 : decode cX8_image 15 = .ok (.aload_n 0, 1) := by decide +kernel
theorem dX8_image_16 : decode cX8_image 16 = .ok (.getfield 19, 3) := by decide +kernel
theorem dX8_image_19 : decode cX8_image 19 = .ok (.invokevirtual 250, 3) := by decide +kernel
theorem dX8_image_22 : decode cX8_image 22 = .ok (.aload_n 0, 1) := by decide +kernel
theorem dX8_image_23 : decode cX8_image 23 = .ok (.iconst 1, 1) := by decide +kernel
theorem dX8_image_24 : decode cX8_image 24 = .ok (.putfield 253, 3) := by decide +kernel
theorem dX8_image_27 : decode cX8_image 27 = .ok (.iconst 1, 1) := by decide +kernel
theorem dX8_image_28 : decode cX8_image 28 = .ok (.ireturn, 1) := by decide +kernel
theorem dX8_restore_0 : decode cX8_restore 0 = .ok (.aload_n 0, 1) := by decide +kernel
theorem dX8_restore_1 : decode cX8_restore 1 = .ok (.getfield 253, 3) := by decide +kernel
theorem dX8_restore_4 : decode cX8_restore 4 = .ok (.ifCond .ne 6, 3) := by decide +kernel
theorem dX8_restore_7 : decode cX8_restore 7 = .ok (.bipush (-4), 2) := by decide +kernel
theorem dX8_restore_9 : decode cX8_restore 9 = .ok (.ireturn, 1) := by decide +kernel
theorem dX8_restore_10 : decode cX8_restore 10 = .ok (.aload_n 0, 1) := by decide +kernel
theorem dX8_restore_11 : decode cX8_restore 11 = .ok (.getfield 10, 3) := by decide +kernel
theorem dX8_restore_14 : decode cX8_restore 14 = .ok (.aload_n 0, 1) := by decide +kernel
theorem dX8_restore_15 : decode cX8_restore 15 = .ok (.getfield 23, 3) := by decide +kernel
theorem dX8_restore_18 : decode cX8_restore 18 = .ok (.invokevirtual 155, 3) := by decide +kernel
theorem dX8_restore_21 : decode cX8_restore 21 = .ok (.aload_n 0, 1) := by decide +kernel
theorem dX8_restore_22 : decode cX8_restore 22 = .ok (.getfield 19, 3) := by decide +kernel
theorem dX8_restore_25 : decode cX8_restore 25 = .ok (.aload_n 0, 1) := by decide +kernel
theorem dX8_restore_26 : decode cX8_restore 26 = .ok (.getfield 26, 3) := by decide +kernel
theorem dX8_restore_29 : decode cX8_restore 29 = .ok (.invokevirtual 250, 3) := by decide +kernel
theorem dX8_restore_32 : decode cX8_restore 32 = .ok (.iconst 1, 1) := by decide +kernel
theorem dX8_restore_33 : decode cX8_restore 33 = .ok (.ireturn, 1) := by decide +kernel
theorem dX8_worn_0 : decode cX8_worn 0 = .ok (.aload_n 0, 1) := by decide +kernel
theorem dX8_worn_1 : decode cX8_worn 1 = .ok (.iload_n 1, 1) := by decide +kernel
theorem dX8_worn_2 : decode cX8_worn 2 = .ok (.invokevirtual 99, 3) := by decide +kernel
theorem dX8_worn_5 : decode cX8_worn 5 = .ok (.ifCond .eq 38, 3) := by decide +kernel
theorem dX8_worn_8 : decode cX8_worn 8 = .ok (.iload_n 2, 1) := by decide +kernel
theorem dX8_worn_9 : decode cX8_worn 9 = .ok (.invokestatic 257, 3) := by decide +kernel
theorem dX8_worn_12 : decode cX8_worn 12 = .ok (.ifCond .eq 31, 3) := by decide +kernel
theorem dX8_worn_15 : decode cX8_worn 15 = .ok (.iload_n 3, 1) := by decide +kernel
theorem dX8_worn_16 : decode cX8_worn 16 = .ok (.invokestatic 260, 3) := by decide +kernel
theorem dX8_worn_19 : decode cX8_worn 19 = .ok (.ifCond .eq 24, 3) := by decide +kernel
theorem dX8_worn_22 : decode cX8_worn 22 = .ok (.iload 5, 2) := by decide +kernel
theorem dX8_worn_24 : decode cX8_worn 24 = .ok (.iconst 1, 1) := by decide +kernel
theorem dX8_worn_25 : decode cX8_worn 25 = .ok (.bipush 8, 2) := by decide +kernel
theorem dX8_worn_27 : decode cX8_worn 27 = .ok (.invokestatic 64, 3) := by decide +kernel
theorem dX8_worn_30 : decode cX8_worn 30 = .ok (.ifCond .eq 13, 3) := by decide +kernel
theorem dX8_worn_33 : decode cX8_worn 33 = .ok (.iload 6, 2) := by decide +kernel
theorem dX8_worn_35 : decode cX8_worn 35 = .ok (.iconst 0, 1) := by decide +kernel
theorem dX8_worn_36 : decode cX8_worn 36 = .ok (.iconst 2, 1) := by decide +kernel
theorem dX8_worn_37 : decode cX8_worn 37 = .ok (.invokestatic 64, 3) := by decide +kernel
theorem dX8_worn_40 : decode cX8_worn 40 = .ok (.ifCond .ne 5, 3) := by decide +kernel
theorem dX8_worn_43 : decode cX8_worn 43 = .ok (.iconst (-1), 1) := by decide +kernel
theorem dX8_worn_44 : decode cX8_worn 44 = .ok (.ireturn, 1) := by decide +kernel
theorem dX8_worn_45 : decode cX8_worn 45 = .ok (.aload_n 0, 1) := by decide +kernel
theorem dX8_worn_46 : decode cX8_worn 46 = .ok (.getfield 59, 3) := by decide +kernel
theorem dX8_worn_49 : decode cX8_worn 49 = .ok (.iload_n 2, 1) := by decide +kernel
theorem dX8_worn_50 : decode cX8_worn 50 = .ok (.aaload, 1) := by decide +kernel
theorem dX8_worn_51 : decode cX8_worn 51 = .ok (.iload_n 3, 1) := by decide +kernel
theorem dX8_worn_52 : decode cX8_worn 52 = .ok (.iload 4, 2) := by decide +kernel
theorem dX8_worn_54 : decode cX8_worn 54 = .ok (.iload 5, 2) := by decide +kernel
theorem dX8_worn_56 : decode cX8_worn 56 = .ok (.invokevirtual 263, 3) := by decide +kernel
theorem dX8_worn_59 : decode cX8_worn 59 = .ok (.istore 7, 2) := by decide +kernel
theorem dX8_worn_61 : decode cX8_worn 61 = .ok (.iload 7, 2) := by decide +kernel
theorem dX8_worn_63 : decode cX8_worn 63 = .ok (.ifCond .eq 6, 3) := by decide +kernel
theorem dX8_worn_66 : decode cX8_worn 66 = .ok (.iload 7, 2) := by decide +kernel
theorem dX8_worn_68 : decode cX8_worn 68 = .ok (.ireturn, 1) := by decide +kernel
theorem dX8_worn_69 : decode cX8_worn 69 = .ok (.aload_n 0, 1) := by decide +kernel
theorem dX8_worn_70 : decode cX8_worn 70 = .ok (.getfield 59, 3) := by decide +kernel
theorem dX8_worn_73 : decode cX8_worn 73 = .ok (.iload_n 2, 1) := by decide +kernel
theorem dX8_worn_74 : decode cX8_worn 74 = .ok (.aaload, 1) := by decide +kernel
theorem dX8_worn_75 : decode cX8_worn 75 = .ok (.iload 4, 2) := by decide +kernel
theorem dX8_worn_77 : decode cX8_worn 77 = .ok (.iload 5, 2) := by decide +kernel
theorem dX8_worn_79 : decode cX8_worn 79 = .ok (.invokevirtual 267, 3) := by decide +kernel
theorem dX8_worn_82 : decode cX8_worn 82 = .ok (.iload 6, 2) := by decide +kernel
theorem dX8_worn_84 : decode cX8_worn 84 = .ok (.lookupswitch 66 #[(0, 28), (1, 47)], 28) := by decide +kernel
theorem dX8_worn_112 : decode cX8_worn 112 = .ok (.aload_n 0, 1) := by decide +kernel
theorem dX8_worn_113 : decode cX8_worn 113 = .ok (.getfield 39, 3) := by decide +kernel
theorem dX8_worn_116 : decode cX8_worn 116 = .ok (.aload_n 0, 1) := by decide +kernel
theorem dX8_worn_117 : decode cX8_worn 117 = .ok (.getfield 10, 3) := by decide +kernel
theorem dX8_worn_120 : decode cX8_worn 120 = .ok (.iload_n 1, 1) := by decide +kernel
theorem dX8_worn_121 : decode cX8_worn 121 = .ok (.aload_n 0, 1) := by decide +kernel
theorem dX8_worn_122 : decode cX8_worn 122 = .ok (.getfield 59, 3) := by decide +kernel
theorem dX8_worn_125 : decode cX8_worn 125 = .ok (.iload_n 2, 1) := by decide +kernel
theorem dX8_worn_126 : decode cX8_worn 126 = .ok (.aaload, 1) := by decide +kernel
theorem dX8_worn_127 : decode cX8_worn 127 = .ok (.invokevirtual 270, 3) := by decide +kernel
theorem dX8_worn_130 : decode cX8_worn 130 = .ok (.ireturn, 1) := by decide +kernel
theorem dX8_worn_131 : decode cX8_worn 131 = .ok (.aload_n 0, 1) := by decide +kernel
theorem dX8_worn_132 : decode cX8_worn 132 = .ok (.getfield 39, 3) := by decide +kernel
theorem dX8_worn_135 : decode cX8_worn 135 = .ok (.aload_n 0, 1) := by decide +kernel
theorem dX8_worn_136 : decode cX8_worn 136 = .ok (.getfield 10, 3) := by decide +kernel
theorem dX8_worn_139 : decode cX8_worn 139 = .ok (.iload_n 1, 1) := by decide +kernel
theorem dX8_worn_140 : decode cX8_worn 140 = .ok (.aload_n 0, 1) := by decide +kernel
theorem dX8_worn_141 : decode cX8_worn 141 = .ok (.getfield 59, 3) := by decide +kernel
theorem dX8_worn_144 : decode cX8_worn 144 = .ok (.iload_n 2, 1) := by decide +kernel
theorem dX8_worn_145 : decode cX8_worn 145 = .ok (.aaload, 1) := by decide +kernel
theorem dX8_worn_146 : decode cX8_worn 146 = .ok (.invokevirtual 274, 3) := by decide +kernel
theorem dX8_worn_149 : decode cX8_worn 149 = .ok (.ireturn, 1) := by decide +kernel
theorem dX8_worn_150 : decode cX8_worn 150 = .ok (.aload_n 0, 1) := by decide +kernel
theorem dX8_worn_151 : decode cX8_worn 151 = .ok (.getfield 39, 3) := by decide +kernel
theorem dX8_worn_154 : decode cX8_worn 154 = .ok (.aload_n 0, 1) := by decide +kernel
theorem dX8_worn_155 : decode cX8_worn 155 = .ok (.getfield 10, 3) := by decide +kernel
theorem dX8_worn_158 : decode cX8_worn 158 = .ok (.iload_n 1, 1) := by decide +kernel
theorem dX8_worn_159 : decode cX8_worn 159 = .ok (.aload_n 0, 1) := by decide +kernel
theorem dX8_worn_160 : decode cX8_worn 160 = .ok (.getfield 59, 3) := by decide +kernel
theorem dX8_worn_163 : decode cX8_worn 163 = .ok (.iload_n 2, 1) := by decide +kernel
theorem dX8_worn_164 : decode cX8_worn 164 = .ok (.aaload, 1) := by decide +kernel
theorem dX8_worn_165 : decode cX8_worn 165 = .ok (.invokevirtual 277, 3) := by decide +kernel
theorem dX8_worn_168 : decode cX8_worn 168 = .ok (.ireturn, 1) := by decide +kernel
theorem dX8_film_0 : decode cX8_film 0 = .ok (.aload_n 0, 1) := by decide +kernel
theorem dX8_film_1 : decode cX8_film 1 = .ok (.iload_n 1, 1) := by decide +kernel
theorem dX8_film_2 : decode cX8_film 2 = .ok (.invokevirtual 99, 3) := by decide +kernel
theorem dX8_film_5 : decode cX8_film 5 = .ok (.ifCond .eq 28, 3) := by decide +kernel
theorem dX8_film_8 : decode cX8_film 8 = .ok (.iload_n 2, 1) := by decide +kernel
theorem dX8_film_9 : decode cX8_film 9 = .ok (.iconst 1, 1) := by decide +kernel
theorem dX8_film_10 : decode cX8_film 10 = .ok (.bipush 24, 2) := by decide +kernel
theorem dX8_film_12 : decode cX8_film 12 = .ok (.invokestatic 64, 3) := by decide +kernel
theorem dX8_film_15 : decode cX8_film 15 = .ok (.ifCond .eq 18, 3) := by decide +kernel
theorem dX8_film_18 : decode cX8_film 18 = .ok (.iload_n 3, 1) := by decide +kernel
theorem dX8_film_19 : decode cX8_film 19 = .ok (.invokestatic 257, 3) := by decide +kernel
theorem dX8_film_22 : decode cX8_film 22 = .ok (.ifCond .eq 11, 3) := by decide +kernel
theorem dX8_film_25 : decode cX8_film 25 = .ok (.iload 4, 2) := by decide +kernel
theorem dX8_film_27 : decode cX8_film 27 = .ok (.invokestatic 260, 3) := by decide +kernel
theorem dX8_film_30 : decode cX8_film 30 = .ok (.ifCond .ne 5, 3) := by decide +kernel
theorem dX8_film_33 : decode cX8_film 33 = .ok (.iconst (-1), 1) := by decide +kernel
theorem dX8_film_34 : decode cX8_film 34 = .ok (.ireturn, 1) := by decide +kernel
theorem dX8_film_35 : decode cX8_film 35 = .ok (.aload_n 0, 1) := by decide +kernel
theorem dX8_film_36 : decode cX8_film 36 = .ok (.getfield 59, 3) := by decide +kernel
theorem dX8_film_39 : decode cX8_film 39 = .ok (.iload_n 3, 1) := by decide +kernel
theorem dX8_film_40 : decode cX8_film 40 = .ok (.aaload, 1) := by decide +kernel
theorem dX8_film_41 : decode cX8_film 41 = .ok (.iload 4, 2) := by decide +kernel
theorem dX8_film_43 : decode cX8_film 43 = .ok (.iload 5, 2) := by decide +kernel
theorem dX8_film_45 : decode cX8_film 45 = .ok (.iload_n 2, 1) := by decide +kernel
theorem dX8_film_46 : decode cX8_film 46 = .ok (.invokevirtual 263, 3) := by decide +kernel
theorem dX8_film_49 : decode cX8_film 49 = .ok (.istore 6, 2) := by decide +kernel
theorem dX8_film_51 : decode cX8_film 51 = .ok (.iload 6, 2) := by decide +kernel
theorem dX8_film_53 : decode cX8_film 53 = .ok (.ifCond .eq 6, 3) := by decide +kernel
theorem dX8_film_56 : decode cX8_film 56 = .ok (.iload 6, 2) := by decide +kernel
theorem dX8_film_58 : decode cX8_film 58 = .ok (.ireturn, 1) := by decide +kernel
theorem dX8_film_59 : decode cX8_film 59 = .ok (.aload_n 0, 1) := by decide +kernel
theorem dX8_film_60 : decode cX8_film 60 = .ok (.getfield 59, 3) := by decide +kernel
theorem dX8_film_63 : decode cX8_film 63 = .ok (.iload_n 3, 1) := by decide +kernel
theorem dX8_film_64 : decode cX8_film 64 = .ok (.aaload, 1) := by decide +kernel
theorem dX8_film_65 : decode cX8_film 65 = .ok (.iload 5, 2) := by decide +kernel
theorem dX8_film_67 : decode cX8_film 67 = .ok (.iload_n 2, 1) := by decide +kernel
theorem dX8_film_68 : decode cX8_film 68 = .ok (.invokevirtual 267, 3) := by decide +kernel
theorem dX8_film_71 : decode cX8_film 71 = .ok (.aload_n 0, 1) := by decide +kernel
theorem dX8_film_72 : decode cX8_film 72 = .ok (.getfield 39, 3) := by decide +kernel
theorem dX8_film_75 : decode cX8_film 75 = .ok (.aload_n 0, 1) := by decide +kernel
theorem dX8_film_76 : decode cX8_film 76 = .ok (.getfield 10, 3) := by decide +kernel
theorem dX8_film_79 : decode cX8_film 79 = .ok (.iload_n 1, 1) := by decide +kernel
theorem dX8_film_80 : decode cX8_film 80 = .ok (.aload_n 0, 1) := by decide +kernel
theorem dX8_film_81 : decode cX8_film 81 = .ok (.getfield 59, 3) := by decide +kernel
theorem dX8_film_84 : decode cX8_film 84 = .ok (.iload_n 3, 1) := by decide +kernel
theorem dX8_film_85 : decode cX8_film 85 = .ok (.aaload, 1) := by decide +kernel
theorem dX8_film_86 : decode cX8_film 86 = .ok (.invokevirtual 280, 3) := by decide +kernel
theorem dX8_film_89 : decode cX8_film 89 = .ok (.iload_n 2, 1) := by decide +kernel
theorem dX8_film_90 : decode cX8_film 90 = .ok (.ireturn, 1) := by decide +kernel
theorem dX8_sheet_0 : decode cX8_sheet 0 = .ok (.iload_n 1, 1) := by decide +kernel
theorem dX8_sheet_1 : decode cX8_sheet 1 = .ok (.invokestatic 257, 3) := by decide +kernel
theorem dX8_sheet_4 : decode cX8_sheet 4 = .ok (.ifCond .eq 16, 3) := by decide +kernel
theorem dX8_sheet_7 : decode cX8_sheet 7 = .ok (.iload_n 2, 1) := by decide +kernel
theorem dX8_sheet_8 : decode cX8_sheet 8 = .ok (.invokestatic 260, 3) := by decide +kernel
theorem dX8_sheet_11 : decode cX8_sheet 11 = .ok (.ifCond .eq 9, 3) := by decide +kernel
theorem dX8_sheet_14 : decode cX8_sheet 14 = .ok (.iload_n 3, 1) := by decide +kernel
theorem dX8_sheet_15 : decode cX8_sheet 15 = .ok (.bipush 24, 2) := by decide +kernel
theorem dX8_sheet_17 : decode cX8_sheet 17 = .ok (.if_icmp .le 5, 3) := by decide +kernel
theorem dX8_sheet_20 : decode cX8_sheet 20 = .ok (.iconst (-1), 1) := by decide +kernel
theorem dX8_sheet_21 : decode cX8_sheet 21 = .ok (.ireturn, 1) := by decide +kernel
theorem dX8_sheet_22 : decode cX8_sheet 22 = .ok (.iload_n 3, 1) := by decide +kernel
theorem dX8_sheet_23 : decode cX8_sheet 23 = .ok (.ifCond .ge 6, 3) := by decide +kernel
theorem dX8_sheet_26 : decode cX8_sheet 26 = .ok (.bipush (-14), 2) := by decide +kernel
theorem dX8_sheet_28 : decode cX8_sheet 28 = .ok (.ireturn, 1) := by decide +kernel
theorem dX8_sheet_29 : decode cX8_sheet 29 = .ok (.aload_n 0, 1) := by decide +kernel
theorem dX8_sheet_30 : decode cX8_sheet 30 = .ok (.getfield 59, 3) := by decide +kernel
theorem dX8_sheet_33 : decode cX8_sheet 33 = .ok (.iload_n 1, 1) := by decide +kernel
theorem dX8_sheet_34 : decode cX8_sheet 34 = .ok (.aaload, 1) := by decide +kernel
theorem dX8_sheet_35 : decode cX8_sheet 35 = .ok (.iload_n 2, 1) := by decide +kernel
theorem dX8_sheet_36 : decode cX8_sheet 36 = .ok (.iload_n 3, 1) := by decide +kernel
theorem dX8_sheet_37 : decode cX8_sheet 37 = .ok (.invokevirtual 284, 3) := by decide +kernel
theorem dX8_sheet_40 : decode cX8_sheet 40 = .ok (.iload_n 3, 1) := by decide +kernel
theorem dX8_sheet_41 : decode cX8_sheet 41 = .ok (.ireturn, 1) := by decide +kernel
theorem dX8_drop_0 : decode cX8_drop 0 = .ok (.iload_n 1, 1) := by decide +kernel
theorem dX8_drop_1 : decode cX8_drop 1 = .ok (.invokestatic 257, 3) := by decide +kernel
theorem dX8_drop_4 : decode cX8_drop 4 = .ok (.ifCond .ne 5, 3) := by decide +kernel
theorem dX8_drop_7 : decode cX8_drop 7 = .ok (.iconst (-1), 1) := by decide +kernel
theorem dX8_drop_8 : decode cX8_drop 8 = .ok (.ireturn, 1) := by decide +kernel
theorem dX8_drop_9 : decode cX8_drop 9 = .ok (.aload_n 0, 1) := by decide +kernel
theorem dX8_drop_10 : decode cX8_drop 10 = .ok (.getfield 59, 3) := by decide +kernel
theorem dX8_drop_13 : decode cX8_drop 13 = .ok (.iload_n 1, 1) := by decide +kernel
theorem dX8_drop_14 : decode cX8_drop 14 = .ok (.aaload, 1) := by decide +kernel
theorem dX8_drop_15 : decode cX8_drop 15 = .ok (.invokevirtual 287, 3) := by decide +kernel
theorem dX8_drop_18 : decode cX8_drop 18 = .ok (.ifCond .eq 6, 3) := by decide +kernel
theorem dX8_drop_21 : decode cX8_drop 21 = .ok (.bipush (-11), 2) := by decide +kernel
theorem dX8_drop_23 : decode cX8_drop 23 = .ok (.ireturn, 1) := by decide +kernel
theorem dX8_drop_24 : decode cX8_drop 24 = .ok (.aload_n 0, 1) := by decide +kernel
theorem dX8_drop_25 : decode cX8_drop 25 = .ok (.getfield 59, 3) := by decide +kernel
theorem dX8_drop_28 : decode cX8_drop 28 = .ok (.iload_n 1, 1) := by decide +kernel
theorem dX8_drop_29 : decode cX8_drop 29 = .ok (.aaload, 1) := by decide +kernel
theorem dX8_drop_30 : decode cX8_drop 30 = .ok (.invokevirtual 291, 3) := by decide +kernel
theorem dX8_drop_33 : decode cX8_drop 33 = .ok (.aload_n 0, 1) := by decide +kernel
theorem dX8_drop_34 : decode cX8_drop 34 = .ok (.getfield 59, 3) := by decide +kernel
theorem dX8_drop_37 : decode cX8_drop 37 = .ok (.iload_n 1, 1) := by decide +kernel
theorem dX8_drop_38 : decode cX8_drop 38 = .ok (.aaload, 1) := by decide +kernel
theorem dX8_drop_39 : decode cX8_drop 39 = .ok (.getfield 294, 3) := by decide +kernel
theorem dX8_drop_42 : decode cX8_drop 42 = .ok (.ireturn, 1) := by decide +kernel
theorem dX8_item_0 : decode cX8_item 0 = .ok (.iload_n 1, 1) := by decide +kernel
theorem dX8_item_1 : decode cX8_item 1 = .ok (.invokestatic 257, 3) := by decide +kernel
theorem dX8_item_4 : decode cX8_item 4 = .ok (.ifCond .eq 10, 3) := by decide +kernel
theorem dX8_item_7 : decode cX8_item 7 = .ok (.iload_n 2, 1) := by decide +kernel
theorem dX8_item_8 : decode cX8_item 8 = .ok (.invokestatic 260, 3) := by decide +kernel
theorem dX8_item_11 : decode cX8_item 11 = .ok (.ifCond .ne 5, 3) := by decide +kernel
theorem dX8_item_14 : decode cX8_item 14 = .ok (.iconst (-1), 1) := by decide +kernel
theorem dX8_item_15 : decode cX8_item 15 = .ok (.ireturn, 1) := by decide +kernel
theorem dX8_item_16 : decode cX8_item 16 = .ok (.aload_n 0, 1) := by decide +kernel
theorem dX8_item_17 : decode cX8_item 17 = .ok (.getfield 59, 3) := by decide +kernel
theorem dX8_item_20 : decode cX8_item 20 = .ok (.iload_n 1, 1) := by decide +kernel
theorem dX8_item_21 : decode cX8_item 21 = .ok (.aaload, 1) := by decide +kernel
theorem dX8_item_22 : decode cX8_item 22 = .ok (.iload_n 2, 1) := by decide +kernel
theorem dX8_item_23 : decode cX8_item 23 = .ok (.iload_n 3, 1) := by decide +kernel
theorem dX8_item_24 : decode cX8_item 24 = .ok (.iconst 1, 1) := by decide +kernel
theorem dX8_item_25 : decode cX8_item 25 = .ok (.invokevirtual 263, 3) := by decide +kernel
theorem dX8_item_28 : decode cX8_item 28 = .ok (.istore 6, 2) := by decide +kernel
theorem dX8_item_30 : decode cX8_item 30 = .ok (.iload 6, 2) := by decide +kernel
theorem dX8_item_32 : decode cX8_item 32 = .ok (.ifCond .eq 6, 3) := by decide +kernel
theorem dX8_item_35 : decode cX8_item 35 = .ok (.iload 6, 2) := by decide +kernel
theorem dX8_item_37 : decode cX8_item 37 = .ok (.ireturn, 1) := by decide +kernel
theorem dX8_item_38 : decode cX8_item 38 = .ok (.aload_n 0, 1) := by decide +kernel
theorem dX8_item_39 : decode cX8_item 39 = .ok (.getfield 59, 3) := by decide +kernel
theorem dX8_item_42 : decode cX8_item 42 = .ok (.iload_n 1, 1) := by decide +kernel
theorem dX8_item_43 : decode cX8_item 43 = .ok (.aaload, 1) := by decide +kernel
theorem dX8_item_44 : decode cX8_item 44 = .ok (.iload_n 3, 1) := by decide +kernel
theorem dX8_item_45 : decode cX8_item 45 = .ok (.lload 4, 2) := by decide +kernel
theorem dX8_item_47 : decode cX8_item 47 = .ok (.invokevirtual 297, 3) := by decide +kernel
theorem dX8_item_50 : decode cX8_item 50 = .ok (.iconst 1, 1) := by decide +kernel
theorem dX8_item_51 : decode cX8_item 51 = .ok (.ireturn, 1) := by decide +kernel
theorem dX8_copy_0 : decode cX8_copy 0 = .ok (.iload_n 1, 1) := by decide +kernel
theorem dX8_copy_1 : decode cX8_copy 1 = .ok (.invokestatic 257, 3) := by decide +kernel
theorem dX8_copy_4 : decode cX8_copy 4 = .ok (.ifCond .eq 10, 3) := by decide +kernel
theorem dX8_copy_7 : decode cX8_copy 7 = .ok (.iload_n 3, 1) := by decide +kernel
theorem dX8_copy_8 : decode cX8_copy 8 = .ok (.invokestatic 257, 3) := by decide +kernel
theorem dX8_copy_11 : decode cX8_copy 11 = .ok (.ifCond .ne 5, 3) := by decide +kernel
theorem dX8_copy_14 : decode cX8_copy 14 = .ok (.iconst (-1), 1) := by decide +kernel
theorem dX8_copy_15 : decode cX8_copy 15 = .ok (.ireturn, 1) := by decide +kernel
theorem dX8_copy_16 : decode cX8_copy 16 = .ok (.aload_n 0, 1) := by decide +kernel
theorem dX8_copy_17 : decode cX8_copy 17 = .ok (.getfield 59, 3) := by decide +kernel
theorem dX8_copy_20 : decode cX8_copy 20 = .ok (.iload_n 1, 1) := by decide +kernel
theorem dX8_copy_21 : decode cX8_copy 21 = .ok (.aaload, 1) := by decide +kernel
theorem dX8_copy_22 : decode cX8_copy 22 = .ok (.invokevirtual 287, 3) := by decide +kernel
theorem dX8_copy_25 : decode cX8_copy 25 = .ok (.ifCond .ne 15, 3) := by decide +kernel
theorem dX8_copy_28 : decode cX8_copy 28 = .ok (.aload_n 0, 1) := by decide +kernel
theorem dX8_copy_29 : decode cX8_copy 29 = .ok (.getfield 59, 3) := by decide +kernel
theorem dX8_copy_32 : decode cX8_copy 32 = .ok (.iload_n 3, 1) := by decide +kernel
theorem dX8_copy_33 : decode cX8_copy 33 = .ok (.aaload, 1) := by decide +kernel
theorem dX8_copy_34 : decode cX8_copy 34 = .ok (.invokevirtual 287, 3) := by decide +kernel
theorem dX8_copy_37 : decode cX8_copy 37 = .ok (.ifCond .eq 6, 3) := by decide +kernel
theorem dX8_copy_40 : decode cX8_copy 40 = .ok (.bipush (-11), 2) := by decide +kernel
theorem dX8_copy_42 : decode cX8_copy 42 = .ok (.ireturn, 1) := by decide +kernel
theorem dX8_copy_43 : decode cX8_copy 43 = .ok (.aload_n 0, 1) := by decide +kernel
theorem dX8_copy_44 : decode cX8_copy 44 = .ok (.getfield 59, 3) := by decide +kernel
theorem dX8_copy_47 : decode cX8_copy 47 = .ok (.iload_n 1, 1) := by decide +kernel
theorem dX8_copy_48 : decode cX8_copy 48 = .ok (.aaload, 1) := by decide +kernel
theorem dX8_copy_49 : decode cX8_copy 49 = .ok (.getfield 301, 3) := by decide +kernel
theorem dX8_copy_52 : decode cX8_copy 52 = .ok (.aload_n 0, 1) := by decide +kernel
theorem dX8_copy_53 : decode cX8_copy 53 = .ok (.getfield 59, 3) := by decide +kernel
theorem dX8_copy_56 : decode cX8_copy 56 = .ok (.iload_n 3, 1) := by decide +kernel
theorem dX8_copy_57 : decode cX8_copy 57 = .ok (.aaload, 1) := by decide +kernel
theorem dX8_copy_58 : decode cX8_copy 58 = .ok (.getfield 301, 3) := by decide +kernel
theorem dX8_copy_61 : decode cX8_copy 61 = .ok (.if_icmp .eq 6, 3) := by decide +kernel
theorem dX8_copy_64 : decode cX8_copy 64 = .ok (.bipush (-12), 2) := by decide +kernel
theorem dX8_copy_66 : decode cX8_copy 66 = .ok (.ireturn, 1) := by decide +kernel
theorem dX8_copy_67 : decode cX8_copy 67 = .ok (.aload_n 0, 1) := by decide +kernel
theorem dX8_copy_68 : decode cX8_copy 68 = .ok (.getfield 59, 3) := by decide +kernel
theorem dX8_copy_71 : decode cX8_copy 71 = .ok (.iload_n 1, 1) := by decide +kernel
theorem dX8_copy_72 : decode cX8_copy 72 = .ok (.aaload, 1) := by decide +kernel
theorem dX8_copy_73 : decode cX8_copy 73 = .ok (.iload_n 2, 1) := by decide +kernel
theorem dX8_copy_74 : decode cX8_copy 74 = .ok (.iload 5, 2) := by decide +kernel
theorem dX8_copy_76 : decode cX8_copy 76 = .ok (.invokevirtual 304, 3) := by decide +kernel
theorem dX8_copy_79 : decode cX8_copy 79 = .ok (.ifCond .eq 19, 3) := by decide +kernel
theorem dX8_copy_82 : decode cX8_copy 82 = .ok (.aload_n 0, 1) := by decide +kernel
theorem dX8_copy_83 : decode cX8_copy 83 = .ok (.getfield 59, 3) := by decide +kernel
theorem dX8_copy_86 : decode cX8_copy 86 = .ok (.iload_n 3, 1) := by decide +kernel
theorem dX8_copy_87 : decode cX8_copy 87 = .ok (.aaload, 1) := by decide +kernel
theorem dX8_copy_88 : decode cX8_copy 88 = .ok (.iload 4, 2) := by decide +kernel
theorem dX8_copy_90 : decode cX8_copy 90 = .ok (.iload 5, 2) := by decide +kernel
theorem dX8_copy_92 : decode cX8_copy 92 = .ok (.invokevirtual 304, 3) := by decide +kernel
theorem dX8_copy_95 : decode cX8_copy 95 = .ok (.ifCond .ne 6, 3) := by decide +kernel
theorem dX8_copy_98 : decode cX8_copy 98 = .ok (.bipush (-13), 2) := by decide +kernel
theorem dX8_copy_100 : decode cX8_copy 100 = .ok (.ireturn, 1) := by decide +kernel
theorem dX8_copy_101 : decode cX8_copy 101 = .ok (.aload_n 0, 1) := by decide +kernel
theorem dX8_copy_102 : decode cX8_copy 102 = .ok (.getfield 59, 3) := by decide +kernel
theorem dX8_copy_105 : decode cX8_copy 105 = .ok (.iload_n 1, 1) := by decide +kernel
theorem dX8_copy_106 : decode cX8_copy 106 = .ok (.aaload, 1) := by decide +kernel
theorem dX8_copy_107 : decode cX8_copy 107 = .ok (.getfield 308, 3) := by decide +kernel
theorem dX8_copy_110 : decode cX8_copy 110 = .ok (.iload_n 2, 1) := by decide +kernel
theorem dX8_copy_111 : decode cX8_copy 111 = .ok (.aload_n 0, 1) := by decide +kernel
theorem dX8_copy_112 : decode cX8_copy 112 = .ok (.getfield 59, 3) := by decide +kernel
theorem dX8_copy_115 : decode cX8_copy 115 = .ok (.iload_n 3, 1) := by decide +kernel
theorem dX8_copy_116 : decode cX8_copy 116 = .ok (.aaload, 1) := by decide +kernel
theorem dX8_copy_117 : decode cX8_copy 117 = .ok (.getfield 308, 3) := by decide +kernel
theorem dX8_copy_120 : decode cX8_copy 120 = .ok (.iload 4, 2) := by decide +kernel
theorem dX8_copy_122 : decode cX8_copy 122 = .ok (.iload 5, 2) := by decide +kernel
theorem dX8_copy_124 : decode cX8_copy 124 = .ok (.invokestatic 312, 3) := by decide +kernel
theorem dX8_copy_127 : decode cX8_copy 127 = .ok (.iload 5, 2) := by decide +kernel
theorem dX8_copy_129 : decode cX8_copy 129 = .ok (.ireturn, 1) := by decide +kernel
theorem dX8_within_0 : decode cX8_within 0 = .ok (.iload_n 0, 1) := by decide +kernel
theorem dX8_within_1 : decode cX8_within 1 = .ok (.iload_n 1, 1) := by decide +kernel
theorem dX8_within_2 : decode cX8_within 2 = .ok (.if_icmp .lt 12, 3) := by decide +kernel
theorem dX8_within_5 : decode cX8_within 5 = .ok (.iload_n 0, 1) := by decide +kernel
theorem dX8_within_6 : decode cX8_within 6 = .ok (.iload_n 2, 1) := by decide +kernel
theorem dX8_within_7 : decode cX8_within 7 = .ok (.if_icmp .gt 7, 3) := by decide +kernel
theorem dX8_within_10 : decode cX8_within 10 = .ok (.iconst 1, 1) := by decide +kernel
theorem dX8_within_11 : decode cX8_within 11 = .ok (.goto 4, 3) := by decide +kernel
theorem dX8_within_14 : decode cX8_within 14 = .ok (.iconst 0, 1) := by decide +kernel
theorem dX8_within_15 : decode cX8_within 15 = .ok (.ireturn, 1) := by decide +kernel
theorem dX8_isInch_0 : decode cX8_isInch 0 = .ok (.iload_n 0, 1) := by decide +kernel
theorem dX8_isInch_1 : decode cX8_isInch 1 = .ok (.iconst 0, 1) := by decide +kernel
theorem dX8_isInch_2 : decode cX8_isInch 2 = .ok (.bipush 11, 2) := by decide +kernel
theorem dX8_isInch_4 : decode cX8_isInch 4 = .ok (.invokestatic 64, 3) := by decide +kernel
theorem dX8_isInch_7 : decode cX8_isInch 7 = .ok (.ireturn, 1) := by decide +kernel
theorem dX8_isSheet_0 : decode cX8_isSheet 0 = .ok (.iload_n 0, 1) := by decide +kernel
theorem dX8_isSheet_1 : decode cX8_isSheet 1 = .ok (.iconst 0, 1) := by decide +kernel
theorem dX8_isSheet_2 : decode cX8_isSheet 2 = .ok (.iconst 3, 1) := by decide +kernel
theorem dX8_isSheet_3 : decode cX8_isSheet 3 = .ok (.invokestatic 64, 3) := by decide +kernel
theorem dX8_isSheet_6 : decode cX8_isSheet 6 = .ok (.ireturn, 1) := by decide +kernel
theorem dX8_isLane_0 : decode cX8_isLane 0 = .ok (.iload_n 0, 1) := by decide +kernel
theorem dX8_isLane_1 : decode cX8_isLane 1 = .ok (.iconst 0, 1) := by decide +kernel
theorem dX8_isLane_2 : decode cX8_isLane 2 = .ok (.iconst 3, 1) := by decide +kernel
theorem dX8_isLane_3 : decode cX8_isLane 3 = .ok (.invokestatic 64, 3) := by decide +kernel
theorem dX8_isLane_6 : decode cX8_isLane 6 = .ok (.ireturn, 1) := by decide +kernel
theorem dX8_isMan_0 : decode cX8_isMan 0 = .ok (.iload_n 1, 1) := by decide +kernel
theorem dX8_isMan_1 : decode cX8_isMan 1 = .ok (.iconst 0, 1) := by decide +kernel
theorem dX8_isMan_2 : decode cX8_isMan 2 = .ok (.aload_n 0, 1) := by decide +kernel
theorem dX8_isMan_3 : decode cX8_isMan 3 = .ok (.getfield 10, 3) := by decide +kernel
theorem dX8_isMan_6 : decode cX8_isMan 6 = .ok (.getfield 72, 3) := by decide +kernel
theorem dX8_isMan_9 : decode cX8_isMan 9 = .ok (.iconst 1, 1) := by decide +kernel
theorem dX8_isMan_10 : decode cX8_isMan 10 = .ok (.isub, 1) := by decide +kernel
theorem dX8_isMan_11 : decode cX8_isMan 11 = .ok (.invokestatic 64, 3) := by decide +kernel
theorem dX8_isMan_14 : decode cX8_isMan 14 = .ok (.ireturn, 1) := by decide +kernel
theorem dX8_inchOrNone_0 : decode cX8_inchOrNone 0 = .ok (.aload_n 0, 1) := by decide +kernel
theorem dX8_inchOrNone_1 : decode cX8_inchOrNone 1 = .ok (.iload_n 1, 1) := by decide +kernel
theorem dX8_inchOrNone_2 : decode cX8_inchOrNone 2 = .ok (.invokevirtual 113, 3) := by decide +kernel
theorem dX8_inchOrNone_5 : decode cX8_inchOrNone 5 = .ok (.ifCond .eq 12, 3) := by decide +kernel
theorem dX8_inchOrNone_8 : decode cX8_inchOrNone 8 = .ok (.aload_n 0, 1) := by decide +kernel
theorem dX8_inchOrNone_9 : decode cX8_inchOrNone 9 = .ok (.getfield 179, 3) := by decide +kernel
theorem dX8_inchOrNone_12 : decode cX8_inchOrNone 12 = .ok (.iload_n 1, 1) := by decide +kernel
theorem dX8_inchOrNone_13 : decode cX8_inchOrNone 13 = .ok (.iaload, 1) := by decide +kernel
theorem dX8_inchOrNone_14 : decode cX8_inchOrNone 14 = .ok (.goto 5, 3) := by decide +kernel
theorem dX8_inchOrNone_17 : decode cX8_inchOrNone 17 = .ok (.bipush (-4), 2) := by decide +kernel
theorem dX8_inchOrNone_19 : decode cX8_inchOrNone 19 = .ok (.ireturn, 1) := by decide +kernel
theorem dX8_lawPart_0 : decode cX8_lawPart 0 = .ok (.iload_n 1, 1) := by decide +kernel
theorem dX8_lawPart_1 : decode cX8_lawPart 1 = .ok (.ifCond .ne 11, 3) := by decide +kernel
theorem dX8_lawPart_4 : decode cX8_lawPart 4 = .ok (.aload_n 0, 1) := by decide +kernel
theorem dX8_lawPart_5 : decode cX8_lawPart 5 = .ok (.getfield 10, 3) := by decide +kernel
theorem dX8_lawPart_8 : decode cX8_lawPart 8 = .ok (.getfield 90, 3) := by decide +kernel
theorem dX8_lawPart_11 : decode cX8_lawPart 11 = .ok (.ireturn, 1) := by decide +kernel
theorem dX8_lawPart_12 : decode cX8_lawPart 12 = .ok (.iload_n 1, 1) := by decide +kernel
theorem dX8_lawPart_13 : decode cX8_lawPart 13 = .ok (.iconst 1, 1) := by decide +kernel
theorem dX8_lawPart_14 : decode cX8_lawPart 14 = .ok (.if_icmp .ne 13, 3) := by decide +kernel
theorem dX8_lawPart_17 : decode cX8_lawPart 17 = .ok (.aload_n 0, 1) := by decide +kernel
theorem dX8_lawPart_18 : decode cX8_lawPart 18 = .ok (.getfield 10, 3) := by decide +kernel
theorem dX8_lawPart_21 : decode cX8_lawPart 21 = .ok (.getfield 93, 3) := by decide +kernel
theorem dX8_lawPart_24 : decode cX8_lawPart 24 = .ok (.goto 10, 3) := by decide +kernel
theorem dX8_lawPart_27 : decode cX8_lawPart 27 = .ok (.aload_n 0, 1) := by decide +kernel
theorem dX8_lawPart_28 : decode cX8_lawPart 28 = .ok (.getfield 10, 3) := by decide +kernel
theorem dX8_lawPart_31 : decode cX8_lawPart 31 = .ok (.getfield 96, 3) := by decide +kernel
theorem dX8_lawPart_34 : decode cX8_lawPart 34 = .ok (.ireturn, 1) := by decide +kernel
theorem dX8_passNights_0 : decode cX8_passNights 0 = .ok (.iload_n 1, 1) := by decide +kernel
theorem dX8_passNights_1 : decode cX8_passNights 1 = .ok (.iconst 1, 1) := by decide +kernel
theorem dX8_passNights_2 : decode cX8_passNights 2 = .ok (.bipush 40, 2) := by decide +kernel
theorem dX8_passNights_4 : decode cX8_passNights 4 = .ok (.invokestatic 64, 3) := by decide +kernel
theorem dX8_passNights_7 : decode cX8_passNights 7 = .ok (.ifCond .ne 5, 3) := by decide +kernel
theorem dX8_passNights_10 : decode cX8_passNights 10 = .ok (.iconst (-1), 1) := by decide +kernel
theorem dX8_passNights_11 : decode cX8_passNights 11 = .ok (.ireturn, 1) := by decide +kernel
theorem dX8_passNights_12 : decode cX8_passNights 12 = .ok (.aload_n 0, 1) := by decide +kernel
theorem dX8_passNights_13 : decode cX8_passNights 13 = .ok (.getfield 10, 3) := by decide +kernel
theorem dX8_passNights_16 : decode cX8_passNights 16 = .ok (.getfield 162, 3) := by decide +kernel
theorem dX8_passNights_19 : decode cX8_passNights 19 = .ok (.iload_n 1, 1) := by decide +kernel
theorem dX8_passNights_20 : decode cX8_passNights 20 = .ok (.iadd, 1) := by decide +kernel
theorem dX8_passNights_21 : decode cX8_passNights 21 = .ok (.sipush 9999, 3) := by decide +kernel
theorem dX8_passNights_24 : decode cX8_passNights 24 = .ok (.if_icmp .le 6, 3) := by decide +kernel
theorem dX8_passNights_27 : decode cX8_passNights 27 = .ok (.bipush (-3), 2) := by decide +kernel
theorem dX8_passNights_29 : decode cX8_passNights 29 = .ok (.ireturn, 1) := by decide +kernel
theorem dX8_passNights_30 : decode cX8_passNights 30 = .ok (.iconst 0, 1) := by decide +kernel
theorem dX8_passNights_31 : decode cX8_passNights 31 = .ok (.istore_n 3, 1) := by decide +kernel
theorem dX8_passNights_32 : decode cX8_passNights 32 = .ok (.iload_n 3, 1) := by decide +kernel
theorem dX8_passNights_33 : decode cX8_passNights 33 = .ok (.iload_n 1, 1) := by decide +kernel
theorem dX8_passNights_34 : decode cX8_passNights 34 = .ok (.if_icmp .ge 38, 3) := by decide +kernel
theorem dX8_passNights_37 : decode cX8_passNights 37 = .ok (.aload_n 0, 1) := by decide +kernel
theorem dX8_passNights_38 : decode cX8_passNights 38 = .ok (.getfield 19, 3) := by decide +kernel
theorem dX8_passNights_41 : decode cX8_passNights 41 = .ok (.aload_n 0, 1) := by decide +kernel
theorem dX8_passNights_42 : decode cX8_passNights 42 = .ok (.getfield 10, 3) := by decide +kernel
theorem dX8_passNights_45 : decode cX8_passNights 45 = .ok (.invokevirtual 175, 3) := by decide +kernel
theorem dX8_passNights_48 : decode cX8_passNights 48 = .ok (.iload_n 2, 1) := by decide +kernel
theorem dX8_passNights_49 : decode cX8_passNights 49 = .ok (.ifCond .eq 10, 3) := by decide +kernel
theorem dX8_passNights_52 : decode cX8_passNights 52 = .ok (.aload_n 0, 1) := by decide +kernel
theorem dX8_passNights_53 : decode cX8_passNights 53 = .ok (.getfield 10, 3) := by decide +kernel
theorem dX8_passNights_56 : decode cX8_passNights 56 = .ok (.invokevirtual 318, 3) := by decide +kernel
theorem dX8_passNights_59 : decode cX8_passNights 59 = .ok (.aload_n 0, 1) := by decide +kernel
theorem dX8_passNights_60 : decode cX8_passNights 60 = .ok (.getfield 10, 3) := by decide +kernel
theorem dX8_passNights_63 : decode cX8_passNights 63 = .ok (.invokevirtual 321, 3) := by decide +kernel
theorem dX8_passNights_66 : decode cX8_passNights 66 = .ok (.iinc 3 1, 3) := by decide +kernel
theorem dX8_passNights_69 : decode cX8_passNights 69 = .ok (.goto (-37), 3) := by decide +kernel
theorem dX8_passNights_72 : decode cX8_passNights 72 = .ok (.aload_n 0, 1) := by decide +kernel
theorem dX8_passNights_73 : decode cX8_passNights 73 = .ok (.getfield 10, 3) := by decide +kernel
theorem dX8_passNights_76 : decode cX8_passNights 76 = .ok (.invokevirtual 133, 3) := by decide +kernel
theorem dX8_passNights_79 : decode cX8_passNights 79 = .ok (.ireturn, 1) := by decide +kernel
theorem dX9_in_0 : decode cX9_in 0 = .ok (.lload_n 0, 1) := by decide +kernel
theorem dX9_in_1 : decode cX9_in 1 = .ok (.lload_n 2, 1) := by decide +kernel
theorem dX9_in_2 : decode cX9_in 2 = .ok (.lcmp, 1) := by decide +kernel
theorem dX9_in_3 : decode cX9_in 3 = .ok (.ifCond .lt 14, 3) := by decide +kernel
theorem dX9_in_6 : decode cX9_in 6 = .ok (.lload_n 0, 1) := by decide +kernel
theorem dX9_in_7 : decode cX9_in 7 = .ok (.lload 4, 2) := by decide +kernel
theorem dX9_in_9 : decode cX9_in 9 = .ok (.lcmp, 1) := by decide +kernel
theorem dX9_in_10 : decode cX9_in 10 = .ok (.ifCond .gt 7, 3) := by decide +kernel
theorem dX9_in_13 : decode cX9_in 13 = .ok (.iconst 1, 1) := by decide +kernel
theorem dX9_in_14 : decode cX9_in 14 = .ok (.goto 4, 3) := by decide +kernel
theorem dX9_in_17 : decode cX9_in 17 = .ok (.iconst 0, 1) := by decide +kernel
theorem dX9_in_18 : decode cX9_in 18 = .ok (.ireturn, 1) := by decide +kernel
theorem dX9_init_0 : decode cX9_init 0 = .ok (.aload_n 0, 1) := by decide +kernel
theorem dX9_init_1 : decode cX9_init 1 = .ok (.invokespecial 1, 3) := by decide +kernel
theorem dX9_init_4 : decode cX9_init 4 = .ok (.aload_n 0, 1) := by decide +kernel
theorem dX9_init_5 : decode cX9_init 5 = .ok (.bipush 24, 2) := by decide +kernel
theorem dX9_init_7 : decode cX9_init 7 = .ok (.newarray .int, 2) := by decide +kernel
theorem dX9_init_9 : decode cX9_init 9 = .ok (.putfield 7, 3) := by decide +kernel
theorem dX9_init_12 : decode cX9_init 12 = .ok (.aload_n 0, 1) := by decide +kernel
theorem dX9_init_13 : decode cX9_init 13 = .ok (.bipush 60, 2) := by decide +kernel
theorem dX9_init_15 : decode cX9_init 15 = .ok (.newarray .int, 2) := by decide +kernel
theorem dX9_init_17 : decode cX9_init 17 = .ok (.putfield 13, 3) := by decide +kernel
theorem dX9_init_20 : decode cX9_init 20 = .ok (.aload_n 0, 1) := by decide +kernel
theorem dX9_init_21 : decode cX9_init 21 = .ok (.iconst 3, 1) := by decide +kernel
theorem dX9_init_22 : decode cX9_init 22 = .ok (.newarray .int, 2) := by decide +kernel
theorem dX9_init_24 : decode cX9_init 24 = .ok (.putfield 16, 3) := by decide +kernel
theorem dX9_init_27 : decode cX9_init 27 = .ok (.aload_n 0, 1) := by decide +kernel
theorem dX9_init_28 : decode cX9_init 28 = .ok (.bipush 18, 2) := by decide +kernel
theorem dX9_init_30 : decode cX9_init 30 = .ok (.newarray .int, 2) := by decide +kernel
theorem dX9_init_32 : decode cX9_init 32 = .ok (.putfield 19, 3) := by decide +kernel
theorem dX9_init_35 : decode cX9_init 35 = .ok (.aload_n 0, 1) := by decide +kernel
theorem dX9_init_36 : decode cX9_init 36 = .ok (.bipush 112, 2) := by decide +kernel
theorem dX9_init_38 : decode cX9_init 38 = .ok (.newarray .int, 2) := by decide +kernel
theorem dX9_init_40 : decode cX9_init 40 = .ok (.putfield 22, 3) := by decide +kernel
theorem dX9_init_43 : decode cX9_init 43 = .ok (.aload_n 0, 1) := by decide +kernel
theorem dX9_init_44 : decode cX9_init 44 = .ok (.bipush 24, 2) := by decide +kernel
theorem dX9_init_46 : decode cX9_init 46 = .ok (.newarray .int, 2) := by decide +kernel
theorem dX9_init_48 : decode cX9_init 48 = .ok (.putfield 25, 3) := by decide +kernel
theorem dX9_init_51 : decode cX9_init 51 = .ok (.aload_n 0, 1) := by decide +kernel
theorem dX9_init_52 : decode cX9_init 52 = .ok (.bipush 6, 2) := by decide +kernel
theorem dX9_init_54 : decode cX9_init 54 = .ok (.newarray .int, 2) := by decide +kernel
theorem dX9_init_56 : decode cX9_init 56 = .ok (.putfield 28, 3) := by decide +kernel
theorem dX9_init_59 : decode cX9_init 59 = .ok (.aload_n 0, 1) := by decide +kernel
theorem dX9_init_60 : decode cX9_init 60 = .ok (.bipush 6, 2) := by decide +kernel
theorem dX9_init_62 : decode cX9_init 62 = .ok (.newarray .int, 2) := by decide +kernel
theorem dX9_init_64 : decode cX9_init 64 = .ok (.putfield 31, 3) := by decide +kernel
theorem dX9_init_67 : decode cX9_init 67 = .ok (.aload_n 0, 1) := by decide +kernel
theorem dX9_init_68 : decode cX9_init 68 = .ok (.sipush 136, 3) := by decide +kernel
theorem dX9_init_71 : decode cX9_init 71 = .ok (.newarray .int, 2) := by decide +kernel
theorem dX9_init_73 : decode cX9_init 73 = .ok (.putfield 34, 3) := by decide +kernel
theorem dX9_init_76 : decode cX9_init 76 = .ok (.aload_n 0, 1) := by decide +kernel
theorem dX9_init_77 : decode cX9_init 77 = .ok (.iconst 4, 1) := by decide +kernel
theorem dX9_init_78 : decode cX9_init 78 = .ok (.newarray .int, 2) := by decide +kernel
theorem dX9_init_80 : decode cX9_init 80 = .ok (.putfield 37, 3) := by decide +kernel
theorem dX9_init_83 : decode cX9_init 83 = .ok (.aload_n 0, 1) := by decide +kernel
theorem dX9_init_84 : decode cX9_init 84 = .ok (.iconst 4, 1) := by decide +kernel
theorem dX9_init_85 : decode cX9_init 85 = .ok (.newarray .int, 2) := by decide +kernel
theorem dX9_init_87 : decode cX9_init 87 = .ok (.putfield 40, 3) := by decide +kernel
theorem dX9_init_90 : decode cX9_init 90 = .ok (.aload_n 0, 1) := by decide +kernel
theorem dX9_init_91 : decode cX9_init 91 = .ok (.bipush 96, 2) := by decide +kernel
theorem dX9_init_93 : decode cX9_init 93 = .ok (.newarray .long, 2) := by decide +kernel
theorem dX9_init_95 : decode cX9_init 95 = .ok (.putfield 43, 3) := by decide +kernel
theorem dX9_init_98 : decode cX9_init 98 = .ok (.aload_n 0, 1) := by decide +kernel
theorem dX9_init_99 : decode cX9_init 99 = .ok (.bipush 24, 2) := by decide +kernel
theorem dX9_init_101 : decode cX9_init 101 = .ok (.newarray .long, 2) := by decide +kernel
theorem dX9_init_103 : decode cX9_init 103 = .ok (.putfield 47, 3) := by decide +kernel
theorem dX9_init_106 : decode cX9_init 106 = .ok (.aload_n 0, 1) := by decide +kernel
theorem dX9_init_107 : decode cX9_init 107 = .ok (.getfield 7, 3) := by decide +kernel
theorem dX9_init_110 : decode cX9_init 110 = .ok (.iconst 3, 1) := by decide +kernel
theorem dX9_init_111 : decode cX9_init 111 = .ok (.iconst 1, 1) := by decide +kernel
theorem dX9_init_112 : decode cX9_init 112 = .ok (.iastore, 1) := by decide +kernel
theorem dX9_init_113 : decode cX9_init 113 = .ok (.aload_n 0, 1) := by decide +kernel
theorem dX9_init_114 : decode cX9_init 114 = .ok (.getfield 7, 3) := by decide +kernel
theorem dX9_init_117 : decode cX9_init 117 = .ok (.iconst 4, 1) := by decide +kernel
theorem dX9_init_118 : decode cX9_init 118 = .ok (.iconst 5, 1) := by decide +kernel
theorem dX9_init_119 : decode cX9_init 119 = .ok (.iastore, 1) := by decide +kernel
theorem dX9_init_120 : decode cX9_init 120 = .ok (.aload_n 0, 1) := by decide +kernel
theorem dX9_init_121 : decode cX9_init 121 = .ok (.getfield 7, 3) := by decide +kernel
theorem dX9_init_124 : decode cX9_init 124 = .ok (.iconst 5, 1) := by decide +kernel
theorem dX9_init_125 : decode cX9_init 125 = .ok (.iconst 1, 1) := by decide +kernel
theorem dX9_init_126 : decode cX9_init 126 = .ok (.iastore, 1) := by decide +kernel
theorem dX9_init_127 : decode cX9_init 127 = .ok (.iconst 0, 1) := by decide +kernel
theorem dX9_init_128 : decode cX9_init 128 = .ok (.istore_n 1, 1) := by decide +kernel
theorem dX9_init_129 : decode cX9_init 129 = .ok (.iload_n 1, 1) := by decide +kernel
theorem dX9_init_130 : decode cX9_init 130 = .ok (.iconst 4, 1) := by decide +kernel
theorem dX9_init_131 : decode cX9_init 131 = .ok (.if_icmp .ge 16, 3) := by decide +kernel
theorem dX9_init_134 : decode cX9_init 134 = .ok (.aload_n 0, 1) := by decide +kernel
theorem dX9_init_135 : decode cX9_init 135 = .ok (.getfield 37, 3) := by decide +kernel
theorem dX9_init_138 : decode cX9_init 138 = .ok (.iload_n 1, 1) := by decide +kernel
theorem dX9_init_139 : decode cX9_init 139 = .ok (.iconst (-1), 1) := by decide +kernel
theorem dX9_init_140 : decode cX9_init 140 = .ok (.iastore, 1) := by decide +kernel
theorem dX9_init_141 : decode cX9_init 141 = .ok (.iinc 1 1, 3) := by decide +kernel
theorem dX9_init_144 : decode cX9_init 144 = .ok (.goto (-15), 3) := by decide +kernel
theorem dX9_init_147 : decode cX9_init 147 = .ok (.return_, 1) := by decide +kernel
theorem dX9_isMan_0 : decode cX9_isMan 0 = .ok (.iload_n 1, 1) := by decide +kernel
theorem dX9_isMan_1 : decode cX9_isMan 1 = .ok (.i2l, 1) := by decide +kernel
theorem dX9_isMan_2 : decode cX9_isMan 2 = .ok (.lconst 0, 1) := by decide +kernel
theorem dX9_isMan_3 : decode cX9_isMan 3 = .ok (.aload_n 0, 1) := by decide +kernel
theorem dX9_isMan_4 : decode cX9_isMan 4 = .ok (.getfield 7, 3) := by decide +kernel
theorem dX9_isMan_7 : decode cX9_isMan 7 = .ok (.iconst 0, 1) := by decide +kernel
theorem dX9_isMan_8 : decode cX9_isMan 8 = .ok (.iaload, 1) := by decide +kernel
theorem dX9_isMan_9 : decode cX9_isMan 9 = .ok (.iconst 1, 1) := by decide +kernel
theorem dX9_isMan_10 : decode cX9_isMan 10 = .ok (.isub, 1) := by decide +kernel
theorem dX9_isMan_11 : decode cX9_isMan 11 = .ok (.i2l, 1) := by decide +kernel
theorem dX9_isMan_12 : decode cX9_isMan 12 = .ok (.invokestatic 50, 3) := by decide +kernel
theorem dX9_isMan_15 : decode cX9_isMan 15 = .ok (.ireturn, 1) := by decide +kernel
theorem dX9_isInch_0 : decode cX9_isInch 0 = .ok (.iload_n 0, 1) := by decide +kernel
theorem dX9_isInch_1 : decode cX9_isInch 1 = .ok (.i2l, 1) := by decide +kernel
theorem dX9_isInch_2 : decode cX9_isInch 2 = .ok (.lconst 0, 1) := by decide +kernel
theorem dX9_isInch_3 : decode cX9_isInch 3 = .ok (.ldc2_w 54, 3) := by decide +kernel
theorem dX9_isInch_6 : decode cX9_isInch 6 = .ok (.invokestatic 50, 3) := by decide +kernel
theorem dX9_isInch_9 : decode cX9_isInch 9 = .ok (.ireturn, 1) := by decide +kernel
theorem dX9_told_0 : decode cX9_told 0 = .ok (.aload_n 0, 1) := by decide +kernel
theorem dX9_told_1 : decode cX9_told 1 = .ok (.getfield 7, 3) := by decide +kernel
theorem dX9_told_4 : decode cX9_told 4 = .ok (.bipush 6, 2) := by decide +kernel
theorem dX9_told_6 : decode cX9_told 6 = .ok (.iconst 3, 1) := by decide +kernel
theorem dX9_told_7 : decode cX9_told 7 = .ok (.iload_n 1, 1) := by decide +kernel
theorem dX9_told_8 : decode cX9_told 8 = .ok (.imul, 1) := by decide +kernel
theorem dX9_told_9 : decode cX9_told 9 = .ok (.iadd, 1) := by decide +kernel
theorem dX9_told_10 : decode cX9_told 10 = .ok (.iload_n 2, 1) := by decide +kernel
theorem dX9_told_11 : decode cX9_told 11 = .ok (.iadd, 1) := by decide +kernel
theorem dX9_told_12 : decode cX9_told 12 = .ok (.iaload, 1) := by decide +kernel
theorem dX9_told_13 : decode cX9_told 13 = .ok (.ireturn, 1) := by decide +kernel
theorem dX9_paintOf_0 : decode cX9_paintOf 0 = .ok (.aload_n 0, 1) := by decide +kernel
theorem dX9_paintOf_1 : decode cX9_paintOf 1 = .ok (.iload_n 1, 1) := by decide +kernel
theorem dX9_paintOf_2 : decode cX9_paintOf 2 = .ok (.iconst 1, 1) := by decide +kernel
theorem dX9_paintOf_3 : decode cX9_paintOf 3 = .ok (.invokevirtual 56, 3) := by decide +kernel
theorem dX9_paintOf_6 : decode cX9_paintOf 6 = .ok (.ireturn, 1) := by decide +kernel
theorem dX9_inchOf_0 : decode cX9_inchOf 0 = .ok (.aload_n 0, 1) := by decide +kernel
theorem dX9_inchOf_1 : decode cX9_inchOf 1 = .ok (.iload_n 1, 1) := by decide +kernel
theorem dX9_inchOf_2 : decode cX9_inchOf 2 = .ok (.iconst 2, 1) := by decide +kernel
theorem dX9_inchOf_3 : decode cX9_inchOf 3 = .ok (.invokevirtual 56, 3) := by decide +kernel
theorem dX9_inchOf_6 : decode cX9_inchOf 6 = .ok (.ireturn, 1) := by decide +kernel
theorem dX9_stands_0 : decode cX9_stands 0 = .ok (.aload_n 0, 1) := by decide +kernel
theorem dX9_stands_1 : decode cX9_stands 1 = .ok (.iload_n 1, 1) := by decide +kernel
theorem dX9_stands_2 : decode cX9_stands 2 = .ok (.invokevirtual 60, 3) := by decide +kernel
theorem dX9_stands_5 : decode cX9_stands 5 = .ok (.bipush (-4), 2) := by decide +kernel
theorem dX9_stands_7 : decode cX9_stands 7 = .ok (.if_icmp .eq 7, 3) := by decide +kernel
theorem dX9_stands_10 : decode cX9_stands 10 = .ok (.iconst 1, 1) := by decide +kernel
theorem dX9_stands_11 : decode cX9_stands 11 = .ok (.goto 4, 3) := by decide +kernel
theorem dX9_stands_14 : decode cX9_stands 14 = .ok (.iconst 0, 1) := by decide +kernel
theorem dX9_stands_15 : decode cX9_stands 15 = .ok (.ireturn, 1) := by decide +kernel
theorem dX9_paints_0 : decode cX9_paints 0 = .ok (.aload_n 0, 1) := by decide +kernel
theorem dX9_paints_1 : decode cX9_paints 1 = .ok (.getfield 7, 3) := by decide +kernel
theorem dX9_paints_4 : decode cX9_paints 4 = .ok (.bipush 6, 2) := by decide +kernel
theorem dX9_paints_6 : decode cX9_paints 6 = .ok (.iconst 3, 1) := by decide +kernel
theorem dX9_paints_7 : decode cX9_paints 7 = .ok (.iload_n 1, 1) := by decide +kernel
theorem dX9_paints_8 : decode cX9_paints 8 = .ok (.imul, 1) := by decide +kernel
theorem dX9_paints_9 : decode cX9_paints 9 = .ok (.iadd, 1) := by decide +kernel
theorem dX9_paints_10 : decode cX9_paints 10 = .ok (.iconst 1, 1) := by decide +kernel
theorem dX9_paints_11 : decode cX9_paints 11 = .ok (.iadd, 1) := by decide +kernel
theorem dX9_paints_12 : decode cX9_paints 12 = .ok (.iload_n 2, 1) := by decide +kernel
theorem dX9_paints_13 : decode cX9_paints 13 = .ok (.ifCond .ge 7, 3) := by decide +kernel
theorem dX9_paints_16 : decode cX9_paints 16 = .ok (.iconst 0, 1) := by decide +kernel
theorem dX9_paints_17 : decode cX9_paints 17 = .ok (.goto 15, 3) := by decide +kernel
theorem dX9_paints_20 : decode cX9_paints 20 = .ok (.iload_n 2, 1) := by decide +kernel
theorem dX9_paints_21 : decode cX9_paints 21 = .ok (.bipush 9, 2) := by decide +kernel
theorem dX9_paints_23 : decode cX9_paints 23 = .ok (.if_icmp .le 8, 3) := by decide +kernel
theorem dX9_paints_26 : decode cX9_paints 26 = .ok (.bipush 9, 2) := by decide +kernel
theorem dX9_paints_28 : decode cX9_paints 28 = .ok (.goto 4, 3) := by decide +kernel
theorem dX9_paints_31 : decode cX9_paints 31 = .ok (.iload_n 2, 1) := by decide +kernel
theorem dX9_paints_32 : decode cX9_paints 32 = .ok (.iastore, 1) := by decide +kernel
theorem dX9_paints_33 : decode cX9_paints 33 = .ok (.return_, 1) := by decide +kernel
theorem dX9_goesTo_0 : decode cX9_goesTo 0 = .ok (.aload_n 0, 1) := by decide +kernel
theorem dX9_goesTo_1 : decode cX9_goesTo 1 = .ok (.getfield 7, 3) := by decide +kernel
theorem dX9_goesTo_4 : decode cX9_goesTo 4 = .ok (.bipush 6, 2) := by decide +kernel
theorem dX9_goesTo_6 : decode cX9_goesTo 6 = .ok (.iconst 3, 1) := by decide +kernel
theorem dX9_goesTo_7 : decode cX9_goesTo 7 = .ok (.iload_n 1, 1) := by decide +kernel
theorem dX9_goesTo_8 : decode cX9_goesTo 8 = .ok (.imul, 1) := by decide +kernel
theorem dX9_goesTo_9 : decode cX9_goesTo 9 = .ok (.iadd, 1) := by decide +kernel
theorem dX9_goesTo_10 : decode cX9_goesTo 10 = .ok (.iconst 2, 1) := by decide +kernel
theorem dX9_goesTo_11 : decode cX9_goesTo 11 = .ok (.iadd, 1) := by decide +kernel
theorem dX9_goesTo_12 : decode cX9_goesTo 12 = .ok (.iload_n 2, 1) := by decide +kernel
theorem dX9_goesTo_13 : decode cX9_goesTo 13 = .ok (.iastore, 1) := by decide +kernel
theorem dX9_goesTo_14 : decode cX9_goesTo 14 = .ok (.return_, 1) := by decide +kernel
theorem dX9_whoAt_0 : decode cX9_whoAt 0 = .ok (.bipush (-4), 2) := by decide +kernel
theorem dX9_whoAt_2 : decode cX9_whoAt 2 = .ok (.istore_n 2, 1) := by decide +kernel
theorem dX9_whoAt_3 : decode cX9_whoAt 3 = .ok (.iconst 0, 1) := by decide +kernel
theorem dX9_whoAt_4 : decode cX9_whoAt 4 = .ok (.istore_n 3, 1) := by decide +kernel
theorem dX9_whoAt_5 : decode cX9_whoAt 5 = .ok (.iload_n 3, 1) := by decide +kernel
theorem dX9_whoAt_6 : decode cX9_whoAt 6 = .ok (.aload_n 0, 1) := by decide +kernel
theorem dX9_whoAt_7 : decode cX9_whoAt 7 = .ok (.getfield 7, 3) := by decide +kernel
theorem dX9_whoAt_10 : decode cX9_whoAt 10 = .ok (.iconst 0, 1) := by decide +kernel
theorem dX9_whoAt_11 : decode cX9_whoAt 11 = .ok (.iaload, 1) := by decide +kernel
theorem dX9_whoAt_12 : decode cX9_whoAt 12 = .ok (.if_icmp .ge 24, 3) := by decide +kernel
theorem dX9_whoAt_15 : decode cX9_whoAt 15 = .ok (.aload_n 0, 1) := by decide +kernel
theorem dX9_whoAt_16 : decode cX9_whoAt 16 = .ok (.iload_n 3, 1) := by decide +kernel
theorem dX9_whoAt_17 : decode cX9_whoAt 17 = .ok (.invokevirtual 60, 3) := by decide +kernel
theorem dX9_whoAt_20 : decode cX9_whoAt 20 = .ok (.iload_n 1, 1) := by decide +kernel
theorem dX9_whoAt_21 : decode cX9_whoAt 21 = .ok (.if_icmp .ne 7, 3) := by decide +kernel
theorem dX9_whoAt_24 : decode cX9_whoAt 24 = .ok (.iload_n 3, 1) := by decide +kernel
theorem dX9_whoAt_25 : decode cX9_whoAt 25 = .ok (.goto 4, 3) := by decide +kernel
theorem dX9_whoAt_28 : decode cX9_whoAt 28 = .ok (.iload_n 2, 1) := by decide +kernel
theorem dX9_whoAt_29 : decode cX9_whoAt 29 = .ok (.istore_n 2, 1) := by decide +kernel
theorem dX9_whoAt_30 : decode cX9_whoAt 30 = .ok (.iinc 3 1, 3) := by decide +kernel
theorem dX9_whoAt_33 : decode cX9_whoAt 33 = .ok (.goto (-28), 3) := by decide +kernel
theorem dX9_whoAt_36 : decode cX9_whoAt 36 = .ok (.iload_n 2, 1) := by decide +kernel
theorem dX9_whoAt_37 : decode cX9_whoAt 37 = .ok (.ireturn, 1) := by decide +kernel
theorem dX9_apart_0 : decode cX9_apart 0 = .ok (.iload_n 0, 1) := by decide +kernel
theorem dX9_apart_1 : decode cX9_apart 1 = .ok (.iload_n 1, 1) := by decide +kernel
theorem dX9_apart_2 : decode cX9_apart 2 = .ok (.if_icmp .ge 9, 3) := by decide +kernel
theorem dX9_apart_5 : decode cX9_apart 5 = .ok (.iload_n 1, 1) := by decide +kernel
theorem dX9_apart_6 : decode cX9_apart 6 = .ok (.iload_n 0, 1) := by decide +kernel
theorem dX9_apart_7 : decode cX9_apart 7 = .ok (.isub, 1) := by decide +kernel
theorem dX9_apart_8 : decode cX9_apart 8 = .ok (.goto 6, 3) := by decide +kernel
theorem dX9_apart_11 : decode cX9_apart 11 = .ok (.iload_n 0, 1) := by decide +kernel
theorem dX9_apart_12 : decode cX9_apart 12 = .ok (.iload_n 1, 1) := by decide +kernel
theorem dX9_apart_13 : decode cX9_apart 13 = .ok (.isub, 1) := by decide +kernel
theorem dX9_apart_14 : decode cX9_apart 14 = .ok (.ireturn, 1) := by decide +kernel
theorem dX9_high_0 : decode cX9_high 0 = .ok (.aload_n 0, 1) := by decide +kernel
theorem dX9_high_1 : decode cX9_high 1 = .ok (.getfield 7, 3) := by decide +kernel
theorem dX9_high_4 : decode cX9_high 4 = .ok (.iconst 2, 1) := by decide +kernel
theorem dX9_high_5 : decode cX9_high 5 = .ok (.iaload, 1) := by decide +kernel
theorem dX9_high_6 : decode cX9_high 6 = .ok (.i2l, 1) := by decide +kernel
theorem dX9_high_7 : decode cX9_high 7 = .ok (.aload_n 0, 1) := by decide +kernel
theorem dX9_high_8 : decode cX9_high 8 = .ok (.getfield 7, 3) := by decide +kernel
theorem dX9_high_11 : decode cX9_high 11 = .ok (.iconst 1, 1) := by decide +kernel
theorem dX9_high_12 : decode cX9_high 12 = .ok (.iaload, 1) := by decide +kernel
theorem dX9_high_13 : decode cX9_high 13 = .ok (.iload_n 2, 1) := by decide +kernel
theorem dX9_high_14 : decode cX9_high 14 = .ok (.iadd, 1) := by decide +kernel
theorem dX9_high_15 : decode cX9_high 15 = .ok (.i2l, 1) := by decide +kernel
theorem dX9_high_16 : decode cX9_high 16 = .ok (.aload_n 0, 1) := by decide +kernel
theorem dX9_high_17 : decode cX9_high 17 = .ok (.getfield 7, 3) := by decide +kernel
theorem dX9_high_20 : decode cX9_high 20 = .ok (.iconst 3, 1) := by decide +kernel
theorem dX9_high_21 : decode cX9_high 21 = .ok (.iaload, 1) := by decide +kernel
theorem dX9_high_22 : decode cX9_high 22 = .ok (.i2l, 1) := by decide +kernel
theorem dX9_high_23 : decode cX9_high 23 = .ok (.lmul, 1) := by decide +kernel
theorem dX9_high_24 : decode cX9_high 24 = .ok (.ladd, 1) := by decide +kernel
theorem dX9_high_25 : decode cX9_high 25 = .ok (.ldc2_w 64, 3) := by decide +kernel
theorem dX9_high_28 : decode cX9_high 28 = .ok (.lrem, 1) := by decide +kernel
theorem dX9_high_29 : decode cX9_high 29 = .ok (.l2i, 1) := by decide +kernel
theorem dX9_high_30 : decode cX9_high 30 = .ok (.istore_n 3, 1) := by decide +kernel
theorem dX9_high_31 : decode cX9_high 31 = .ok (.aload_n 0, 1) := by decide +kernel
theorem dX9_high_32 : decode cX9_high 32 = .ok (.getfield 7, 3) := by decide +kernel
theorem dX9_high_35 : decode cX9_high 35 = .ok (.iconst 4, 1) := by decide +kernel
theorem dX9_high_36 : decode cX9_high 36 = .ok (.iaload, 1) := by decide +kernel
theorem dX9_high_37 : decode cX9_high 37 = .ok (.iload_n 3, 1) := by decide +kernel
theorem dX9_high_38 : decode cX9_high 38 = .ok (.iload_n 1, 1) := by decide +kernel
theorem dX9_high_39 : decode cX9_high 39 = .ok (.invokestatic 66, 3) := by decide +kernel
theorem dX9_high_42 : decode cX9_high 42 = .ok (.isub, 1) := by decide +kernel
theorem dX9_high_43 : decode cX9_high 43 = .ok (.istore 4, 2) := by decide +kernel
theorem dX9_high_45 : decode cX9_high 45 = .ok (.iload 4, 2) := by decide +kernel
theorem dX9_high_47 : decode cX9_high 47 = .ok (.ifCond .ge 7, 3) := by decide +kernel
theorem dX9_high_50 : decode cX9_high 50 = .ok (.iconst 0, 1) := by decide +kernel
theorem dX9_high_51 : decode cX9_high 51 = .ok (.goto 5, 3) := by decide +kernel
theorem dX9_high_54 : decode cX9_high 54 = .ok (.iload 4, 2) := by decide +kernel
theorem dX9_high_56 : decode cX9_high 56 = .ok (.ireturn, 1) := by decide +kernel
theorem dX9_besides_0 : decode cX9_besides 0 = .ok (.iconst 0, 1) := by decide +kernel
theorem dX9_besides_1 : decode cX9_besides 1 = .ok (.istore_n 2, 1) := by decide +kernel
theorem dX9_besides_2 : decode cX9_besides 2 = .ok (.iconst 0, 1) := by decide +kernel
theorem dX9_besides_3 : decode cX9_besides 3 = .ok (.istore_n 3, 1) := by decide +kernel
theorem dX9_besides_4 : decode cX9_besides 4 = .ok (.iload_n 3, 1) := by decide +kernel
theorem dX9_besides_5 : decode cX9_besides 5 = .ok (.aload_n 0, 1) := by decide +kernel
theorem dX9_besides_6 : decode cX9_besides 6 = .ok (.getfield 7, 3) := by decide +kernel
theorem dX9_besides_9 : decode cX9_besides 9 = .ok (.iconst 0, 1) := by decide +kernel
theorem dX9_besides_10 : decode cX9_besides 10 = .ok (.iaload, 1) := by decide +kernel
theorem dX9_besides_11 : decode cX9_besides 11 = .ok (.if_icmp .ge 52, 3) := by decide +kernel
theorem dX9_besides_14 : decode cX9_besides 14 = .ok (.iload_n 2, 1) := by decide +kernel
theorem dX9_besides_15 : decode cX9_besides 15 = .ok (.aload_n 0, 1) := by decide +kernel
theorem dX9_besides_16 : decode cX9_besides 16 = .ok (.iload_n 1, 1) := by decide +kernel
theorem dX9_besides_17 : decode cX9_besides 17 = .ok (.invokevirtual 69, 3) := by decide +kernel
theorem dX9_besides_20 : decode cX9_besides 20 = .ok (.ifCond .eq 34, 3) := by decide +kernel
theorem dX9_besides_23 : decode cX9_besides 23 = .ok (.aload_n 0, 1) := by decide +kernel
theorem dX9_besides_24 : decode cX9_besides 24 = .ok (.iload_n 3, 1) := by decide +kernel
theorem dX9_besides_25 : decode cX9_besides 25 = .ok (.invokevirtual 69, 3) := by decide +kernel
theorem dX9_besides_28 : decode cX9_besides 28 = .ok (.ifCond .eq 26, 3) := by decide +kernel
theorem dX9_besides_31 : decode cX9_besides 31 = .ok (.aload_n 0, 1) := by decide +kernel
theorem dX9_besides_32 : decode cX9_besides 32 = .ok (.iload_n 3, 1) := by decide +kernel
theorem dX9_besides_33 : decode cX9_besides 33 = .ok (.invokevirtual 60, 3) := by decide +kernel
theorem dX9_besides_36 : decode cX9_besides 36 = .ok (.aload_n 0, 1) := by decide +kernel
theorem dX9_besides_37 : decode cX9_besides 37 = .ok (.iload_n 1, 1) := by decide +kernel
theorem dX9_besides_38 : decode cX9_besides 38 = .ok (.invokevirtual 60, 3) := by decide +kernel
theorem dX9_besides_41 : decode cX9_besides 41 = .ok (.invokestatic 66, 3) := by decide +kernel
theorem dX9_besides_44 : decode cX9_besides 44 = .ok (.iconst 1, 1) := by decide +kernel
theorem dX9_besides_45 : decode cX9_besides 45 = .ok (.if_icmp .ne 9, 3) := by decide +kernel
theorem dX9_besides_48 : decode cX9_besides 48 = .ok (.iconst 1, 1) := by decide +kernel
theorem dX9_besides_49 : decode cX9_besides 49 = .ok (.iload_n 3, 1) := by decide +kernel
theorem dX9_besides_50 : decode cX9_besides 50 = .ok (.ishl, 1) := by decide +kernel
theorem dX9_besides_51 : decode cX9_besides 51 = .ok (.goto 4, 3) := by decide +kernel
theorem dX9_besides_54 : decode cX9_besides 54 = .ok (.iconst 0, 1) := by decide +kernel
theorem dX9_besides_55 : decode cX9_besides 55 = .ok (.ior, 1) := by decide +kernel
theorem dX9_besides_56 : decode cX9_besides 56 = .ok (.istore_n 2, 1) := by decide +kernel
theorem dX9_besides_57 : decode cX9_besides 57 = .ok (.iinc 3 1, 3) := by decide +kernel
theorem dX9_besides_60 : decode cX9_besides 60 = .ok (.goto (-56), 3) := by decide +kernel
theorem dX9_besides_63 : decode cX9_besides 63 = .ok (.iload_n 2, 1) := by decide +kernel
theorem dX9_besides_64 : decode cX9_besides 64 = .ok (.ireturn, 1) := by decide +kernel
theorem dX9_standing_0 : decode cX9_standing 0 = .ok (.iconst 0, 1) := by decide +kernel
theorem dX9_standing_1 : decode cX9_standing 1 = .ok (.istore_n 1, 1) := by decide +kernel
theorem dX9_standing_2 : decode cX9_standing 2 = .ok (.iconst 0, 1) := by decide +kernel
theorem dX9_standing_3 : decode cX9_standing 3 = .ok (.istore_n 2, 1) := by decide +kernel
theorem dX9_standing_4 : decode cX9_standing 4 = .ok (.iload_n 2, 1) := by decide +kernel
theorem dX9_standing_5 : decode cX9_standing 5 = .ok (.aload_n 0, 1) := by decide +kernel
theorem dX9_standing_6 : decode cX9_standing 6 = .ok (.getfield 7, 3) := by decide +kernel
theorem dX9_standing_9 : decode cX9_standing 9 = .ok (.iconst 0, 1) := by decide +kernel
theorem dX9_standing_10 : decode cX9_standing 10 = .ok (.iaload, 1) := by decide +kernel
theorem dX9_standing_11 : decode cX9_standing 11 = .ok (.if_icmp .ge 27, 3) := by decide +kernel
theorem dX9_standing_14 : decode cX9_standing 14 = .ok (.iload_n 1, 1) := by decide +kernel
theorem dX9_standing_15 : decode cX9_standing 15 = .ok (.aload_n 0, 1) := by decide +kernel
theorem dX9_standing_16 : decode cX9_standing 16 = .ok (.iload_n 2, 1) := by decide +kernel
theorem dX9_standing_17 : decode cX9_standing 17 = .ok (.invokevirtual 69, 3) := by decide +kernel
theorem dX9_standing_20 : decode cX9_standing 20 = .ok (.ifCond .eq 9, 3) := by decide +kernel
theorem dX9_standing_23 : decode cX9_standing 23 = .ok (.iconst 1, 1) := by decide +kernel
theorem dX9_standing_24 : decode cX9_standing 24 = .ok (.iload_n 2, 1) := by decide +kernel
theorem dX9_standing_25 : decode cX9_standing 25 = .ok (.ishl, 1) := by decide +kernel
theorem dX9_standing_26 : decode cX9_standing 26 = .ok (.goto 4, 3) := by decide +kernel
theorem dX9_standing_29 : decode cX9_standing 29 = .ok (.iconst 0, 1) := by decide +kernel
theorem dX9_standing_30 : decode cX9_standing 30 = .ok (.ior, 1) := by decide +kernel
theorem dX9_standing_31 : decode cX9_standing 31 = .ok (.istore_n 1, 1) := by decide +kernel
theorem dX9_standing_32 : decode cX9_standing 32 = .ok (.iinc 2 1, 3) := by decide +kernel
theorem dX9_standing_35 : decode cX9_standing 35 = .ok (.goto (-31), 3) := by decide +kernel
theorem dX9_standing_38 : decode cX9_standing 38 = .ok (.iload_n 1, 1) := by decide +kernel
theorem dX9_standing_39 : decode cX9_standing 39 = .ok (.ireturn, 1) := by decide +kernel
theorem dX9_many_0 : decode cX9_many 0 = .ok (.iconst 0, 1) := by decide +kernel
theorem dX9_many_1 : decode cX9_many 1 = .ok (.istore_n 1, 1) := by decide +kernel
theorem dX9_many_2 : decode cX9_many 2 = .ok (.iload_n 0, 1) := by decide +kernel
theorem dX9_many_3 : decode cX9_many 3 = .ok (.istore_n 2, 1) := by decide +kernel
theorem dX9_many_4 : decode cX9_many 4 = .ok (.iload_n 2, 1) := by decide +kernel
theorem dX9_many_5 : decode cX9_many 5 = .ok (.ifCond .eq 15, 3) := by decide +kernel
theorem dX9_many_8 : decode cX9_many 8 = .ok (.iinc 1 1, 3) := by decide +kernel
theorem dX9_many_11 : decode cX9_many 11 = .ok (.iload_n 2, 1) := by decide +kernel
theorem dX9_many_12 : decode cX9_many 12 = .ok (.iload_n 2, 1) := by decide +kernel
theorem dX9_many_13 : decode cX9_many 13 = .ok (.iconst 1, 1) := by decide +kernel
theorem dX9_many_14 : decode cX9_many 14 = .ok (.isub, 1) := by decide +kernel
theorem dX9_many_15 : decode cX9_many 15 = .ok (.iand, 1) := by decide +kernel
theorem dX9_many_16 : decode cX9_many 16 = .ok (.istore_n 2, 1) := by decide +kernel
theorem dX9_many_17 : decode cX9_many 17 = .ok (.goto (-13), 3) := by decide +kernel
theorem dX9_many_20 : decode cX9_many 20 = .ok (.iload_n 1, 1) := by decide +kernel
theorem dX9_many_21 : decode cX9_many 21 = .ok (.ireturn, 1) := by decide +kernel
theorem dX9_grip_0 : decode cX9_grip 0 = .ok (.aload_n 0, 1) := by decide +kernel
theorem dX9_grip_1 : decode cX9_grip 1 = .ok (.iload_n 1, 1) := by decide +kernel
theorem dX9_grip_2 : decode cX9_grip 2 = .ok (.invokevirtual 73, 3) := by decide +kernel
theorem dX9_grip_5 : decode cX9_grip 5 = .ok (.iconst 2, 1) := by decide +kernel
theorem dX9_grip_6 : decode cX9_grip 6 = .ok (.iadd, 1) := by decide +kernel
theorem dX9_grip_7 : decode cX9_grip 7 = .ok (.istore_n 2, 1) := by decide +kernel
theorem dX9_grip_8 : decode cX9_grip 8 = .ok (.iload_n 2, 1) := by decide +kernel
theorem dX9_grip_9 : decode cX9_grip 9 = .ok (.aload_n 0, 1) := by decide +kernel
theorem dX9_grip_10 : decode cX9_grip 10 = .ok (.iload_n 1, 1) := by decide +kernel
theorem dX9_grip_11 : decode cX9_grip 11 = .ok (.invokevirtual 76, 3) := by decide +kernel
theorem dX9_grip_14 : decode cX9_grip 14 = .ok (.invokestatic 79, 3) := by decide +kernel
theorem dX9_grip_17 : decode cX9_grip 17 = .ok (.iadd, 1) := by decide +kernel
theorem dX9_grip_18 : decode cX9_grip 18 = .ok (.istore_n 3, 1) := by decide +kernel
theorem dX9_grip_19 : decode cX9_grip 19 = .ok (.aload_n 0, 1) := by decide +kernel
theorem dX9_grip_20 : decode cX9_grip 20 = .ok (.iload_n 1, 1) := by decide +kernel
theorem dX9_grip_21 : decode cX9_grip 21 = .ok (.invokevirtual 69, 3) := by decide +kernel
theorem dX9_grip_24 : decode cX9_grip 24 = .ok (.ifCond .ne 5, 3) := by decide +kernel
theorem dX9_grip_27 : decode cX9_grip 27 = .ok (.iconst 0, 1) := by decide +kernel
theorem dX9_grip_28 : decode cX9_grip 28 = .ok (.ireturn, 1) := by decide +kernel
theorem dX9_grip_29 : decode cX9_grip 29 = .ok (.aload_n 0, 1) := by decide +kernel
theorem dX9_grip_30 : decode cX9_grip 30 = .ok (.iload_n 1, 1) := by decide +kernel
theorem dX9_grip_31 : decode cX9_grip 31 = .ok (.iconst 0, 1) := by decide +kernel
theorem dX9_grip_32 : decode cX9_grip 32 = .ok (.invokevirtual 56, 3) := by decide +kernel
theorem dX9_grip_35 : decode cX9_grip 35 = .ok (.tableswitch 59 0 3 #[29, 31, 35, 37], 29) := by decide +kernel
theorem dX9_grip_64 : decode cX9_grip 64 = .ok (.iload_n 2, 1) := by decide +kernel
theorem dX9_grip_65 : decode cX9_grip 65 = .ok (.ireturn, 1) := by decide +kernel
theorem dX9_grip_66 : decode cX9_grip 66 = .ok (.iload_n 2, 1) := by decide +kernel
theorem dX9_grip_67 : decode cX9_grip 67 = .ok (.iconst 2, 1) := by decide +kernel
theorem dX9_grip_68 : decode cX9_grip 68 = .ok (.idiv, 1) := by decide +kernel
theorem dX9_grip_69 : decode cX9_grip 69 = .ok (.ireturn, 1) := by decide +kernel
theorem dX9_grip_70 : decode cX9_grip 70 = .ok (.iload_n 3, 1) := by decide +kernel
theorem dX9_grip_71 : decode cX9_grip 71 = .ok (.ireturn, 1) := by decide +kernel
theorem dX9_grip_72 : decode cX9_grip 72 = .ok (.iload_n 2, 1) := by decide +kernel
theorem dX9_grip_73 : decode cX9_grip 73 = .ok (.iconst 2, 1) := by decide +kernel
theorem dX9_grip_74 : decode cX9_grip 74 = .ok (.idiv, 1) := by decide +kernel
theorem dX9_grip_75 : decode cX9_grip 75 = .ok (.aload_n 0, 1) := by decide +kernel
theorem dX9_grip_76 : decode cX9_grip 76 = .ok (.getfield 7, 3) := by decide +kernel
theorem dX9_grip_79 : decode cX9_grip 79 = .ok (.iconst 1, 1) := by decide +kernel
theorem dX9_grip_80 : decode cX9_grip 80 = .ok (.iaload, 1) := by decide +kernel
theorem dX9_grip_81 : decode cX9_grip 81 = .ok (.iconst 2, 1) := by decide +kernel
theorem dX9_grip_82 : decode cX9_grip 82 = .ok (.irem, 1) := by decide +kernel
theorem dX9_grip_83 : decode cX9_grip 83 = .ok (.iconst 1, 1) := by decide +kernel
theorem dX9_grip_84 : decode cX9_grip 84 = .ok (.if_icmp .ne 7, 3) := by decide +kernel
theorem dX9_grip_87 : decode cX9_grip 87 = .ok (.iconst 3, 1) := by decide +kernel
theorem dX9_grip_88 : decode cX9_grip 88 = .ok (.goto 4, 3) := by decide +kernel
theorem dX9_grip_91 : decode cX9_grip 91 = .ok (.iconst 0, 1) := by decide +kernel
theorem dX9_grip_92 : decode cX9_grip 92 = .ok (.iadd, 1) := by decide +kernel
theorem dX9_grip_93 : decode cX9_grip 93 = .ok (.ireturn, 1) := by decide +kernel
theorem dX9_grip_94 : decode cX9_grip 94 = .ok (.iload_n 3, 1) := by decide +kernel
theorem dX9_grip_95 : decode cX9_grip 95 = .ok (.aload_n 0, 1) := by decide +kernel
theorem dX9_grip_96 : decode cX9_grip 96 = .ok (.getfield 7, 3) := by decide +kernel
theorem dX9_grip_99 : decode cX9_grip 99 = .ok (.iconst 0, 1) := by decide +kernel
theorem dX9_grip_100 : decode cX9_grip 100 = .ok (.iaload, 1) := by decide +kernel
theorem dX9_grip_101 : decode cX9_grip 101 = .ok (.iadd, 1) := by decide +kernel
theorem dX9_grip_102 : decode cX9_grip 102 = .ok (.aload_n 0, 1) := by decide +kernel
theorem dX9_grip_103 : decode cX9_grip 103 = .ok (.invokevirtual 82, 3) := by decide +kernel
theorem dX9_grip_106 : decode cX9_grip 106 = .ok (.invokestatic 79, 3) := by decide +kernel
theorem dX9_grip_109 : decode cX9_grip 109 = .ok (.isub, 1) := by decide +kernel
theorem dX9_grip_110 : decode cX9_grip 110 = .ok (.ireturn, 1) := by decide +kernel
theorem dX9_goesBy_0 : decode cX9_goesBy 0 = .ok (.iconst 0, 1) := by decide +kernel
theorem dX9_goesBy_1 : decode cX9_goesBy 1 = .ok (.istore_n 2, 1) := by decide +kernel
theorem dX9_goesBy_2 : decode cX9_goesBy 2 = .ok (.iconst 0, 1) := by decide +kernel
theorem dX9_goesBy_3 : decode cX9_goesBy 3 = .ok (.istore_n 3, 1) := by decide +kernel
theorem dX9_goesBy_4 : decode cX9_goesBy 4 = .ok (.iload_n 3, 1) := by decide +kernel
theorem dX9_goesBy_5 : decode cX9_goesBy 5 = .ok (.aload_n 0, 1) := by decide +kernel
theorem dX9_goesBy_6 : decode cX9_goesBy 6 = .ok (.getfield 7, 3) := by decide +kernel
theorem dX9_goesBy_9 : decode cX9_goesBy 9 = .ok (.iconst 0, 1) := by decide +kernel
theorem dX9_goesBy_10 : decode cX9_goesBy 10 = .ok (.iaload, 1) := by decide +kernel
theorem dX9_goesBy_11 : decode cX9_goesBy 11 = .ok (.if_icmp .ge 62, 3) := by decide +kernel
theorem dX9_goesBy_14 : decode cX9_goesBy 14 = .ok (.iload_n 1, 1) := by decide +kernel
theorem dX9_goesBy_15 : decode cX9_goesBy 15 = .ok (.iload_n 3, 1) := by decide +kernel
theorem dX9_goesBy_16 : decode cX9_goesBy 16 = .ok (.ishr, 1) := by decide +kernel
theorem dX9_goesBy_17 : decode cX9_goesBy 17 = .ok (.iconst 1, 1) := by decide +kernel
theorem dX9_goesBy_18 : decode cX9_goesBy 18 = .ok (.iand, 1) := by decide +kernel
theorem dX9_goesBy_19 : decode cX9_goesBy 19 = .ok (.iconst 1, 1) := by decide +kernel
theorem dX9_goesBy_20 : decode cX9_goesBy 20 = .ok (.if_icmp .ne 7, 3) := by decide +kernel
theorem dX9_goesBy_23 : decode cX9_goesBy 23 = .ok (.iconst 0, 1) := by decide +kernel
theorem dX9_goesBy_24 : decode cX9_goesBy 24 = .ok (.goto 8, 3) := by decide +kernel
theorem dX9_goesBy_27 : decode cX9_goesBy 27 = .ok (.aload_n 0, 1) := by decide +kernel
theorem dX9_goesBy_28 : decode cX9_goesBy 28 = .ok (.iload_n 3, 1) := by decide +kernel
theorem dX9_goesBy_29 : decode cX9_goesBy 29 = .ok (.invokevirtual 86, 3) := by decide +kernel
theorem dX9_goesBy_32 : decode cX9_goesBy 32 = .ok (.istore 4, 2) := by decide +kernel
theorem dX9_goesBy_34 : decode cX9_goesBy 34 = .ok (.iload_n 2, 1) := by decide +kernel
theorem dX9_goesBy_35 : decode cX9_goesBy 35 = .ok (.aload_n 0, 1) := by decide +kernel
theorem dX9_goesBy_36 : decode cX9_goesBy 36 = .ok (.iload_n 3, 1) := by decide +kernel
theorem dX9_goesBy_37 : decode cX9_goesBy 37 = .ok (.invokevirtual 69, 3) := by decide +kernel
theorem dX9_goesBy_40 : decode cX9_goesBy 40 = .ok (.ifCond .eq 24, 3) := by decide +kernel
theorem dX9_goesBy_43 : decode cX9_goesBy 43 = .ok (.iload 4, 2) := by decide +kernel
theorem dX9_goesBy_45 : decode cX9_goesBy 45 = .ok (.aload_n 0, 1) := by decide +kernel
theorem dX9_goesBy_46 : decode cX9_goesBy 46 = .ok (.aload_n 0, 1) := by decide +kernel
theorem dX9_goesBy_47 : decode cX9_goesBy 47 = .ok (.iload_n 3, 1) := by decide +kernel
theorem dX9_goesBy_48 : decode cX9_goesBy 48 = .ok (.invokevirtual 60, 3) := by decide +kernel
theorem dX9_goesBy_51 : decode cX9_goesBy 51 = .ok (.iconst 0, 1) := by decide +kernel
theorem dX9_goesBy_52 : decode cX9_goesBy 52 = .ok (.invokevirtual 89, 3) := by decide +kernel
theorem dX9_goesBy_55 : decode cX9_goesBy 55 = .ok (.if_icmp .ge 9, 3) := by decide +kernel
theorem dX9_goesBy_58 : decode cX9_goesBy 58 = .ok (.iconst 1, 1) := by decide +kernel
theorem dX9_goesBy_59 : decode cX9_goesBy 59 = .ok (.iload_n 3, 1) := by decide +kernel
theorem dX9_goesBy_60 : decode cX9_goesBy 60 = .ok (.ishl, 1) := by decide +kernel
theorem dX9_goesBy_61 : decode cX9_goesBy 61 = .ok (.goto 4, 3) := by decide +kernel
theorem dX9_goesBy_64 : decode cX9_goesBy 64 = .ok (.iconst 0, 1) := by decide +kernel
theorem dX9_goesBy_65 : decode cX9_goesBy 65 = .ok (.ior, 1) := by decide +kernel
theorem dX9_goesBy_66 : decode cX9_goesBy 66 = .ok (.istore_n 2, 1) := by decide +kernel
theorem dX9_goesBy_67 : decode cX9_goesBy 67 = .ok (.iinc 3 1, 3) := by decide +kernel
theorem dX9_goesBy_70 : decode cX9_goesBy 70 = .ok (.goto (-66), 3) := by decide +kernel
theorem dX9_goesBy_73 : decode cX9_goesBy 73 = .ok (.iconst 0, 1) := by decide +kernel
theorem dX9_goesBy_74 : decode cX9_goesBy 74 = .ok (.istore_n 3, 1) := by decide +kernel
theorem dX9_goesBy_75 : decode cX9_goesBy 75 = .ok (.iload_n 3, 1) := by decide +kernel
theorem dX9_goesBy_76 : decode cX9_goesBy 76 = .ok (.aload_n 0, 1) := by decide +kernel
theorem dX9_goesBy_77 : decode cX9_goesBy 77 = .ok (.getfield 7, 3) := by decide +kernel
theorem dX9_goesBy_80 : decode cX9_goesBy 80 = .ok (.iconst 0, 1) := by decide +kernel
theorem dX9_goesBy_81 : decode cX9_goesBy 81 = .ok (.iaload, 1) := by decide +kernel
theorem dX9_goesBy_82 : decode cX9_goesBy 82 = .ok (.if_icmp .ge 61, 3) := by decide +kernel
theorem dX9_goesBy_85 : decode cX9_goesBy 85 = .ok (.iload_n 2, 1) := by decide +kernel
theorem dX9_goesBy_86 : decode cX9_goesBy 86 = .ok (.iload_n 3, 1) := by decide +kernel
theorem dX9_goesBy_87 : decode cX9_goesBy 87 = .ok (.ishr, 1) := by decide +kernel
theorem dX9_goesBy_88 : decode cX9_goesBy 88 = .ok (.iconst 1, 1) := by decide +kernel
theorem dX9_goesBy_89 : decode cX9_goesBy 89 = .ok (.iand, 1) := by decide +kernel
theorem dX9_goesBy_90 : decode cX9_goesBy 90 = .ok (.iconst 1, 1) := by decide +kernel
theorem dX9_goesBy_91 : decode cX9_goesBy 91 = .ok (.if_icmp .ne 13, 3) := by decide +kernel
theorem dX9_goesBy_94 : decode cX9_goesBy 94 = .ok (.aload_n 0, 1) := by decide +kernel
theorem dX9_goesBy_95 : decode cX9_goesBy 95 = .ok (.iload_n 3, 1) := by decide +kernel
theorem dX9_goesBy_96 : decode cX9_goesBy 96 = .ok (.bipush (-4), 2) := by decide +kernel
theorem dX9_goesBy_98 : decode cX9_goesBy 98 = .ok (.invokevirtual 92, 3) := by decide +kernel
theorem dX9_goesBy_101 : decode cX9_goesBy 101 = .ok (.goto 36, 3) := by decide +kernel
theorem dX9_goesBy_104 : decode cX9_goesBy 104 = .ok (.aload_n 0, 1) := by decide +kernel
theorem dX9_goesBy_105 : decode cX9_goesBy 105 = .ok (.iload_n 3, 1) := by decide +kernel
theorem dX9_goesBy_106 : decode cX9_goesBy 106 = .ok (.invokevirtual 69, 3) := by decide +kernel
theorem dX9_goesBy_109 : decode cX9_goesBy 109 = .ok (.ifCond .eq 28, 3) := by decide +kernel
theorem dX9_goesBy_112 : decode cX9_goesBy 112 = .ok (.aload_n 0, 1) := by decide +kernel
theorem dX9_goesBy_113 : decode cX9_goesBy 113 = .ok (.aload_n 0, 1) := by decide +kernel
theorem dX9_goesBy_114 : decode cX9_goesBy 114 = .ok (.iload_n 3, 1) := by decide +kernel
theorem dX9_goesBy_115 : decode cX9_goesBy 115 = .ok (.invokevirtual 60, 3) := by decide +kernel
theorem dX9_goesBy_118 : decode cX9_goesBy 118 = .ok (.iconst 0, 1) := by decide +kernel
theorem dX9_goesBy_119 : decode cX9_goesBy 119 = .ok (.invokevirtual 89, 3) := by decide +kernel
theorem dX9_goesBy_122 : decode cX9_goesBy 122 = .ok (.ifCond .le 15, 3) := by decide +kernel
theorem dX9_goesBy_125 : decode cX9_goesBy 125 = .ok (.aload_n 0, 1) := by decide +kernel
theorem dX9_goesBy_126 : decode cX9_goesBy 126 = .ok (.iload_n 3, 1) := by decide +kernel
theorem dX9_goesBy_127 : decode cX9_goesBy 127 = .ok (.aload_n 0, 1) := by decide +kernel
theorem dX9_goesBy_128 : decode cX9_goesBy 128 = .ok (.iload_n 3, 1) := by decide +kernel
theorem dX9_goesBy_129 : decode cX9_goesBy 129 = .ok (.invokevirtual 73, 3) := by decide +kernel
theorem dX9_goesBy_132 : decode cX9_goesBy 132 = .ok (.iconst 1, 1) := by decide +kernel
theorem dX9_goesBy_133 : decode cX9_goesBy 133 = .ok (.isub, 1) := by decide +kernel
theorem dX9_goesBy_134 : decode cX9_goesBy 134 = .ok (.invokevirtual 96, 3) := by decide +kernel
theorem dX9_goesBy_137 : decode cX9_goesBy 137 = .ok (.iinc 3 1, 3) := by decide +kernel
theorem dX9_goesBy_140 : decode cX9_goesBy 140 = .ok (.goto (-65), 3) := by decide +kernel
theorem dX9_goesBy_143 : decode cX9_goesBy 143 = .ok (.aload_n 0, 1) := by decide +kernel
theorem dX9_goesBy_144 : decode cX9_goesBy 144 = .ok (.getfield 7, 3) := by decide +kernel
theorem dX9_goesBy_147 : decode cX9_goesBy 147 = .ok (.iconst 1, 1) := by decide +kernel
theorem dX9_goesBy_148 : decode cX9_goesBy 148 = .ok (.dup2, 1) := by decide +kernel
theorem dX9_goesBy_149 : decode cX9_goesBy 149 = .ok (.iaload, 1) := by decide +kernel
theorem dX9_goesBy_150 : decode cX9_goesBy 150 = .ok (.iconst 1, 1) := by decide +kernel
theorem dX9_goesBy_151 : decode cX9_goesBy 151 = .ok (.iadd, 1) := by decide +kernel
theorem dX9_goesBy_152 : decode cX9_goesBy 152 = .ok (.iastore, 1) := by decide +kernel
theorem dX9_goesBy_153 : decode cX9_goesBy 153 = .ok (.return_, 1) := by decide +kernel
theorem dX9_goesOn_0 : decode cX9_goesOn 0 = .ok (.iconst 0, 1) := by decide +kernel
theorem dX9_goesOn_1 : decode cX9_goesOn 1 = .ok (.istore_n 2, 1) := by decide +kernel
theorem dX9_goesOn_2 : decode cX9_goesOn 2 = .ok (.iload_n 2, 1) := by decide +kernel
theorem dX9_goesOn_3 : decode cX9_goesOn 3 = .ok (.iload_n 1, 1) := by decide +kernel
theorem dX9_goesOn_4 : decode cX9_goesOn 4 = .ok (.if_icmp .ge 14, 3) := by decide +kernel
theorem dX9_goesOn_7 : decode cX9_goesOn 7 = .ok (.aload_n 0, 1) := by decide +kernel
theorem dX9_goesOn_8 : decode cX9_goesOn 8 = .ok (.iconst 0, 1) := by decide +kernel
theorem dX9_goesOn_9 : decode cX9_goesOn 9 = .ok (.invokevirtual 99, 3) := by decide +kernel
theorem dX9_goesOn_12 : decode cX9_goesOn 12 = .ok (.iinc 2 1, 3) := by decide +kernel
theorem dX9_goesOn_15 : decode cX9_goesOn 15 = .ok (.goto (-13), 3) := by decide +kernel
theorem dX9_goesOn_18 : decode cX9_goesOn 18 = .ok (.return_, 1) := by decide +kernel
theorem dX9_manComes_0 : decode cX9_manComes 0 = .ok (.bipush 6, 2) := by decide +kernel
theorem dX9_manComes_2 : decode cX9_manComes 2 = .ok (.iconst 3, 1) := by decide +kernel
theorem dX9_manComes_3 : decode cX9_manComes 3 = .ok (.aload_n 0, 1) := by decide +kernel
theorem dX9_manComes_4 : decode cX9_manComes 4 = .ok (.getfield 7, 3) := by decide +kernel
theorem dX9_manComes_7 : decode cX9_manComes 7 = .ok (.iconst 0, 1) := by decide +kernel
theorem dX9_manComes_8 : decode cX9_manComes 8 = .ok (.iaload, 1) := by decide +kernel
theorem dX9_manComes_9 : decode cX9_manComes 9 = .ok (.imul, 1) := by decide +kernel
theorem dX9_manComes_10 : decode cX9_manComes 10 = .ok (.iadd, 1) := by decide +kernel
theorem dX9_manComes_11 : decode cX9_manComes 11 = .ok (.istore 4, 2) := by decide +kernel
theorem dX9_manComes_13 : decode cX9_manComes 13 = .ok (.aload_n 0, 1) := by decide +kernel
theorem dX9_manComes_14 : decode cX9_manComes 14 = .ok (.getfield 7, 3) := by decide +kernel
theorem dX9_manComes_17 : decode cX9_manComes 17 = .ok (.iload 4, 2) := by decide +kernel
theorem dX9_manComes_19 : decode cX9_manComes 19 = .ok (.iload_n 1, 1) := by decide +kernel
theorem dX9_manComes_20 : decode cX9_manComes 20 = .ok (.iastore, 1) := by decide +kernel
theorem dX9_manComes_21 : decode cX9_manComes 21 = .ok (.aload_n 0, 1) := by decide +kernel
theorem dX9_manComes_22 : decode cX9_manComes 22 = .ok (.getfield 7, 3) := by decide +kernel
theorem dX9_manComes_25 : decode cX9_manComes 25 = .ok (.iload 4, 2) := by decide +kernel
theorem dX9_manComes_27 : decode cX9_manComes 27 = .ok (.iconst 1, 1) := by decide +kernel
theorem dX9_manComes_28 : decode cX9_manComes 28 = .ok (.iadd, 1) := by decide +kernel
theorem dX9_manComes_29 : decode cX9_manComes 29 = .ok (.iload_n 2, 1) := by decide +kernel
theorem dX9_manComes_30 : decode cX9_manComes 30 = .ok (.iastore, 1) := by decide +kernel
theorem dX9_manComes_31 : decode cX9_manComes 31 = .ok (.aload_n 0, 1) := by decide +kernel
theorem dX9_manComes_32 : decode cX9_manComes 32 = .ok (.getfield 7, 3) := by decide +kernel
theorem dX9_manComes_35 : decode cX9_manComes 35 = .ok (.iload 4, 2) := by decide +kernel
theorem dX9_manComes_37 : decode cX9_manComes 37 = .ok (.iconst 2, 1) := by decide +kernel
theorem dX9_manComes_38 : decode cX9_manComes 38 = .ok (.iadd, 1) := by decide +kernel
theorem dX9_manComes_39 : decode cX9_manComes 39 = .ok (.iload_n 3, 1) := by decide +kernel
theorem dX9_manComes_40 : decode cX9_manComes 40 = .ok (.iastore, 1) := by decide +kernel
theorem dX9_manComes_41 : decode cX9_manComes 41 = .ok (.aload_n 0, 1) := by decide +kernel
theorem dX9_manComes_42 : decode cX9_manComes 42 = .ok (.getfield 7, 3) := by decide +kernel
theorem dX9_manComes_45 : decode cX9_manComes 45 = .ok (.iconst 0, 1) := by decide +kernel
theorem dX9_manComes_46 : decode cX9_manComes 46 = .ok (.dup2, 1) := by decide +kernel
theorem dX9_manComes_47 : decode cX9_manComes 47 = .ok (.iaload, 1) := by decide +kernel
theorem dX9_manComes_48 : decode cX9_manComes 48 = .ok (.iconst 1, 1) := by decide +kernel
theorem dX9_manComes_49 : decode cX9_manComes 49 = .ok (.iadd, 1) := by decide +kernel
theorem dX9_manComes_50 : decode cX9_manComes 50 = .ok (.iastore, 1) := by decide +kernel
theorem dX9_manComes_51 : decode cX9_manComes 51 = .ok (.aload_n 0, 1) := by decide +kernel
theorem dX9_manComes_52 : decode cX9_manComes 52 = .ok (.iconst 0, 1) := by decide +kernel
theorem dX9_manComes_53 : decode cX9_manComes 53 = .ok (.putfield 103, 3) := by decide +kernel
theorem dX9_manComes_56 : decode cX9_manComes 56 = .ok (.return_, 1) := by decide +kernel
theorem dX9_man_0 : decode cX9_man 0 = .ok (.iload_n 1, 1) := by decide +kernel
theorem dX9_man_1 : decode cX9_man 1 = .ok (.i2l, 1) := by decide +kernel
theorem dX9_man_2 : decode cX9_man 2 = .ok (.lconst 0, 1) := by decide +kernel
theorem dX9_man_3 : decode cX9_man 3 = .ok (.ldc2_w 107, 3) := by decide +kernel
theorem dX9_man_6 : decode cX9_man 6 = .ok (.invokestatic 50, 3) := by decide +kernel
theorem dX9_man_9 : decode cX9_man 9 = .ok (.ifCond .eq 22, 3) := by decide +kernel
theorem dX9_man_12 : decode cX9_man 12 = .ok (.iload_n 2, 1) := by decide +kernel
theorem dX9_man_13 : decode cX9_man 13 = .ok (.i2l, 1) := by decide +kernel
theorem dX9_man_14 : decode cX9_man 14 = .ok (.lconst 0, 1) := by decide +kernel
theorem dX9_man_15 : decode cX9_man 15 = .ok (.ldc2_w 109, 3) := by decide +kernel
theorem dX9_man_18 : decode cX9_man 18 = .ok (.invokestatic 50, 3) := by decide +kernel
theorem dX9_man_21 : decode cX9_man 21 = .ok (.ifCond .eq 10, 3) := by decide +kernel
theorem dX9_man_24 : decode cX9_man 24 = .ok (.iload_n 3, 1) := by decide +kernel
theorem dX9_man_25 : decode cX9_man 25 = .ok (.invokestatic 111, 3) := by decide +kernel
theorem dX9_man_28 : decode cX9_man 28 = .ok (.ifCond .ne 5, 3) := by decide +kernel
theorem dX9_man_31 : decode cX9_man 31 = .ok (.iconst (-1), 1) := by decide +kernel
theorem dX9_man_32 : decode cX9_man 32 = .ok (.ireturn, 1) := by decide +kernel
theorem dX9_man_33 : decode cX9_man 33 = .ok (.aload_n 0, 1) := by decide +kernel
theorem dX9_man_34 : decode cX9_man 34 = .ok (.getfield 7, 3) := by decide +kernel
theorem dX9_man_37 : decode cX9_man 37 = .ok (.iconst 0, 1) := by decide +kernel
theorem dX9_man_38 : decode cX9_man 38 = .ok (.iaload, 1) := by decide +kernel
theorem dX9_man_39 : decode cX9_man 39 = .ok (.bipush 6, 2) := by decide +kernel
theorem dX9_man_41 : decode cX9_man 41 = .ok (.if_icmp .ne 6, 3) := by decide +kernel
theorem dX9_man_44 : decode cX9_man 44 = .ok (.bipush (-3), 2) := by decide +kernel
theorem dX9_man_46 : decode cX9_man 46 = .ok (.ireturn, 1) := by decide +kernel
theorem dX9_man_47 : decode cX9_man 47 = .ok (.aload_n 0, 1) := by decide +kernel
theorem dX9_man_48 : decode cX9_man 48 = .ok (.iload_n 3, 1) := by decide +kernel
theorem dX9_man_49 : decode cX9_man 49 = .ok (.invokevirtual 114, 3) := by decide +kernel
theorem dX9_man_52 : decode cX9_man 52 = .ok (.bipush (-4), 2) := by decide +kernel
theorem dX9_man_54 : decode cX9_man 54 = .ok (.if_icmp .eq 6, 3) := by decide +kernel
theorem dX9_man_57 : decode cX9_man 57 = .ok (.bipush (-2), 2) := by decide +kernel
theorem dX9_man_59 : decode cX9_man 59 = .ok (.ireturn, 1) := by decide +kernel
theorem dX9_man_60 : decode cX9_man 60 = .ok (.aload_n 0, 1) := by decide +kernel
theorem dX9_man_61 : decode cX9_man 61 = .ok (.iload_n 1, 1) := by decide +kernel
theorem dX9_man_62 : decode cX9_man 62 = .ok (.iload_n 2, 1) := by decide +kernel
theorem dX9_man_63 : decode cX9_man 63 = .ok (.iload_n 3, 1) := by decide +kernel
theorem dX9_man_64 : decode cX9_man 64 = .ok (.invokevirtual 117, 3) := by decide +kernel
theorem dX9_man_67 : decode cX9_man 67 = .ok (.aload_n 0, 1) := by decide +kernel
theorem dX9_man_68 : decode cX9_man 68 = .ok (.getfield 7, 3) := by decide +kernel
theorem dX9_man_71 : decode cX9_man 71 = .ok (.iconst 0, 1) := by decide +kernel
theorem dX9_man_72 : decode cX9_man 72 = .ok (.iaload, 1) := by decide +kernel
theorem dX9_man_73 : decode cX9_man 73 = .ok (.iconst 1, 1) := by decide +kernel
theorem dX9_man_74 : decode cX9_man 74 = .ok (.isub, 1) := by decide +kernel
theorem dX9_man_75 : decode cX9_man 75 = .ok (.ireturn, 1) := by decide +kernel
theorem dX9_rule_0 : decode cX9_rule 0 = .ok (.iload_n 1, 1) := by decide +kernel
theorem dX9_rule_1 : decode cX9_rule 1 = .ok (.i2l, 1) := by decide +kernel
theorem dX9_rule_2 : decode cX9_rule 2 = .ok (.lconst 0, 1) := by decide +kernel
theorem dX9_rule_3 : decode cX9_rule 3 = .ok (.ldc2_w 121, 3) := by decide +kernel
theorem dX9_rule_6 : decode cX9_rule 6 = .ok (.invokestatic 50, 3) := by decide +kernel
theorem dX9_rule_9 : decode cX9_rule 9 = .ok (.ifCond .eq 26, 3) := by decide +kernel
theorem dX9_rule_12 : decode cX9_rule 12 = .ok (.iload_n 2, 1) := by decide +kernel
theorem dX9_rule_13 : decode cX9_rule 13 = .ok (.i2l, 1) := by decide +kernel
theorem dX9_rule_14 : decode cX9_rule 14 = .ok (.lconst 0, 1) := by decide +kernel
theorem dX9_rule_15 : decode cX9_rule 15 = .ok (.iload_n 1, 1) := by decide +kernel
theorem dX9_rule_16 : decode cX9_rule 16 = .ok (.iconst 2, 1) := by decide +kernel
theorem dX9_rule_17 : decode cX9_rule 17 = .ok (.if_icmp .ne 9, 3) := by decide +kernel
theorem dX9_rule_20 : decode cX9_rule 20 = .ok (.ldc2_w 64, 3) := by decide +kernel
theorem dX9_rule_23 : decode cX9_rule 23 = .ok (.goto 6, 3) := by decide +kernel
theorem dX9_rule_26 : decode cX9_rule 26 = .ok (.ldc2_w 54, 3) := by decide +kernel
theorem dX9_rule_29 : decode cX9_rule 29 = .ok (.invokestatic 50, 3) := by decide +kernel
theorem dX9_rule_32 : decode cX9_rule 32 = .ok (.ifCond .ne 5, 3) := by decide +kernel
theorem dX9_rule_35 : decode cX9_rule 35 = .ok (.iconst (-1), 1) := by decide +kernel
theorem dX9_rule_36 : decode cX9_rule 36 = .ok (.ireturn, 1) := by decide +kernel
theorem dX9_rule_37 : decode cX9_rule 37 = .ok (.aload_n 0, 1) := by decide +kernel
theorem dX9_rule_38 : decode cX9_rule 38 = .ok (.getfield 7, 3) := by decide +kernel
theorem dX9_rule_41 : decode cX9_rule 41 = .ok (.iconst 2, 1) := by decide +kernel
theorem dX9_rule_42 : decode cX9_rule 42 = .ok (.iload_n 1, 1) := by decide +kernel
theorem dX9_rule_43 : decode cX9_rule 43 = .ok (.iadd, 1) := by decide +kernel
theorem dX9_rule_44 : decode cX9_rule 44 = .ok (.iaload, 1) := by decide +kernel
theorem dX9_rule_45 : decode cX9_rule 45 = .ok (.istore_n 3, 1) := by decide +kernel
theorem dX9_rule_46 : decode cX9_rule 46 = .ok (.aload_n 0, 1) := by decide +kernel
theorem dX9_rule_47 : decode cX9_rule 47 = .ok (.getfield 7, 3) := by decide +kernel
theorem dX9_rule_50 : decode cX9_rule 50 = .ok (.iconst 2, 1) := by decide +kernel
theorem dX9_rule_51 : decode cX9_rule 51 = .ok (.iload_n 1, 1) := by decide +kernel
theorem dX9_rule_52 : decode cX9_rule 52 = .ok (.iadd, 1) := by decide +kernel
theorem dX9_rule_53 : decode cX9_rule 53 = .ok (.iload_n 2, 1) := by decide +kernel
theorem dX9_rule_54 : decode cX9_rule 54 = .ok (.iastore, 1) := by decide +kernel
theorem dX9_rule_55 : decode cX9_rule 55 = .ok (.iload_n 3, 1) := by decide +kernel
theorem dX9_rule_56 : decode cX9_rule 56 = .ok (.ireturn, 1) := by decide +kernel
theorem dX9_of_0 : decode cX9_of 0 = .ok (.aload_n 0, 1) := by decide +kernel
theorem dX9_of_1 : decode cX9_of 1 = .ok (.iload_n 1, 1) := by decide +kernel
theorem dX9_of_2 : decode cX9_of 2 = .ok (.invokevirtual 123, 3) := by decide +kernel
theorem dX9_of_5 : decode cX9_of 5 = .ok (.ifCond .eq 15, 3) := by decide +kernel
theorem dX9_of_8 : decode cX9_of 8 = .ok (.iload_n 2, 1) := by decide +kernel
theorem dX9_of_9 : decode cX9_of 9 = .ok (.i2l, 1) := by decide +kernel
theorem dX9_of_10 : decode cX9_of 10 = .ok (.lconst 0, 1) := by decide +kernel
theorem dX9_of_11 : decode cX9_of 11 = .ok (.ldc2_w 107, 3) := by decide +kernel
theorem dX9_of_14 : decode cX9_of 14 = .ok (.invokestatic 50, 3) := by decide +kernel
theorem dX9_of_17 : decode cX9_of 17 = .ok (.ifCond .ne 5, 3) := by decide +kernel
theorem dX9_of_20 : decode cX9_of 20 = .ok (.iconst (-1), 1) := by decide +kernel
theorem dX9_of_21 : decode cX9_of 21 = .ok (.ireturn, 1) := by decide +kernel
theorem dX9_of_22 : decode cX9_of 22 = .ok (.iload_n 2, 1) := by decide +kernel
theorem dX9_of_23 : decode cX9_of 23 = .ok (.iconst 3, 1) := by decide +kernel
theorem dX9_of_24 : decode cX9_of 24 = .ok (.if_icmp .ge 12, 3) := by decide +kernel
theorem dX9_of_27 : decode cX9_of 27 = .ok (.aload_n 0, 1) := by decide +kernel
theorem dX9_of_28 : decode cX9_of 28 = .ok (.iload_n 1, 1) := by decide +kernel
theorem dX9_of_29 : decode cX9_of 29 = .ok (.iload_n 2, 1) := by decide +kernel
theorem dX9_of_30 : decode cX9_of 30 = .ok (.invokevirtual 56, 3) := by decide +kernel
theorem dX9_of_33 : decode cX9_of 33 = .ok (.goto 21, 3) := by decide +kernel
theorem dX9_of_36 : decode cX9_of 36 = .ok (.iload_n 2, 1) := by decide +kernel
theorem dX9_of_37 : decode cX9_of 37 = .ok (.iconst 3, 1) := by decide +kernel
theorem dX9_of_38 : decode cX9_of 38 = .ok (.if_icmp .ne 11, 3) := by decide +kernel
theorem dX9_of_41 : decode cX9_of 41 = .ok (.aload_n 0, 1) := by decide +kernel
theorem dX9_of_42 : decode cX9_of 42 = .ok (.iload_n 1, 1) := by decide +kernel
theorem dX9_of_43 : decode cX9_of 43 = .ok (.invokevirtual 86, 3) := by decide +kernel
theorem dX9_of_46 : decode cX9_of 46 = .ok (.goto 8, 3) := by decide +kernel
theorem dX9_of_49 : decode cX9_of 49 = .ok (.aload_n 0, 1) := by decide +kernel
theorem dX9_of_50 : decode cX9_of 50 = .ok (.iload_n 1, 1) := by decide +kernel
theorem dX9_of_51 : decode cX9_of 51 = .ok (.invokevirtual 76, 3) := by decide +kernel
theorem dX9_of_54 : decode cX9_of 54 = .ok (.ireturn, 1) := by decide +kernel
theorem dX9_at_0 : decode cX9_at 0 = .ok (.iload_n 1, 1) := by decide +kernel
theorem dX9_at_1 : decode cX9_at 1 = .ok (.invokestatic 111, 3) := by decide +kernel
theorem dX9_at_4 : decode cX9_at 4 = .ok (.ifCond .eq 13, 3) := by decide +kernel
theorem dX9_at_7 : decode cX9_at 7 = .ok (.iload_n 2, 1) := by decide +kernel
theorem dX9_at_8 : decode cX9_at 8 = .ok (.i2l, 1) := by decide +kernel
theorem dX9_at_9 : decode cX9_at 9 = .ok (.lconst 0, 1) := by decide +kernel
theorem dX9_at_10 : decode cX9_at 10 = .ok (.lconst 1, 1) := by decide +kernel
theorem dX9_at_11 : decode cX9_at 11 = .ok (.invokestatic 50, 3) := by decide +kernel
theorem dX9_at_14 : decode cX9_at 14 = .ok (.ifCond .ne 5, 3) := by decide +kernel
theorem dX9_at_17 : decode cX9_at 17 = .ok (.iconst (-1), 1) := by decide +kernel
theorem dX9_at_18 : decode cX9_at 18 = .ok (.ireturn, 1) := by decide +kernel
theorem dX9_at_19 : decode cX9_at 19 = .ok (.iload_n 2, 1) := by decide +kernel
theorem dX9_at_20 : decode cX9_at 20 = .ok (.ifCond .ne 11, 3) := by decide +kernel
theorem dX9_at_23 : decode cX9_at 23 = .ok (.aload_n 0, 1) := by decide +kernel
theorem dX9_at_24 : decode cX9_at 24 = .ok (.iload_n 1, 1) := by decide +kernel
theorem dX9_at_25 : decode cX9_at 25 = .ok (.invokevirtual 114, 3) := by decide +kernel
theorem dX9_at_28 : decode cX9_at 28 = .ok (.goto 9, 3) := by decide +kernel
theorem dX9_at_31 : decode cX9_at 31 = .ok (.aload_n 0, 1) := by decide +kernel
theorem dX9_at_32 : decode cX9_at 32 = .ok (.iload_n 1, 1) := by decide +kernel
theorem dX9_at_33 : decode cX9_at 33 = .ok (.iconst 0, 1) := by decide +kernel
theorem dX9_at_34 : decode cX9_at 34 = .ok (.invokevirtual 89, 3) := by decide +kernel
theorem dX9_at_37 : decode cX9_at 37 = .ok (.ireturn, 1) := by decide +kernel
theorem dX9_wave_0 : decode cX9_wave 0 = .ok (.iload_n 1, 1) := by decide +kernel
theorem dX9_wave_1 : decode cX9_wave 1 = .ok (.invokestatic 111, 3) := by decide +kernel
theorem dX9_wave_4 : decode cX9_wave 4 = .ok (.ifCond .eq 24, 3) := by decide +kernel
theorem dX9_wave_7 : decode cX9_wave 7 = .ok (.iload_n 2, 1) := by decide +kernel
theorem dX9_wave_8 : decode cX9_wave 8 = .ok (.i2l, 1) := by decide +kernel
theorem dX9_wave_9 : decode cX9_wave 9 = .ok (.lconst 0, 1) := by decide +kernel
theorem dX9_wave_10 : decode cX9_wave 10 = .ok (.ldc2_w 126, 3) := by decide +kernel
theorem dX9_wave_13 : decode cX9_wave 13 = .ok (.invokestatic 50, 3) := by decide +kernel
theorem dX9_wave_16 : decode cX9_wave 16 = .ok (.ifCond .eq 12, 3) := by decide +kernel
theorem dX9_wave_19 : decode cX9_wave 19 = .ok (.aload_n 0, 1) := by decide +kernel
theorem dX9_wave_20 : decode cX9_wave 20 = .ok (.iload_n 1, 1) := by decide +kernel
theorem dX9_wave_21 : decode cX9_wave 21 = .ok (.iload_n 2, 1) := by decide +kernel
theorem dX9_wave_22 : decode cX9_wave 22 = .ok (.invokevirtual 89, 3) := by decide +kernel
theorem dX9_wave_25 : decode cX9_wave 25 = .ok (.goto 4, 3) := by decide +kernel
theorem dX9_wave_28 : decode cX9_wave 28 = .ok (.iconst (-1), 1) := by decide +kernel
theorem dX9_wave_29 : decode cX9_wave 29 = .ok (.ireturn, 1) := by decide +kernel
theorem dX9_heldBy_0 : decode cX9_heldBy 0 = .ok (.iconst 0, 1) := by decide +kernel
theorem dX9_heldBy_1 : decode cX9_heldBy 1 = .ok (.istore_n 3, 1) := by decide +kernel
theorem dX9_heldBy_2 : decode cX9_heldBy 2 = .ok (.iconst 0, 1) := by decide +kernel
theorem dX9_heldBy_3 : decode cX9_heldBy 3 = .ok (.istore 4, 2) := by decide +kernel
theorem dX9_heldBy_5 : decode cX9_heldBy 5 = .ok (.iload 4, 2) := by decide +kernel
theorem dX9_heldBy_7 : decode cX9_heldBy 7 = .ok (.aload_n 0, 1) := by decide +kernel
theorem dX9_heldBy_8 : decode cX9_heldBy 8 = .ok (.getfield 7, 3) := by decide +kernel
theorem dX9_heldBy_11 : decode cX9_heldBy 11 = .ok (.iconst 0, 1) := by decide +kernel
theorem dX9_heldBy_12 : decode cX9_heldBy 12 = .ok (.iaload, 1) := by decide +kernel
theorem dX9_heldBy_13 : decode cX9_heldBy 13 = .ok (.if_icmp .ge 70, 3) := by decide +kernel
theorem dX9_heldBy_16 : decode cX9_heldBy 16 = .ok (.iconst 0, 1) := by decide +kernel
theorem dX9_heldBy_17 : decode cX9_heldBy 17 = .ok (.istore 5, 2) := by decide +kernel
theorem dX9_heldBy_19 : decode cX9_heldBy 19 = .ok (.iload 5, 2) := by decide +kernel
theorem dX9_heldBy_21 : decode cX9_heldBy 21 = .ok (.bipush 12, 2) := by decide +kernel
theorem dX9_heldBy_23 : decode cX9_heldBy 23 = .ok (.if_icmp .ge 54, 3) := by decide +kernel
theorem dX9_heldBy_26 : decode cX9_heldBy 26 = .ok (.iload_n 3, 1) := by decide +kernel
theorem dX9_heldBy_27 : decode cX9_heldBy 27 = .ok (.iload_n 1, 1) := by decide +kernel
theorem dX9_heldBy_28 : decode cX9_heldBy 28 = .ok (.iload 4, 2) := by decide +kernel
theorem dX9_heldBy_30 : decode cX9_heldBy 30 = .ok (.ishr, 1) := by decide +kernel
theorem dX9_heldBy_31 : decode cX9_heldBy 31 = .ok (.iconst 1, 1) := by decide +kernel
theorem dX9_heldBy_32 : decode cX9_heldBy 32 = .ok (.iand, 1) := by decide +kernel
theorem dX9_heldBy_33 : decode cX9_heldBy 33 = .ok (.iconst 1, 1) := by decide +kernel
theorem dX9_heldBy_34 : decode cX9_heldBy 34 = .ok (.if_icmp .ne 34, 3) := by decide +kernel
theorem dX9_heldBy_37 : decode cX9_heldBy 37 = .ok (.aload_n 0, 1) := by decide +kernel
theorem dX9_heldBy_38 : decode cX9_heldBy 38 = .ok (.iload 4, 2) := by decide +kernel
theorem dX9_heldBy_40 : decode cX9_heldBy 40 = .ok (.invokevirtual 69, 3) := by decide +kernel
theorem dX9_heldBy_43 : decode cX9_heldBy 43 = .ok (.ifCond .eq 25, 3) := by decide +kernel
theorem dX9_heldBy_46 : decode cX9_heldBy 46 = .ok (.iload 5, 2) := by decide +kernel
theorem dX9_heldBy_48 : decode cX9_heldBy 48 = .ok (.aload_n 0, 1) := by decide +kernel
theorem dX9_heldBy_49 : decode cX9_heldBy 49 = .ok (.iload 4, 2) := by decide +kernel
theorem dX9_heldBy_51 : decode cX9_heldBy 51 = .ok (.invokevirtual 60, 3) := by decide +kernel
theorem dX9_heldBy_54 : decode cX9_heldBy 54 = .ok (.invokestatic 66, 3) := by decide +kernel
theorem dX9_heldBy_57 : decode cX9_heldBy 57 = .ok (.iload_n 2, 1) := by decide +kernel
theorem dX9_heldBy_58 : decode cX9_heldBy 58 = .ok (.if_icmp .gt 10, 3) := by decide +kernel
theorem dX9_heldBy_61 : decode cX9_heldBy 61 = .ok (.iconst 1, 1) := by decide +kernel
theorem dX9_heldBy_62 : decode cX9_heldBy 62 = .ok (.iload 5, 2) := by decide +kernel
theorem dX9_heldBy_64 : decode cX9_heldBy 64 = .ok (.ishl, 1) := by decide +kernel
theorem dX9_heldBy_65 : decode cX9_heldBy 65 = .ok (.goto 4, 3) := by decide +kernel
theorem dX9_heldBy_68 : decode cX9_heldBy 68 = .ok (.iconst 0, 1) := by decide +kernel
theorem dX9_heldBy_69 : decode cX9_heldBy 69 = .ok (.ior, 1) := by decide +kernel
theorem dX9_heldBy_70 : decode cX9_heldBy 70 = .ok (.istore_n 3, 1) := by decide +kernel
theorem dX9_heldBy_71 : decode cX9_heldBy 71 = .ok (.iinc 5 1, 3) := by decide +kernel
theorem dX9_heldBy_74 : decode cX9_heldBy 74 = .ok (.goto (-55), 3) := by decide +kernel
theorem dX9_heldBy_77 : decode cX9_heldBy 77 = .ok (.iinc 4 1, 3) := by decide +kernel
theorem dX9_heldBy_80 : decode cX9_heldBy 80 = .ok (.goto (-75), 3) := by decide +kernel
theorem dX9_heldBy_83 : decode cX9_heldBy 83 = .ok (.iload_n 3, 1) := by decide +kernel
theorem dX9_heldBy_84 : decode cX9_heldBy 84 = .ok (.ireturn, 1) := by decide +kernel
theorem dX9_held_0 : decode cX9_held 0 = .ok (.iload_n 1, 1) := by decide +kernel
theorem dX9_held_1 : decode cX9_held 1 = .ok (.i2l, 1) := by decide +kernel
theorem dX9_held_2 : decode cX9_held 2 = .ok (.lconst 0, 1) := by decide +kernel
theorem dX9_held_3 : decode cX9_held 3 = .ok (.ldc2_w 128, 3) := by decide +kernel
theorem dX9_held_6 : decode cX9_held 6 = .ok (.invokestatic 50, 3) := by decide +kernel
theorem dX9_held_9 : decode cX9_held 9 = .ok (.ifCond .eq 13, 3) := by decide +kernel
theorem dX9_held_12 : decode cX9_held 12 = .ok (.aload_n 0, 1) := by decide +kernel
theorem dX9_held_13 : decode cX9_held 13 = .ok (.bipush 63, 2) := by decide +kernel
theorem dX9_held_15 : decode cX9_held 15 = .ok (.iload_n 1, 1) := by decide +kernel
theorem dX9_held_16 : decode cX9_held 16 = .ok (.invokevirtual 130, 3) := by decide +kernel
theorem dX9_held_19 : decode cX9_held 19 = .ok (.goto 4, 3) := by decide +kernel
theorem dX9_held_22 : decode cX9_held 22 = .ok (.iconst (-1), 1) := by decide +kernel
theorem dX9_held_23 : decode cX9_held 23 = .ok (.ireturn, 1) := by decide +kernel
theorem dX9_paintAll_0 : decode cX9_paintAll 0 = .ok (.iconst 0, 1) := by decide +kernel
theorem dX9_paintAll_1 : decode cX9_paintAll 1 = .ok (.istore_n 2, 1) := by decide +kernel
theorem dX9_paintAll_2 : decode cX9_paintAll 2 = .ok (.iconst 0, 1) := by decide +kernel
theorem dX9_paintAll_3 : decode cX9_paintAll 3 = .ok (.istore_n 3, 1) := by decide +kernel
theorem dX9_paintAll_4 : decode cX9_paintAll 4 = .ok (.iload_n 3, 1) := by decide +kernel
theorem dX9_paintAll_5 : decode cX9_paintAll 5 = .ok (.aload_n 0, 1) := by decide +kernel
theorem dX9_paintAll_6 : decode cX9_paintAll 6 = .ok (.getfield 7, 3) := by decide +kernel
theorem dX9_paintAll_9 : decode cX9_paintAll 9 = .ok (.iconst 0, 1) := by decide +kernel
theorem dX9_paintAll_10 : decode cX9_paintAll 10 = .ok (.iaload, 1) := by decide +kernel
theorem dX9_paintAll_11 : decode cX9_paintAll 11 = .ok (.if_icmp .ge 30, 3) := by decide +kernel
theorem dX9_paintAll_14 : decode cX9_paintAll 14 = .ok (.iload_n 2, 1) := by decide +kernel
theorem dX9_paintAll_15 : decode cX9_paintAll 15 = .ok (.iload_n 1, 1) := by decide +kernel
theorem dX9_paintAll_16 : decode cX9_paintAll 16 = .ok (.iload_n 3, 1) := by decide +kernel
theorem dX9_paintAll_17 : decode cX9_paintAll 17 = .ok (.ishr, 1) := by decide +kernel
theorem dX9_paintAll_18 : decode cX9_paintAll 18 = .ok (.iconst 1, 1) := by decide +kernel
theorem dX9_paintAll_19 : decode cX9_paintAll 19 = .ok (.iand, 1) := by decide +kernel
theorem dX9_paintAll_20 : decode cX9_paintAll 20 = .ok (.iconst 1, 1) := by decide +kernel
theorem dX9_paintAll_21 : decode cX9_paintAll 21 = .ok (.if_icmp .ne 11, 3) := by decide +kernel
theorem dX9_paintAll_24 : decode cX9_paintAll 24 = .ok (.aload_n 0, 1) := by decide +kernel
theorem dX9_paintAll_25 : decode cX9_paintAll 25 = .ok (.iload_n 3, 1) := by decide +kernel
theorem dX9_paintAll_26 : decode cX9_paintAll 26 = .ok (.invokevirtual 73, 3) := by decide +kernel
theorem dX9_paintAll_29 : decode cX9_paintAll 29 = .ok (.goto 4, 3) := by decide +kernel
theorem dX9_paintAll_32 : decode cX9_paintAll 32 = .ok (.iconst 0, 1) := by decide +kernel
theorem dX9_paintAll_33 : decode cX9_paintAll 33 = .ok (.iadd, 1) := by decide +kernel
theorem dX9_paintAll_34 : decode cX9_paintAll 34 = .ok (.istore_n 2, 1) := by decide +kernel
theorem dX9_paintAll_35 : decode cX9_paintAll 35 = .ok (.iinc 3 1, 3) := by decide +kernel
theorem dX9_paintAll_38 : decode cX9_paintAll 38 = .ok (.goto (-34), 3) := by decide +kernel
theorem dX9_paintAll_41 : decode cX9_paintAll 41 = .ok (.iload_n 2, 1) := by decide +kernel
theorem dX9_paintAll_42 : decode cX9_paintAll 42 = .ok (.ireturn, 1) := by decide +kernel
theorem dX9_count_0 : decode cX9_count 0 = .ok (.iload_n 1, 1) := by decide +kernel
theorem dX9_count_1 : decode cX9_count 1 = .ok (.tableswitch 114 0 9 #[55, 62, 70, 77, 82, 90, 97, 97, 97, 109], 55) := by decide +kernel
theorem dX9_count_56 : decode cX9_count 56 = .ok (.aload_n 0, 1) := by decide +kernel
theorem dX9_count_57 : decode cX9_count 57 = .ok (.getfield 7, 3) := by decide +kernel
theorem dX9_count_60 : decode cX9_count 60 = .ok (.iconst 0, 1) := by decide +kernel
theorem dX9_count_61 : decode cX9_count 61 = .ok (.iaload, 1) := by decide +kernel
theorem dX9_count_62 : decode cX9_count 62 = .ok (.ireturn, 1) := by decide +kernel
theorem dX9_count_63 : decode cX9_count 63 = .ok (.aload_n 0, 1) := by decide +kernel
theorem dX9_count_64 : decode cX9_count 64 = .ok (.invokevirtual 82, 3) := by decide +kernel
theorem dX9_count_67 : decode cX9_count 67 = .ok (.invokestatic 79, 3) := by decide +kernel
theorem dX9_count_70 : decode cX9_count 70 = .ok (.ireturn, 1) := by decide +kernel
theorem dX9_count_71 : decode cX9_count 71 = .ok (.aload_n 0, 1) := by decide +kernel
theorem dX9_count_72 : decode cX9_count 72 = .ok (.getfield 7, 3) := by decide +kernel
theorem dX9_count_75 : decode cX9_count 75 = .ok (.iconst 1, 1) := by decide +kernel
theorem dX9_count_76 : decode cX9_count 76 = .ok (.iaload, 1) := by decide +kernel
theorem dX9_count_77 : decode cX9_count 77 = .ok (.ireturn, 1) := by decide +kernel
theorem dX9_count_78 : decode cX9_count 78 = .ok (.aload_n 0, 1) := by decide +kernel
theorem dX9_count_79 : decode cX9_count 79 = .ok (.invokevirtual 82, 3) := by decide +kernel
theorem dX9_count_82 : decode cX9_count 82 = .ok (.ireturn, 1) := by decide +kernel
theorem dX9_count_83 : decode cX9_count 83 = .ok (.aload_n 0, 1) := by decide +kernel
theorem dX9_count_84 : decode cX9_count 84 = .ok (.bipush 63, 2) := by decide +kernel
theorem dX9_count_86 : decode cX9_count 86 = .ok (.iconst 0, 1) := by decide +kernel
theorem dX9_count_87 : decode cX9_count 87 = .ok (.invokevirtual 130, 3) := by decide +kernel
theorem dX9_count_90 : decode cX9_count 90 = .ok (.ireturn, 1) := by decide +kernel
theorem dX9_count_91 : decode cX9_count 91 = .ok (.aload_n 0, 1) := by decide +kernel
theorem dX9_count_92 : decode cX9_count 92 = .ok (.bipush 63, 2) := by decide +kernel
theorem dX9_count_94 : decode cX9_count 94 = .ok (.invokevirtual 133, 3) := by decide +kernel
theorem dX9_count_97 : decode cX9_count 97 = .ok (.ireturn, 1) := by decide +kernel
theorem dX9_count_98 : decode cX9_count 98 = .ok (.aload_n 0, 1) := by decide +kernel
theorem dX9_count_99 : decode cX9_count 99 = .ok (.getfield 7, 3) := by decide +kernel
theorem dX9_count_102 : decode cX9_count 102 = .ok (.iconst 2, 1) := by decide +kernel
theorem dX9_count_103 : decode cX9_count 103 = .ok (.iload_n 1, 1) := by decide +kernel
theorem dX9_count_104 : decode cX9_count 104 = .ok (.iadd, 1) := by decide +kernel
theorem dX9_count_105 : decode cX9_count 105 = .ok (.bipush 6, 2) := by decide +kernel
theorem dX9_count_107 : decode cX9_count 107 = .ok (.isub, 1) := by decide +kernel
theorem dX9_count_108 : decode cX9_count 108 = .ok (.iaload, 1) := by decide +kernel
theorem dX9_count_109 : decode cX9_count 109 = .ok (.ireturn, 1) := by decide +kernel
theorem dX9_count_110 : decode cX9_count 110 = .ok (.aload_n 0, 1) := by decide +kernel
theorem dX9_count_111 : decode cX9_count 111 = .ok (.getfield 103, 3) := by decide +kernel
theorem dX9_count_114 : decode cX9_count 114 = .ok (.ireturn, 1) := by decide +kernel
theorem dX9_count_115 : decode cX9_count 115 = .ok (.iconst (-1), 1) := by decide +kernel
theorem dX9_count_116 : decode cX9_count 116 = .ok (.ireturn, 1) := by decide +kernel
theorem dX9_type_0 : decode cX9_type 0 = .ok (.iload_n 1, 1) := by decide +kernel
theorem dX9_type_1 : decode cX9_type 1 = .ok (.i2l, 1) := by decide +kernel
theorem dX9_type_2 : decode cX9_type 2 = .ok (.ldc2_w 136, 3) := by decide +kernel
theorem dX9_type_5 : decode cX9_type 5 = .ok (.ldc2_w 138, 3) := by decide +kernel
theorem dX9_type_8 : decode cX9_type 8 = .ok (.invokestatic 50, 3) := by decide +kernel
theorem dX9_type_11 : decode cX9_type 11 = .ok (.ifCond .ne 5, 3) := by decide +kernel
theorem dX9_type_14 : decode cX9_type 14 = .ok (.iconst (-1), 1) := by decide +kernel
theorem dX9_type_15 : decode cX9_type 15 = .ok (.ireturn, 1) := by decide +kernel
theorem dX9_type_16 : decode cX9_type 16 = .ok (.aload_n 0, 1) := by decide +kernel
theorem dX9_type_17 : decode cX9_type 17 = .ok (.getfield 140, 3) := by decide +kernel
theorem dX9_type_20 : decode cX9_type 20 = .ok (.bipush 60, 2) := by decide +kernel
theorem dX9_type_22 : decode cX9_type 22 = .ok (.if_icmp .ne 6, 3) := by decide +kernel
theorem dX9_type_25 : decode cX9_type 25 = .ok (.bipush (-3), 2) := by decide +kernel
theorem dX9_type_27 : decode cX9_type 27 = .ok (.ireturn, 1) := by decide +kernel
theorem dX9_type_28 : decode cX9_type 28 = .ok (.aload_n 0, 1) := by decide +kernel
theorem dX9_type_29 : decode cX9_type 29 = .ok (.getfield 13, 3) := by decide +kernel
theorem dX9_type_32 : decode cX9_type 32 = .ok (.aload_n 0, 1) := by decide +kernel
theorem dX9_type_33 : decode cX9_type 33 = .ok (.getfield 140, 3) := by decide +kernel
theorem dX9_type_36 : decode cX9_type 36 = .ok (.iload_n 1, 1) := by decide +kernel
theorem dX9_type_37 : decode cX9_type 37 = .ok (.iastore, 1) := by decide +kernel
theorem dX9_type_38 : decode cX9_type 38 = .ok (.aload_n 0, 1) := by decide +kernel
theorem dX9_type_39 : decode cX9_type 39 = .ok (.dup, 1) := by decide +kernel
theorem dX9_type_40 : decode cX9_type 40 = .ok (.getfield 140, 3) := by decide +kernel
theorem dX9_type_43 : decode cX9_type 43 = .ok (.iconst 1, 1) := by decide +kernel
theorem dX9_type_44 : decode cX9_type 44 = .ok (.iadd, 1) := by decide +kernel
theorem dX9_type_45 : decode cX9_type 45 = .ok (.putfield 140, 3) := by decide +kernel
theorem dX9_type_48 : decode cX9_type 48 = .ok (.aload_n 0, 1) := by decide +kernel
theorem dX9_type_49 : decode cX9_type 49 = .ok (.getfield 140, 3) := by decide +kernel
theorem dX9_type_52 : decode cX9_type 52 = .ok (.ireturn, 1) := by decide +kernel
theorem dX9_here_0 : decode cX9_here 0 = .ok (.aload_n 0, 1) := by decide +kernel
theorem dX9_here_1 : decode cX9_here 1 = .ok (.getfield 143, 3) := by decide +kernel
theorem dX9_here_4 : decode cX9_here 4 = .ok (.aload_n 0, 1) := by decide +kernel
theorem dX9_here_5 : decode cX9_here 5 = .ok (.getfield 140, 3) := by decide +kernel
theorem dX9_here_8 : decode cX9_here 8 = .ok (.if_icmp .ge 30, 3) := by decide +kernel
theorem dX9_here_11 : decode cX9_here 11 = .ok (.aload_n 0, 1) := by decide +kernel
theorem dX9_here_12 : decode cX9_here 12 = .ok (.getfield 13, 3) := by decide +kernel
theorem dX9_here_15 : decode cX9_here 15 = .ok (.aload_n 0, 1) := by decide +kernel
theorem dX9_here_16 : decode cX9_here 16 = .ok (.getfield 143, 3) := by decide +kernel
theorem dX9_here_19 : decode cX9_here 19 = .ok (.iaload, 1) := by decide +kernel
theorem dX9_here_20 : decode cX9_here 20 = .ok (.bipush 32, 2) := by decide +kernel
theorem dX9_here_22 : decode cX9_here 22 = .ok (.if_icmp .ne 16, 3) := by decide +kernel
theorem dX9_here_25 : decode cX9_here 25 = .ok (.aload_n 0, 1) := by decide +kernel
theorem dX9_here_26 : decode cX9_here 26 = .ok (.dup, 1) := by decide +kernel
theorem dX9_here_27 : decode cX9_here 27 = .ok (.getfield 143, 3) := by decide +kernel
theorem dX9_here_30 : decode cX9_here 30 = .ok (.iconst 1, 1) := by decide +kernel
theorem dX9_here_31 : decode cX9_here 31 = .ok (.iadd, 1) := by decide +kernel
theorem dX9_here_32 : decode cX9_here 32 = .ok (.putfield 143, 3) := by decide +kernel
theorem dX9_here_35 : decode cX9_here 35 = .ok (.goto (-35), 3) := by decide +kernel
theorem dX9_here_38 : decode cX9_here 38 = .ok (.aload_n 0, 1) := by decide +kernel
theorem dX9_here_39 : decode cX9_here 39 = .ok (.getfield 143, 3) := by decide +kernel
theorem dX9_here_42 : decode cX9_here 42 = .ok (.aload_n 0, 1) := by decide +kernel
theorem dX9_here_43 : decode cX9_here 43 = .ok (.getfield 140, 3) := by decide +kernel
theorem dX9_here_46 : decode cX9_here 46 = .ok (.if_icmp .ge 15, 3) := by decide +kernel
theorem dX9_here_49 : decode cX9_here 49 = .ok (.aload_n 0, 1) := by decide +kernel
theorem dX9_here_50 : decode cX9_here 50 = .ok (.getfield 13, 3) := by decide +kernel
theorem dX9_here_53 : decode cX9_here 53 = .ok (.aload_n 0, 1) := by decide +kernel
theorem dX9_here_54 : decode cX9_here 54 = .ok (.getfield 143, 3) := by decide +kernel
theorem dX9_here_57 : decode cX9_here 57 = .ok (.iaload, 1) := by decide +kernel
theorem dX9_here_58 : decode cX9_here 58 = .ok (.goto 4, 3) := by decide +kernel
theorem dX9_here_61 : decode cX9_here 61 = .ok (.iconst 0, 1) := by decide +kernel
theorem dX9_here_62 : decode cX9_here 62 = .ok (.ireturn, 1) := by decide +kernel
theorem dX9_must_0 : decode cX9_must 0 = .ok (.aload_n 0, 1) := by decide +kernel
theorem dX9_must_1 : decode cX9_must 1 = .ok (.aload_n 0, 1) := by decide +kernel
theorem dX9_must_2 : decode cX9_must 2 = .ok (.getfield 146, 3) := by decide +kernel
theorem dX9_must_5 : decode cX9_must 5 = .ok (.ifCond .ne 7, 3) := by decide +kernel
theorem dX9_must_8 : decode cX9_must 8 = .ok (.iload_n 1, 1) := by decide +kernel
theorem dX9_must_9 : decode cX9_must 9 = .ok (.ifCond .ne 7, 3) := by decide +kernel
theorem dX9_must_12 : decode cX9_must 12 = .ok (.iconst 1, 1) := by decide +kernel
theorem dX9_must_13 : decode cX9_must 13 = .ok (.goto 4, 3) := by decide +kernel
theorem dX9_must_16 : decode cX9_must 16 = .ok (.iconst 0, 1) := by decide +kernel
theorem dX9_must_17 : decode cX9_must 17 = .ok (.putfield 146, 3) := by decide +kernel
theorem dX9_must_20 : decode cX9_must 20 = .ok (.aload_n 0, 1) := by decide +kernel
theorem dX9_must_21 : decode cX9_must 21 = .ok (.dup, 1) := by decide +kernel
theorem dX9_must_22 : decode cX9_must 22 = .ok (.getfield 143, 3) := by decide +kernel
theorem dX9_must_25 : decode cX9_must 25 = .ok (.aload_n 0, 1) := by decide +kernel
theorem dX9_must_26 : decode cX9_must 26 = .ok (.getfield 146, 3) := by decide +kernel
theorem dX9_must_29 : decode cX9_must 29 = .ok (.ifCond .eq 7, 3) := by decide +kernel
theorem dX9_must_32 : decode cX9_must 32 = .ok (.iconst 0, 1) := by decide +kernel
theorem dX9_must_33 : decode cX9_must 33 = .ok (.goto 4, 3) := by decide +kernel
theorem dX9_must_36 : decode cX9_must 36 = .ok (.iconst 1, 1) := by decide +kernel
theorem dX9_must_37 : decode cX9_must 37 = .ok (.iadd, 1) := by decide +kernel
theorem dX9_must_38 : decode cX9_must 38 = .ok (.putfield 143, 3) := by decide +kernel
theorem dX9_must_41 : decode cX9_must 41 = .ok (.return_, 1) := by decide +kernel
theorem dX9_number_0 : decode cX9_number 0 = .ok (.aload_n 0, 1) := by decide +kernel
theorem dX9_number_1 : decode cX9_number 1 = .ok (.getfield 146, 3) := by decide +kernel
theorem dX9_number_4 : decode cX9_number 4 = .ok (.ifCond .eq 7, 3) := by decide +kernel
theorem dX9_number_7 : decode cX9_number 7 = .ok (.iconst 0, 1) := by decide +kernel
theorem dX9_number_8 : decode cX9_number 8 = .ok (.goto 7, 3) := by decide +kernel
theorem dX9_number_11 : decode cX9_number 11 = .ok (.aload_n 0, 1) := by decide +kernel
theorem dX9_number_12 : decode cX9_number 12 = .ok (.invokevirtual 150, 3) := by decide +kernel
theorem dX9_number_15 : decode cX9_number 15 = .ok (.istore_n 3, 1) := by decide +kernel
theorem dX9_number_16 : decode cX9_number 16 = .ok (.aload_n 0, 1) := by decide +kernel
theorem dX9_number_17 : decode cX9_number 17 = .ok (.getfield 143, 3) := by decide +kernel
theorem dX9_number_20 : decode cX9_number 20 = .ok (.istore 4, 2) := by decide +kernel
theorem dX9_number_22 : decode cX9_number 22 = .ok (.iconst 0, 1) := by decide +kernel
theorem dX9_number_23 : decode cX9_number 23 = .ok (.istore 5, 2) := by decide +kernel
theorem dX9_number_25 : decode cX9_number 25 = .ok (.aload_n 0, 1) := by decide +kernel
theorem dX9_number_26 : decode cX9_number 26 = .ok (.aload_n 0, 1) := by decide +kernel
theorem dX9_number_27 : decode cX9_number 27 = .ok (.getfield 146, 3) := by decide +kernel
theorem dX9_number_30 : decode cX9_number 30 = .ok (.ifCond .ne 17, 3) := by decide +kernel
theorem dX9_number_33 : decode cX9_number 33 = .ok (.iload_n 3, 1) := by decide +kernel
theorem dX9_number_34 : decode cX9_number 34 = .ok (.i2l, 1) := by decide +kernel
theorem dX9_number_35 : decode cX9_number 35 = .ok (.ldc2_w 153, 3) := by decide +kernel
theorem dX9_number_38 : decode cX9_number 38 = .ok (.ldc2_w 155, 3) := by decide +kernel
theorem dX9_number_41 : decode cX9_number 41 = .ok (.invokestatic 50, 3) := by decide +kernel
theorem dX9_number_44 : decode cX9_number 44 = .ok (.ifCond .ne 7, 3) := by decide +kernel
theorem dX9_number_47 : decode cX9_number 47 = .ok (.iconst 1, 1) := by decide +kernel
theorem dX9_number_48 : decode cX9_number 48 = .ok (.goto 4, 3) := by decide +kernel
theorem dX9_number_51 : decode cX9_number 51 = .ok (.iconst 0, 1) := by decide +kernel
theorem dX9_number_52 : decode cX9_number 52 = .ok (.putfield 146, 3) := by decide +kernel
theorem dX9_number_55 : decode cX9_number 55 = .ok (.aload_n 0, 1) := by decide +kernel
theorem dX9_number_56 : decode cX9_number 56 = .ok (.getfield 146, 3) := by decide +kernel
theorem dX9_number_59 : decode cX9_number 59 = .ok (.ifCond .ne 80, 3) := by decide +kernel
theorem dX9_number_62 : decode cX9_number 62 = .ok (.aload_n 0, 1) := by decide +kernel
theorem dX9_number_63 : decode cX9_number 63 = .ok (.getfield 143, 3) := by decide +kernel
theorem dX9_number_66 : decode cX9_number 66 = .ok (.aload_n 0, 1) := by decide +kernel
theorem dX9_number_67 : decode cX9_number 67 = .ok (.getfield 140, 3) := by decide +kernel
theorem dX9_number_70 : decode cX9_number 70 = .ok (.if_icmp .ge 69, 3) := by decide +kernel
theorem dX9_number_73 : decode cX9_number 73 = .ok (.aload_n 0, 1) := by decide +kernel
theorem dX9_number_74 : decode cX9_number 74 = .ok (.getfield 143, 3) := by decide +kernel
theorem dX9_number_77 : decode cX9_number 77 = .ok (.iload 4, 2) := by decide +kernel
theorem dX9_number_79 : decode cX9_number 79 = .ok (.isub, 1) := by decide +kernel
theorem dX9_number_80 : decode cX9_number 80 = .ok (.iconst 2, 1) := by decide +kernel
theorem dX9_number_81 : decode cX9_number 81 = .ok (.if_icmp .ge 58, 3) := by decide +kernel
theorem dX9_number_84 : decode cX9_number 84 = .ok (.aload_n 0, 1) := by decide +kernel
theorem dX9_number_85 : decode cX9_number 85 = .ok (.getfield 13, 3) := by decide +kernel
theorem dX9_number_88 : decode cX9_number 88 = .ok (.aload_n 0, 1) := by decide +kernel
theorem dX9_number_89 : decode cX9_number 89 = .ok (.getfield 143, 3) := by decide +kernel
theorem dX9_number_92 : decode cX9_number 92 = .ok (.iaload, 1) := by decide +kernel
theorem dX9_number_93 : decode cX9_number 93 = .ok (.i2l, 1) := by decide +kernel
theorem dX9_number_94 : decode cX9_number 94 = .ok (.ldc2_w 153, 3) := by decide +kernel
theorem dX9_number_97 : decode cX9_number 97 = .ok (.ldc2_w 155, 3) := by decide +kernel
theorem dX9_number_100 : decode cX9_number 100 = .ok (.invokestatic 50, 3) := by decide +kernel
theorem dX9_number_103 : decode cX9_number 103 = .ok (.ifCond .eq 36, 3) := by decide +kernel
theorem dX9_number_106 : decode cX9_number 106 = .ok (.bipush 10, 2) := by decide +kernel
theorem dX9_number_108 : decode cX9_number 108 = .ok (.iload 5, 2) := by decide +kernel
theorem dX9_number_110 : decode cX9_number 110 = .ok (.imul, 1) := by decide +kernel
theorem dX9_number_111 : decode cX9_number 111 = .ok (.aload_n 0, 1) := by decide +kernel
theorem dX9_number_112 : decode cX9_number 112 = .ok (.getfield 13, 3) := by decide +kernel
theorem dX9_number_115 : decode cX9_number 115 = .ok (.aload_n 0, 1) := by decide +kernel
theorem dX9_number_116 : decode cX9_number 116 = .ok (.getfield 143, 3) := by decide +kernel
theorem dX9_number_119 : decode cX9_number 119 = .ok (.iaload, 1) := by decide +kernel
theorem dX9_number_120 : decode cX9_number 120 = .ok (.iadd, 1) := by decide +kernel
theorem dX9_number_121 : decode cX9_number 121 = .ok (.bipush 48, 2) := by decide +kernel
theorem dX9_number_123 : decode cX9_number 123 = .ok (.isub, 1) := by decide +kernel
theorem dX9_number_124 : decode cX9_number 124 = .ok (.istore 5, 2) := by decide +kernel
theorem dX9_number_126 : decode cX9_number 126 = .ok (.aload_n 0, 1) := by decide +kernel
theorem dX9_number_127 : decode cX9_number 127 = .ok (.dup, 1) := by decide +kernel
theorem dX9_number_128 : decode cX9_number 128 = .ok (.getfield 143, 3) := by decide +kernel
theorem dX9_number_131 : decode cX9_number 131 = .ok (.iconst 1, 1) := by decide +kernel
theorem dX9_number_132 : decode cX9_number 132 = .ok (.iadd, 1) := by decide +kernel
theorem dX9_number_133 : decode cX9_number 133 = .ok (.putfield 143, 3) := by decide +kernel
theorem dX9_number_136 : decode cX9_number 136 = .ok (.goto (-81), 3) := by decide +kernel
theorem dX9_number_139 : decode cX9_number 139 = .ok (.aload_n 0, 1) := by decide +kernel
theorem dX9_number_140 : decode cX9_number 140 = .ok (.getfield 146, 3) := by decide +kernel
theorem dX9_number_143 : decode cX9_number 143 = .ok (.ifCond .ne 30, 3) := by decide +kernel
theorem dX9_number_146 : decode cX9_number 146 = .ok (.iload 5, 2) := by decide +kernel
theorem dX9_number_148 : decode cX9_number 148 = .ok (.iload_n 1, 1) := by decide +kernel
theorem dX9_number_149 : decode cX9_number 149 = .ok (.if_icmp .gt 13, 3) := by decide +kernel
theorem dX9_number_152 : decode cX9_number 152 = .ok (.iload_n 2, 1) := by decide +kernel
theorem dX9_number_153 : decode cX9_number 153 = .ok (.iload 5, 2) := by decide +kernel
theorem dX9_number_155 : decode cX9_number 155 = .ok (.ishr, 1) := by decide +kernel
theorem dX9_number_156 : decode cX9_number 156 = .ok (.iconst 1, 1) := by decide +kernel
theorem dX9_number_157 : decode cX9_number 157 = .ok (.iand, 1) := by decide +kernel
theorem dX9_number_158 : decode cX9_number 158 = .ok (.iconst 1, 1) := by decide +kernel
theorem dX9_number_159 : decode cX9_number 159 = .ok (.if_icmp .ne 14, 3) := by decide +kernel
theorem dX9_number_162 : decode cX9_number 162 = .ok (.aload_n 0, 1) := by decide +kernel
theorem dX9_number_163 : decode cX9_number 163 = .ok (.iconst 1, 1) := by decide +kernel
theorem dX9_number_164 : decode cX9_number 164 = .ok (.putfield 146, 3) := by decide +kernel
theorem dX9_number_167 : decode cX9_number 167 = .ok (.aload_n 0, 1) := by decide +kernel
theorem dX9_number_168 : decode cX9_number 168 = .ok (.iload 4, 2) := by decide +kernel
theorem dX9_number_170 : decode cX9_number 170 = .ok (.putfield 143, 3) := by decide +kernel
theorem dX9_number_173 : decode cX9_number 173 = .ok (.iload 5, 2) := by decide +kernel
theorem dX9_number_175 : decode cX9_number 175 = .ok (.ireturn, 1) := by decide +kernel
theorem dX9_menRead_0 : decode cX9_menRead 0 = .ok (.iconst 0, 1) := by decide +kernel
theorem dX9_menRead_1 : decode cX9_menRead 1 = .ok (.istore_n 1, 1) := by decide +kernel
theorem dX9_menRead_2 : decode cX9_menRead 2 = .ok (.iconst 0, 1) := by decide +kernel
theorem dX9_menRead_3 : decode cX9_menRead 3 = .ok (.istore_n 2, 1) := by decide +kernel
theorem dX9_menRead_4 : decode cX9_menRead 4 = .ok (.aload_n 0, 1) := by decide +kernel
theorem dX9_menRead_5 : decode cX9_menRead 5 = .ok (.getfield 146, 3) := by decide +kernel
theorem dX9_menRead_8 : decode cX9_menRead 8 = .ok (.ifCond .ne 256, 3) := by decide +kernel
theorem dX9_menRead_11 : decode cX9_menRead 11 = .ok (.iload_n 1, 1) := by decide +kernel
theorem dX9_menRead_12 : decode cX9_menRead 12 = .ok (.ifCond .eq 12, 3) := by decide +kernel
theorem dX9_menRead_15 : decode cX9_menRead 15 = .ok (.aload_n 0, 1) := by decide +kernel
theorem dX9_menRead_16 : decode cX9_menRead 16 = .ok (.invokevirtual 150, 3) := by decide +kernel
theorem dX9_menRead_19 : decode cX9_menRead 19 = .ok (.bipush 44, 2) := by decide +kernel
theorem dX9_menRead_21 : decode cX9_menRead 21 = .ok (.if_icmp .ne 243, 3) := by decide +kernel
theorem dX9_menRead_24 : decode cX9_menRead 24 = .ok (.iload_n 1, 1) := by decide +kernel
theorem dX9_menRead_25 : decode cX9_menRead 25 = .ok (.ifCond .le 18, 3) := by decide +kernel
theorem dX9_menRead_28 : decode cX9_menRead 28 = .ok (.aload_n 0, 1) := by decide +kernel
theorem dX9_menRead_29 : decode cX9_menRead 29 = .ok (.iload_n 1, 1) := by decide +kernel
theorem dX9_menRead_30 : decode cX9_menRead 30 = .ok (.bipush 6, 2) := by decide +kernel
theorem dX9_menRead_32 : decode cX9_menRead 32 = .ok (.if_icmp .ge 7, 3) := by decide +kernel
theorem dX9_menRead_35 : decode cX9_menRead 35 = .ok (.iconst 1, 1) := by decide +kernel
theorem dX9_menRead_36 : decode cX9_menRead 36 = .ok (.goto 4, 3) := by decide +kernel
theorem dX9_menRead_39 : decode cX9_menRead 39 = .ok (.iconst 0, 1) := by decide +kernel
theorem dX9_menRead_40 : decode cX9_menRead 40 = .ok (.invokevirtual 157, 3) := by decide +kernel
theorem dX9_menRead_43 : decode cX9_menRead 43 = .ok (.aload_n 0, 1) := by decide +kernel
theorem dX9_menRead_44 : decode cX9_menRead 44 = .ok (.getfield 146, 3) := by decide +kernel
theorem dX9_menRead_47 : decode cX9_menRead 47 = .ok (.ifCond .eq 7, 3) := by decide +kernel
theorem dX9_menRead_50 : decode cX9_menRead 50 = .ok (.iconst 0, 1) := by decide +kernel
theorem dX9_menRead_51 : decode cX9_menRead 51 = .ok (.goto 7, 3) := by decide +kernel
theorem dX9_menRead_54 : decode cX9_menRead 54 = .ok (.aload_n 0, 1) := by decide +kernel
theorem dX9_menRead_55 : decode cX9_menRead 55 = .ok (.invokevirtual 150, 3) := by decide +kernel
theorem dX9_menRead_58 : decode cX9_menRead 58 = .ok (.istore_n 3, 1) := by decide +kernel
theorem dX9_menRead_59 : decode cX9_menRead 59 = .ok (.iload_n 3, 1) := by decide +kernel
theorem dX9_menRead_60 : decode cX9_menRead 60 = .ok (.bipush 112, 2) := by decide +kernel
theorem dX9_menRead_62 : decode cX9_menRead 62 = .ok (.if_icmp .ne 7, 3) := by decide +kernel
theorem dX9_menRead_65 : decode cX9_menRead 65 = .ok (.iconst 0, 1) := by decide +kernel
theorem dX9_menRead_66 : decode cX9_menRead 66 = .ok (.goto 44, 3) := by decide +kernel
theorem dX9_menRead_69 : decode cX9_menRead 69 = .ok (.iload_n 3, 1) := by decide +kernel
theorem dX9_menRead_70 : decode cX9_menRead 70 = .ok (.bipush 108, 2) := by decide +kernel
theorem dX9_menRead_72 : decode cX9_menRead 72 = .ok (.if_icmp .ne 7, 3) := by decide +kernel
theorem dX9_menRead_75 : decode cX9_menRead 75 = .ok (.iconst 1, 1) := by decide +kernel
theorem dX9_menRead_76 : decode cX9_menRead 76 = .ok (.goto 34, 3) := by decide +kernel
theorem dX9_menRead_79 : decode cX9_menRead 79 = .ok (.iload_n 3, 1) := by decide +kernel
theorem dX9_menRead_80 : decode cX9_menRead 80 = .ok (.bipush 103, 2) := by decide +kernel
theorem dX9_menRead_82 : decode cX9_menRead 82 = .ok (.if_icmp .ne 7, 3) := by decide +kernel
theorem dX9_menRead_85 : decode cX9_menRead 85 = .ok (.iconst 2, 1) := by decide +kernel
theorem dX9_menRead_86 : decode cX9_menRead 86 = .ok (.goto 24, 3) := by decide +kernel
theorem dX9_menRead_89 : decode cX9_menRead 89 = .ok (.iload_n 3, 1) := by decide +kernel
theorem dX9_menRead_90 : decode cX9_menRead 90 = .ok (.bipush 100, 2) := by decide +kernel
theorem dX9_menRead_92 : decode cX9_menRead 92 = .ok (.if_icmp .ne 7, 3) := by decide +kernel
theorem dX9_menRead_95 : decode cX9_menRead 95 = .ok (.iconst 3, 1) := by decide +kernel
theorem dX9_menRead_96 : decode cX9_menRead 96 = .ok (.goto 14, 3) := by decide +kernel
theorem dX9_menRead_99 : decode cX9_menRead 99 = .ok (.iload_n 3, 1) := by decide +kernel
theorem dX9_menRead_100 : decode cX9_menRead 100 = .ok (.bipush 118, 2) := by decide +kernel
theorem dX9_menRead_102 : decode cX9_menRead 102 = .ok (.if_icmp .ne 7, 3) := by decide +kernel
theorem dX9_menRead_105 : decode cX9_menRead 105 = .ok (.iconst 4, 1) := by decide +kernel
theorem dX9_menRead_106 : decode cX9_menRead 106 = .ok (.goto 4, 3) := by decide +kernel
theorem dX9_menRead_109 : decode cX9_menRead 109 = .ok (.iconst (-1), 1) := by decide +kernel
theorem dX9_menRead_110 : decode cX9_menRead 110 = .ok (.istore 4, 2) := by decide +kernel
theorem dX9_menRead_112 : decode cX9_menRead 112 = .ok (.aload_n 0, 1) := by decide +kernel
theorem dX9_menRead_113 : decode cX9_menRead 113 = .ok (.iload 4, 2) := by decide +kernel
theorem dX9_menRead_115 : decode cX9_menRead 115 = .ok (.ifCond .lt 7, 3) := by decide +kernel
theorem dX9_menRead_118 : decode cX9_menRead 118 = .ok (.iconst 1, 1) := by decide +kernel
theorem dX9_menRead_119 : decode cX9_menRead 119 = .ok (.goto 4, 3) := by decide +kernel
theorem dX9_menRead_122 : decode cX9_menRead 122 = .ok (.iconst 0, 1) := by decide +kernel
theorem dX9_menRead_123 : decode cX9_menRead 123 = .ok (.invokevirtual 157, 3) := by decide +kernel
theorem dX9_menRead_126 : decode cX9_menRead 126 = .ok (.aload_n 0, 1) := by decide +kernel
theorem dX9_menRead_127 : decode cX9_menRead 127 = .ok (.getfield 146, 3) := by decide +kernel
theorem dX9_menRead_130 : decode cX9_menRead 130 = .ok (.ifCond .eq 7, 3) := by decide +kernel
theorem dX9_menRead_133 : decode cX9_menRead 133 = .ok (.iconst (-1), 1) := by decide +kernel
theorem dX9_menRead_134 : decode cX9_menRead 134 = .ok (.goto 10, 3) := by decide +kernel
theorem dX9_menRead_137 : decode cX9_menRead 137 = .ok (.aload_n 0, 1) := by decide +kernel
theorem dX9_menRead_138 : decode cX9_menRead 138 = .ok (.invokevirtual 150, 3) := by decide +kernel
theorem dX9_menRead_141 : decode cX9_menRead 141 = .ok (.bipush 48, 2) := by decide +kernel
theorem dX9_menRead_143 : decode cX9_menRead 143 = .ok (.isub, 1) := by decide +kernel
theorem dX9_menRead_144 : decode cX9_menRead 144 = .ok (.istore 5, 2) := by decide +kernel
theorem dX9_menRead_146 : decode cX9_menRead 146 = .ok (.aload_n 0, 1) := by decide +kernel
theorem dX9_menRead_147 : decode cX9_menRead 147 = .ok (.iload 5, 2) := by decide +kernel
theorem dX9_menRead_149 : decode cX9_menRead 149 = .ok (.i2l, 1) := by decide +kernel
theorem dX9_menRead_150 : decode cX9_menRead 150 = .ok (.lconst 0, 1) := by decide +kernel
theorem dX9_menRead_151 : decode cX9_menRead 151 = .ok (.ldc2_w 109, 3) := by decide +kernel
theorem dX9_menRead_154 : decode cX9_menRead 154 = .ok (.invokestatic 50, 3) := by decide +kernel
theorem dX9_menRead_157 : decode cX9_menRead 157 = .ok (.invokevirtual 157, 3) := by decide +kernel
theorem dX9_menRead_160 : decode cX9_menRead 160 = .ok (.bipush (-4), 2) := by decide +kernel
theorem dX9_menRead_162 : decode cX9_menRead 162 = .ok (.istore 6, 2) := by decide +kernel
theorem dX9_menRead_164 : decode cX9_menRead 164 = .ok (.aload_n 0, 1) := by decide +kernel
theorem dX9_menRead_165 : decode cX9_menRead 165 = .ok (.getfield 146, 3) := by decide +kernel
theorem dX9_menRead_168 : decode cX9_menRead 168 = .ok (.ifCond .ne 49, 3) := by decide +kernel
theorem dX9_menRead_171 : decode cX9_menRead 171 = .ok (.aload_n 0, 1) := by decide +kernel
theorem dX9_menRead_172 : decode cX9_menRead 172 = .ok (.invokevirtual 150, 3) := by decide +kernel
theorem dX9_menRead_175 : decode cX9_menRead 175 = .ok (.bipush 64, 2) := by decide +kernel
theorem dX9_menRead_177 : decode cX9_menRead 177 = .ok (.if_icmp .ne 40, 3) := by decide +kernel
theorem dX9_menRead_180 : decode cX9_menRead 180 = .ok (.aload_n 0, 1) := by decide +kernel
theorem dX9_menRead_181 : decode cX9_menRead 181 = .ok (.dup, 1) := by decide +kernel
theorem dX9_menRead_182 : decode cX9_menRead 182 = .ok (.getfield 143, 3) := by decide +kernel
theorem dX9_menRead_185 : decode cX9_menRead 185 = .ok (.iconst 1, 1) := by decide +kernel
theorem dX9_menRead_186 : decode cX9_menRead 186 = .ok (.iadd, 1) := by decide +kernel
theorem dX9_menRead_187 : decode cX9_menRead 187 = .ok (.putfield 143, 3) := by decide +kernel
theorem dX9_menRead_190 : decode cX9_menRead 190 = .ok (.aload_n 0, 1) := by decide +kernel
theorem dX9_menRead_191 : decode cX9_menRead 191 = .ok (.bipush 11, 2) := by decide +kernel
theorem dX9_menRead_193 : decode cX9_menRead 193 = .ok (.iload_n 2, 1) := by decide +kernel
theorem dX9_menRead_194 : decode cX9_menRead 194 = .ok (.invokevirtual 161, 3) := by decide +kernel
theorem dX9_menRead_197 : decode cX9_menRead 197 = .ok (.istore 6, 2) := by decide +kernel
theorem dX9_menRead_199 : decode cX9_menRead 199 = .ok (.iload_n 2, 1) := by decide +kernel
theorem dX9_menRead_200 : decode cX9_menRead 200 = .ok (.aload_n 0, 1) := by decide +kernel
theorem dX9_menRead_201 : decode cX9_menRead 201 = .ok (.getfield 146, 3) := by decide +kernel
theorem dX9_menRead_204 : decode cX9_menRead 204 = .ok (.ifCond .eq 7, 3) := by decide +kernel
theorem dX9_menRead_207 : decode cX9_menRead 207 = .ok (.iconst 0, 1) := by decide +kernel
theorem dX9_menRead_208 : decode cX9_menRead 208 = .ok (.goto 7, 3) := by decide +kernel
theorem dX9_menRead_211 : decode cX9_menRead 211 = .ok (.iconst 1, 1) := by decide +kernel
theorem dX9_menRead_212 : decode cX9_menRead 212 = .ok (.iload 6, 2) := by decide +kernel
theorem dX9_menRead_214 : decode cX9_menRead 214 = .ok (.ishl, 1) := by decide +kernel
theorem dX9_menRead_215 : decode cX9_menRead 215 = .ok (.ior, 1) := by decide +kernel
theorem dX9_menRead_216 : decode cX9_menRead 216 = .ok (.istore_n 2, 1) := by decide +kernel
theorem dX9_menRead_217 : decode cX9_menRead 217 = .ok (.aload_n 0, 1) := by decide +kernel
theorem dX9_menRead_218 : decode cX9_menRead 218 = .ok (.getfield 146, 3) := by decide +kernel
theorem dX9_menRead_221 : decode cX9_menRead 221 = .ok (.ifCond .ne 37, 3) := by decide +kernel
theorem dX9_menRead_224 : decode cX9_menRead 224 = .ok (.aload_n 0, 1) := by decide +kernel
theorem dX9_menRead_225 : decode cX9_menRead 225 = .ok (.getfield 19, 3) := by decide +kernel
theorem dX9_menRead_228 : decode cX9_menRead 228 = .ok (.iconst 3, 1) := by decide +kernel
theorem dX9_menRead_229 : decode cX9_menRead 229 = .ok (.iload_n 1, 1) := by decide +kernel
theorem dX9_menRead_230 : decode cX9_menRead 230 = .ok (.imul, 1) := by decide +kernel
theorem dX9_menRead_231 : decode cX9_menRead 231 = .ok (.iload 4, 2) := by decide +kernel
theorem dX9_menRead_233 : decode cX9_menRead 233 = .ok (.iastore, 1) := by decide +kernel
theorem dX9_menRead_234 : decode cX9_menRead 234 = .ok (.aload_n 0, 1) := by decide +kernel
theorem dX9_menRead_235 : decode cX9_menRead 235 = .ok (.getfield 19, 3) := by decide +kernel
theorem dX9_menRead_238 : decode cX9_menRead 238 = .ok (.iconst 3, 1) := by decide +kernel
theorem dX9_menRead_239 : decode cX9_menRead 239 = .ok (.iload_n 1, 1) := by decide +kernel
theorem dX9_menRead_240 : decode cX9_menRead 240 = .ok (.imul, 1) := by decide +kernel
theorem dX9_menRead_241 : decode cX9_menRead 241 = .ok (.iconst 1, 1) := by decide +kernel
theorem dX9_menRead_242 : decode cX9_menRead 242 = .ok (.iadd, 1) := by decide +kernel
theorem dX9_menRead_243 : decode cX9_menRead 243 = .ok (.iload 5, 2) := by decide +kernel
theorem dX9_menRead_245 : decode cX9_menRead 245 = .ok (.iastore, 1) := by decide +kernel
theorem dX9_menRead_246 : decode cX9_menRead 246 = .ok (.aload_n 0, 1) := by decide +kernel
theorem dX9_menRead_247 : decode cX9_menRead 247 = .ok (.getfield 19, 3) := by decide +kernel
theorem dX9_menRead_250 : decode cX9_menRead 250 = .ok (.iconst 3, 1) := by decide +kernel
theorem dX9_menRead_251 : decode cX9_menRead 251 = .ok (.iload_n 1, 1) := by decide +kernel
theorem dX9_menRead_252 : decode cX9_menRead 252 = .ok (.imul, 1) := by decide +kernel
theorem dX9_menRead_253 : decode cX9_menRead 253 = .ok (.iconst 2, 1) := by decide +kernel
theorem dX9_menRead_254 : decode cX9_menRead 254 = .ok (.iadd, 1) := by decide +kernel
theorem dX9_menRead_255 : decode cX9_menRead 255 = .ok (.iload 6, 2) := by decide +kernel
theorem dX9_menRead_257 : decode cX9_menRead 257 = .ok (.iastore, 1) := by decide +kernel
theorem dX9_menRead_258 : decode cX9_menRead 258 = .ok (.iinc 1 1, 3) := by decide +kernel
theorem dX9_menRead_261 : decode cX9_menRead 261 = .ok (.goto (-257), 3) := by decide +kernel
theorem dX9_menRead_264 : decode cX9_menRead 264 = .ok (.iload_n 1, 1) := by decide +kernel
theorem dX9_menRead_265 : decode cX9_menRead 265 = .ok (.ireturn, 1) := by decide +kernel
theorem dX9_rim_0 : decode cX9_rim 0 = .ok (.aload_n 0, 1) := by decide +kernel
theorem dX9_rim_1 : decode cX9_rim 1 = .ok (.iconst 0, 1) := by decide +kernel
theorem dX9_rim_2 : decode cX9_rim 2 = .ok (.putfield 143, 3) := by decide +kernel
theorem dX9_rim_5 : decode cX9_rim 5 = .ok (.aload_n 0, 1) := by decide +kernel
theorem dX9_rim_6 : decode cX9_rim 6 = .ok (.iconst 0, 1) := by decide +kernel
theorem dX9_rim_7 : decode cX9_rim 7 = .ok (.putfield 146, 3) := by decide +kernel
theorem dX9_rim_10 : decode cX9_rim 10 = .ok (.aload_n 0, 1) := by decide +kernel
theorem dX9_rim_11 : decode cX9_rim 11 = .ok (.getfield 16, 3) := by decide +kernel
theorem dX9_rim_14 : decode cX9_rim 14 = .ok (.iconst 0, 1) := by decide +kernel
theorem dX9_rim_15 : decode cX9_rim 15 = .ok (.aload_n 0, 1) := by decide +kernel
theorem dX9_rim_16 : decode cX9_rim 16 = .ok (.bipush 11, 2) := by decide +kernel
theorem dX9_rim_18 : decode cX9_rim 18 = .ok (.iconst 0, 1) := by decide +kernel
theorem dX9_rim_19 : decode cX9_rim 19 = .ok (.invokevirtual 161, 3) := by decide +kernel
theorem dX9_rim_22 : decode cX9_rim 22 = .ok (.iastore, 1) := by decide +kernel
theorem dX9_rim_23 : decode cX9_rim 23 = .ok (.aload_n 0, 1) := by decide +kernel
theorem dX9_rim_24 : decode cX9_rim 24 = .ok (.aload_n 0, 1) := by decide +kernel
theorem dX9_rim_25 : decode cX9_rim 25 = .ok (.getfield 146, 3) := by decide +kernel
theorem dX9_rim_28 : decode cX9_rim 28 = .ok (.ifCond .ne 16, 3) := by decide +kernel
theorem dX9_rim_31 : decode cX9_rim 31 = .ok (.aload_n 0, 1) := by decide +kernel
theorem dX9_rim_32 : decode cX9_rim 32 = .ok (.invokevirtual 150, 3) := by decide +kernel
theorem dX9_rim_35 : decode cX9_rim 35 = .ok (.bipush 43, 2) := by decide +kernel
theorem dX9_rim_37 : decode cX9_rim 37 = .ok (.if_icmp .ne 7, 3) := by decide +kernel
theorem dX9_rim_40 : decode cX9_rim 40 = .ok (.iconst 1, 1) := by decide +kernel
theorem dX9_rim_41 : decode cX9_rim 41 = .ok (.goto 4, 3) := by decide +kernel
theorem dX9_rim_44 : decode cX9_rim 44 = .ok (.iconst 0, 1) := by decide +kernel
theorem dX9_rim_45 : decode cX9_rim 45 = .ok (.invokevirtual 157, 3) := by decide +kernel
theorem dX9_rim_48 : decode cX9_rim 48 = .ok (.aload_n 0, 1) := by decide +kernel
theorem dX9_rim_49 : decode cX9_rim 49 = .ok (.getfield 16, 3) := by decide +kernel
theorem dX9_rim_52 : decode cX9_rim 52 = .ok (.iconst 1, 1) := by decide +kernel
theorem dX9_rim_53 : decode cX9_rim 53 = .ok (.aload_n 0, 1) := by decide +kernel
theorem dX9_rim_54 : decode cX9_rim 54 = .ok (.bipush 11, 2) := by decide +kernel
theorem dX9_rim_56 : decode cX9_rim 56 = .ok (.iconst 0, 1) := by decide +kernel
theorem dX9_rim_57 : decode cX9_rim 57 = .ok (.invokevirtual 161, 3) := by decide +kernel
theorem dX9_rim_60 : decode cX9_rim 60 = .ok (.iastore, 1) := by decide +kernel
theorem dX9_rim_61 : decode cX9_rim 61 = .ok (.aload_n 0, 1) := by decide +kernel
theorem dX9_rim_62 : decode cX9_rim 62 = .ok (.aload_n 0, 1) := by decide +kernel
theorem dX9_rim_63 : decode cX9_rim 63 = .ok (.getfield 146, 3) := by decide +kernel
theorem dX9_rim_66 : decode cX9_rim 66 = .ok (.ifCond .ne 16, 3) := by decide +kernel
theorem dX9_rim_69 : decode cX9_rim 69 = .ok (.aload_n 0, 1) := by decide +kernel
theorem dX9_rim_70 : decode cX9_rim 70 = .ok (.invokevirtual 150, 3) := by decide +kernel
theorem dX9_rim_73 : decode cX9_rim 73 = .ok (.bipush 94, 2) := by decide +kernel
theorem dX9_rim_75 : decode cX9_rim 75 = .ok (.if_icmp .ne 7, 3) := by decide +kernel
theorem dX9_rim_78 : decode cX9_rim 78 = .ok (.iconst 1, 1) := by decide +kernel
theorem dX9_rim_79 : decode cX9_rim 79 = .ok (.goto 4, 3) := by decide +kernel
theorem dX9_rim_82 : decode cX9_rim 82 = .ok (.iconst 0, 1) := by decide +kernel
theorem dX9_rim_83 : decode cX9_rim 83 = .ok (.invokevirtual 157, 3) := by decide +kernel
theorem dX9_rim_86 : decode cX9_rim 86 = .ok (.aload_n 0, 1) := by decide +kernel
theorem dX9_rim_87 : decode cX9_rim 87 = .ok (.getfield 16, 3) := by decide +kernel
theorem dX9_rim_90 : decode cX9_rim 90 = .ok (.iconst 2, 1) := by decide +kernel
theorem dX9_rim_91 : decode cX9_rim 91 = .ok (.aload_n 0, 1) := by decide +kernel
theorem dX9_rim_92 : decode cX9_rim 92 = .ok (.bipush 12, 2) := by decide +kernel
theorem dX9_rim_94 : decode cX9_rim 94 = .ok (.iconst 0, 1) := by decide +kernel
theorem dX9_rim_95 : decode cX9_rim 95 = .ok (.invokevirtual 161, 3) := by decide +kernel
theorem dX9_rim_98 : decode cX9_rim 98 = .ok (.iastore, 1) := by decide +kernel
theorem dX9_rim_99 : decode cX9_rim 99 = .ok (.iconst 0, 1) := by decide +kernel
theorem dX9_rim_100 : decode cX9_rim 100 = .ok (.istore_n 1, 1) := by decide +kernel
theorem dX9_rim_101 : decode cX9_rim 101 = .ok (.aload_n 0, 1) := by decide +kernel
theorem dX9_rim_102 : decode cX9_rim 102 = .ok (.getfield 146, 3) := by decide +kernel
theorem dX9_rim_105 : decode cX9_rim 105 = .ok (.ifCond .ne 27, 3) := by decide +kernel
theorem dX9_rim_108 : decode cX9_rim 108 = .ok (.aload_n 0, 1) := by decide +kernel
theorem dX9_rim_109 : decode cX9_rim 109 = .ok (.invokevirtual 150, 3) := by decide +kernel
theorem dX9_rim_112 : decode cX9_rim 112 = .ok (.bipush 59, 2) := by decide +kernel
theorem dX9_rim_114 : decode cX9_rim 114 = .ok (.if_icmp .ne 18, 3) := by decide +kernel
theorem dX9_rim_117 : decode cX9_rim 117 = .ok (.aload_n 0, 1) := by decide +kernel
theorem dX9_rim_118 : decode cX9_rim 118 = .ok (.dup, 1) := by decide +kernel
theorem dX9_rim_119 : decode cX9_rim 119 = .ok (.getfield 143, 3) := by decide +kernel
theorem dX9_rim_122 : decode cX9_rim 122 = .ok (.iconst 1, 1) := by decide +kernel
theorem dX9_rim_123 : decode cX9_rim 123 = .ok (.iadd, 1) := by decide +kernel
theorem dX9_rim_124 : decode cX9_rim 124 = .ok (.putfield 143, 3) := by decide +kernel
theorem dX9_rim_127 : decode cX9_rim 127 = .ok (.aload_n 0, 1) := by decide +kernel
theorem dX9_rim_128 : decode cX9_rim 128 = .ok (.invokevirtual 164, 3) := by decide +kernel
theorem dX9_rim_131 : decode cX9_rim 131 = .ok (.istore_n 1, 1) := by decide +kernel
theorem dX9_rim_132 : decode cX9_rim 132 = .ok (.aload_n 0, 1) := by decide +kernel
theorem dX9_rim_133 : decode cX9_rim 133 = .ok (.aload_n 0, 1) := by decide +kernel
theorem dX9_rim_134 : decode cX9_rim 134 = .ok (.getfield 146, 3) := by decide +kernel
theorem dX9_rim_137 : decode cX9_rim 137 = .ok (.ifCond .ne 10, 3) := by decide +kernel
theorem dX9_rim_140 : decode cX9_rim 140 = .ok (.aload_n 0, 1) := by decide +kernel
theorem dX9_rim_141 : decode cX9_rim 141 = .ok (.invokevirtual 150, 3) := by decide +kernel
theorem dX9_rim_144 : decode cX9_rim 144 = .ok (.ifCond .eq 7, 3) := by decide +kernel
theorem dX9_rim_147 : decode cX9_rim 147 = .ok (.iconst 1, 1) := by decide +kernel
theorem dX9_rim_148 : decode cX9_rim 148 = .ok (.goto 4, 3) := by decide +kernel
theorem dX9_rim_151 : decode cX9_rim 151 = .ok (.iconst 0, 1) := by decide +kernel
theorem dX9_rim_152 : decode cX9_rim 152 = .ok (.putfield 146, 3) := by decide +kernel
theorem dX9_rim_155 : decode cX9_rim 155 = .ok (.aload_n 0, 1) := by decide +kernel
theorem dX9_rim_156 : decode cX9_rim 156 = .ok (.iconst 0, 1) := by decide +kernel
theorem dX9_rim_157 : decode cX9_rim 157 = .ok (.putfield 140, 3) := by decide +kernel
theorem dX9_rim_160 : decode cX9_rim 160 = .ok (.aload_n 0, 1) := by decide +kernel
theorem dX9_rim_161 : decode cX9_rim 161 = .ok (.getfield 146, 3) := by decide +kernel
theorem dX9_rim_164 : decode cX9_rim 164 = .ok (.ifCond .eq 11, 3) := by decide +kernel
theorem dX9_rim_167 : decode cX9_rim 167 = .ok (.bipush (-20), 2) := by decide +kernel
theorem dX9_rim_169 : decode cX9_rim 169 = .ok (.aload_n 0, 1) := by decide +kernel
theorem dX9_rim_170 : decode cX9_rim 170 = .ok (.getfield 143, 3) := by decide +kernel
theorem dX9_rim_173 : decode cX9_rim 173 = .ok (.isub, 1) := by decide +kernel
theorem dX9_rim_174 : decode cX9_rim 174 = .ok (.ireturn, 1) := by decide +kernel
theorem dX9_rim_175 : decode cX9_rim 175 = .ok (.aload_n 0, 1) := by decide +kernel
theorem dX9_rim_176 : decode cX9_rim 176 = .ok (.getfield 7, 3) := by decide +kernel
theorem dX9_rim_179 : decode cX9_rim 179 = .ok (.iconst 0, 1) := by decide +kernel
theorem dX9_rim_180 : decode cX9_rim 180 = .ok (.iconst 0, 1) := by decide +kernel
theorem dX9_rim_181 : decode cX9_rim 181 = .ok (.iastore, 1) := by decide +kernel
theorem dX9_rim_182 : decode cX9_rim 182 = .ok (.aload_n 0, 1) := by decide +kernel
theorem dX9_rim_183 : decode cX9_rim 183 = .ok (.getfield 7, 3) := by decide +kernel
theorem dX9_rim_186 : decode cX9_rim 186 = .ok (.iconst 1, 1) := by decide +kernel
theorem dX9_rim_187 : decode cX9_rim 187 = .ok (.iconst 0, 1) := by decide +kernel
theorem dX9_rim_188 : decode cX9_rim 188 = .ok (.iastore, 1) := by decide +kernel
theorem dX9_rim_189 : decode cX9_rim 189 = .ok (.aload_n 0, 1) := by decide +kernel
theorem dX9_rim_190 : decode cX9_rim 190 = .ok (.iconst 0, 1) := by decide +kernel
theorem dX9_rim_191 : decode cX9_rim 191 = .ok (.putfield 103, 3) := by decide +kernel
theorem dX9_rim_194 : decode cX9_rim 194 = .ok (.iconst 0, 1) := by decide +kernel
theorem dX9_rim_195 : decode cX9_rim 195 = .ok (.istore_n 2, 1) := by decide +kernel
theorem dX9_rim_196 : decode cX9_rim 196 = .ok (.iload_n 2, 1) := by decide +kernel
theorem dX9_rim_197 : decode cX9_rim 197 = .ok (.iconst 3, 1) := by decide +kernel
theorem dX9_rim_198 : decode cX9_rim 198 = .ok (.if_icmp .ge 23, 3) := by decide +kernel
theorem dX9_rim_201 : decode cX9_rim 201 = .ok (.aload_n 0, 1) := by decide +kernel
theorem dX9_rim_202 : decode cX9_rim 202 = .ok (.getfield 7, 3) := by decide +kernel
theorem dX9_rim_205 : decode cX9_rim 205 = .ok (.iconst 2, 1) := by decide +kernel
theorem dX9_rim_206 : decode cX9_rim 206 = .ok (.iload_n 2, 1) := by decide +kernel
theorem dX9_rim_207 : decode cX9_rim 207 = .ok (.iadd, 1) := by decide +kernel
theorem dX9_rim_208 : decode cX9_rim 208 = .ok (.aload_n 0, 1) := by decide +kernel
theorem dX9_rim_209 : decode cX9_rim 209 = .ok (.getfield 16, 3) := by decide +kernel
theorem dX9_rim_212 : decode cX9_rim 212 = .ok (.iload_n 2, 1) := by decide +kernel
theorem dX9_rim_213 : decode cX9_rim 213 = .ok (.iaload, 1) := by decide +kernel
theorem dX9_rim_214 : decode cX9_rim 214 = .ok (.iastore, 1) := by decide +kernel
theorem dX9_rim_215 : decode cX9_rim 215 = .ok (.iinc 2 1, 3) := by decide +kernel
theorem dX9_rim_218 : decode cX9_rim 218 = .ok (.goto (-22), 3) := by decide +kernel
theorem dX9_rim_221 : decode cX9_rim 221 = .ok (.iconst 0, 1) := by decide +kernel
theorem dX9_rim_222 : decode cX9_rim 222 = .ok (.istore_n 2, 1) := by decide +kernel
theorem dX9_rim_223 : decode cX9_rim 223 = .ok (.iload_n 2, 1) := by decide +kernel
theorem dX9_rim_224 : decode cX9_rim 224 = .ok (.iload_n 1, 1) := by decide +kernel
theorem dX9_rim_225 : decode cX9_rim 225 = .ok (.if_icmp .ge 41, 3) := by decide +kernel
theorem dX9_rim_228 : decode cX9_rim 228 = .ok (.aload_n 0, 1) := by decide +kernel
theorem dX9_rim_229 : decode cX9_rim 229 = .ok (.aload_n 0, 1) := by decide +kernel
theorem dX9_rim_230 : decode cX9_rim 230 = .ok (.getfield 19, 3) := by decide +kernel
theorem dX9_rim_233 : decode cX9_rim 233 = .ok (.iconst 3, 1) := by decide +kernel
theorem dX9_rim_234 : decode cX9_rim 234 = .ok (.iload_n 2, 1) := by decide +kernel
theorem dX9_rim_235 : decode cX9_rim 235 = .ok (.imul, 1) := by decide +kernel
theorem dX9_rim_236 : decode cX9_rim 236 = .ok (.iaload, 1) := by decide +kernel
theorem dX9_rim_237 : decode cX9_rim 237 = .ok (.aload_n 0, 1) := by decide +kernel
theorem dX9_rim_238 : decode cX9_rim 238 = .ok (.getfield 19, 3) := by decide +kernel
theorem dX9_rim_241 : decode cX9_rim 241 = .ok (.iconst 3, 1) := by decide +kernel
theorem dX9_rim_242 : decode cX9_rim 242 = .ok (.iload_n 2, 1) := by decide +kernel
theorem dX9_rim_243 : decode cX9_rim 243 = .ok (.imul, 1) := by decide +kernel
theorem dX9_rim_244 : decode cX9_rim 244 = .ok (.iconst 1, 1) := by decide +kernel
theorem dX9_rim_245 : decode cX9_rim 245 = .ok (.iadd, 1) := by decide +kernel
theorem dX9_rim_246 : decode cX9_rim 246 = .ok (.iaload, 1) := by decide +kernel
theorem dX9_rim_247 : decode cX9_rim 247 = .ok (.aload_n 0, 1) := by decide +kernel
theorem dX9_rim_248 : decode cX9_rim 248 = .ok (.getfield 19, 3) := by decide +kernel
theorem dX9_rim_251 : decode cX9_rim 251 = .ok (.iconst 3, 1) := by decide +kernel
theorem dX9_rim_252 : decode cX9_rim 252 = .ok (.iload_n 2, 1) := by decide +kernel
theorem dX9_rim_253 : decode cX9_rim 253 = .ok (.imul, 1) := by decide +kernel
theorem dX9_rim_254 : decode cX9_rim 254 = .ok (.iconst 2, 1) := by decide +kernel
theorem dX9_rim_255 : decode cX9_rim 255 = .ok (.iadd, 1) := by decide +kernel
theorem dX9_rim_256 : decode cX9_rim 256 = .ok (.iaload, 1) := by decide +kernel
theorem dX9_rim_257 : decode cX9_rim 257 = .ok (.invokevirtual 117, 3) := by decide +kernel
theorem dX9_rim_260 : decode cX9_rim 260 = .ok (.iinc 2 1, 3) := by decide +kernel
theorem dX9_rim_263 : decode cX9_rim 263 = .ok (.goto (-40), 3) := by decide +kernel
theorem dX9_rim_266 : decode cX9_rim 266 = .ok (.iload_n 1, 1) := by decide +kernel
theorem dX9_rim_267 : decode cX9_rim 267 = .ok (.ireturn, 1) := by decide +kernel
theorem dX9_notes_0 : decode cX9_notes 0 = .ok (.aload_n 0, 1) := by decide +kernel
theorem dX9_notes_1 : decode cX9_notes 1 = .ok (.getfield 103, 3) := by decide +kernel
theorem dX9_notes_4 : decode cX9_notes 4 = .ok (.bipush 8, 2) := by decide +kernel
theorem dX9_notes_6 : decode cX9_notes 6 = .ok (.if_icmp .ne 39, 3) := by decide +kernel
theorem dX9_notes_9 : decode cX9_notes 9 = .ok (.bipush 14, 2) := by decide +kernel
theorem dX9_notes_11 : decode cX9_notes 11 = .ok (.istore_n 1, 1) := by decide +kernel
theorem dX9_notes_12 : decode cX9_notes 12 = .ok (.iload_n 1, 1) := by decide +kernel
theorem dX9_notes_13 : decode cX9_notes 13 = .ok (.bipush 112, 2) := by decide +kernel
theorem dX9_notes_15 : decode cX9_notes 15 = .ok (.if_icmp .ge 24, 3) := by decide +kernel
theorem dX9_notes_18 : decode cX9_notes 18 = .ok (.aload_n 0, 1) := by decide +kernel
theorem dX9_notes_19 : decode cX9_notes 19 = .ok (.getfield 22, 3) := by decide +kernel
theorem dX9_notes_22 : decode cX9_notes 22 = .ok (.iload_n 1, 1) := by decide +kernel
theorem dX9_notes_23 : decode cX9_notes 23 = .ok (.bipush 14, 2) := by decide +kernel
theorem dX9_notes_25 : decode cX9_notes 25 = .ok (.isub, 1) := by decide +kernel
theorem dX9_notes_26 : decode cX9_notes 26 = .ok (.aload_n 0, 1) := by decide +kernel
theorem dX9_notes_27 : decode cX9_notes 27 = .ok (.getfield 22, 3) := by decide +kernel
theorem dX9_notes_30 : decode cX9_notes 30 = .ok (.iload_n 1, 1) := by decide +kernel
theorem dX9_notes_31 : decode cX9_notes 31 = .ok (.iaload, 1) := by decide +kernel
theorem dX9_notes_32 : decode cX9_notes 32 = .ok (.iastore, 1) := by decide +kernel
theorem dX9_notes_33 : decode cX9_notes 33 = .ok (.iinc 1 1, 3) := by decide +kernel
theorem dX9_notes_36 : decode cX9_notes 36 = .ok (.goto (-24), 3) := by decide +kernel
theorem dX9_notes_39 : decode cX9_notes 39 = .ok (.aload_n 0, 1) := by decide +kernel
theorem dX9_notes_40 : decode cX9_notes 40 = .ok (.bipush 7, 2) := by decide +kernel
theorem dX9_notes_42 : decode cX9_notes 42 = .ok (.putfield 103, 3) := by decide +kernel
theorem dX9_notes_45 : decode cX9_notes 45 = .ok (.bipush 14, 2) := by decide +kernel
theorem dX9_notes_47 : decode cX9_notes 47 = .ok (.aload_n 0, 1) := by decide +kernel
theorem dX9_notes_48 : decode cX9_notes 48 = .ok (.getfield 103, 3) := by decide +kernel
theorem dX9_notes_51 : decode cX9_notes 51 = .ok (.imul, 1) := by decide +kernel
theorem dX9_notes_52 : decode cX9_notes 52 = .ok (.istore_n 1, 1) := by decide +kernel
theorem dX9_notes_53 : decode cX9_notes 53 = .ok (.aload_n 0, 1) := by decide +kernel
theorem dX9_notes_54 : decode cX9_notes 54 = .ok (.getfield 22, 3) := by decide +kernel
theorem dX9_notes_57 : decode cX9_notes 57 = .ok (.iload_n 1, 1) := by decide +kernel
theorem dX9_notes_58 : decode cX9_notes 58 = .ok (.aload_n 0, 1) := by decide +kernel
theorem dX9_notes_59 : decode cX9_notes 59 = .ok (.getfield 7, 3) := by decide +kernel
theorem dX9_notes_62 : decode cX9_notes 62 = .ok (.iconst 1, 1) := by decide +kernel
theorem dX9_notes_63 : decode cX9_notes 63 = .ok (.iaload, 1) := by decide +kernel
theorem dX9_notes_64 : decode cX9_notes 64 = .ok (.iastore, 1) := by decide +kernel
theorem dX9_notes_65 : decode cX9_notes 65 = .ok (.aload_n 0, 1) := by decide +kernel
theorem dX9_notes_66 : decode cX9_notes 66 = .ok (.getfield 22, 3) := by decide +kernel
theorem dX9_notes_69 : decode cX9_notes 69 = .ok (.iload_n 1, 1) := by decide +kernel
theorem dX9_notes_70 : decode cX9_notes 70 = .ok (.iconst 1, 1) := by decide +kernel
theorem dX9_notes_71 : decode cX9_notes 71 = .ok (.iadd, 1) := by decide +kernel
theorem dX9_notes_72 : decode cX9_notes 72 = .ok (.aload_n 0, 1) := by decide +kernel
theorem dX9_notes_73 : decode cX9_notes 73 = .ok (.getfield 7, 3) := by decide +kernel
theorem dX9_notes_76 : decode cX9_notes 76 = .ok (.iconst 5, 1) := by decide +kernel
theorem dX9_notes_77 : decode cX9_notes 77 = .ok (.iaload, 1) := by decide +kernel
theorem dX9_notes_78 : decode cX9_notes 78 = .ok (.iastore, 1) := by decide +kernel
theorem dX9_notes_79 : decode cX9_notes 79 = .ok (.iconst 0, 1) := by decide +kernel
theorem dX9_notes_80 : decode cX9_notes 80 = .ok (.istore_n 2, 1) := by decide +kernel
theorem dX9_notes_81 : decode cX9_notes 81 = .ok (.iload_n 2, 1) := by decide +kernel
theorem dX9_notes_82 : decode cX9_notes 82 = .ok (.bipush 6, 2) := by decide +kernel
theorem dX9_notes_84 : decode cX9_notes 84 = .ok (.if_icmp .ge 40, 3) := by decide +kernel
theorem dX9_notes_87 : decode cX9_notes 87 = .ok (.aload_n 0, 1) := by decide +kernel
theorem dX9_notes_88 : decode cX9_notes 88 = .ok (.getfield 22, 3) := by decide +kernel
theorem dX9_notes_91 : decode cX9_notes 91 = .ok (.iload_n 1, 1) := by decide +kernel
theorem dX9_notes_92 : decode cX9_notes 92 = .ok (.iconst 2, 1) := by decide +kernel
theorem dX9_notes_93 : decode cX9_notes 93 = .ok (.iadd, 1) := by decide +kernel
theorem dX9_notes_94 : decode cX9_notes 94 = .ok (.iload_n 2, 1) := by decide +kernel
theorem dX9_notes_95 : decode cX9_notes 95 = .ok (.iadd, 1) := by decide +kernel
theorem dX9_notes_96 : decode cX9_notes 96 = .ok (.aload_n 0, 1) := by decide +kernel
theorem dX9_notes_97 : decode cX9_notes 97 = .ok (.iload_n 2, 1) := by decide +kernel
theorem dX9_notes_98 : decode cX9_notes 98 = .ok (.invokevirtual 73, 3) := by decide +kernel
theorem dX9_notes_101 : decode cX9_notes 101 = .ok (.iastore, 1) := by decide +kernel
theorem dX9_notes_102 : decode cX9_notes 102 = .ok (.aload_n 0, 1) := by decide +kernel
theorem dX9_notes_103 : decode cX9_notes 103 = .ok (.getfield 22, 3) := by decide +kernel
theorem dX9_notes_106 : decode cX9_notes 106 = .ok (.iload_n 1, 1) := by decide +kernel
theorem dX9_notes_107 : decode cX9_notes 107 = .ok (.bipush 8, 2) := by decide +kernel
theorem dX9_notes_109 : decode cX9_notes 109 = .ok (.iadd, 1) := by decide +kernel
theorem dX9_notes_110 : decode cX9_notes 110 = .ok (.iload_n 2, 1) := by decide +kernel
theorem dX9_notes_111 : decode cX9_notes 111 = .ok (.iadd, 1) := by decide +kernel
theorem dX9_notes_112 : decode cX9_notes 112 = .ok (.aload_n 0, 1) := by decide +kernel
theorem dX9_notes_113 : decode cX9_notes 113 = .ok (.iload_n 2, 1) := by decide +kernel
theorem dX9_notes_114 : decode cX9_notes 114 = .ok (.invokevirtual 60, 3) := by decide +kernel
theorem dX9_notes_117 : decode cX9_notes 117 = .ok (.iastore, 1) := by decide +kernel
theorem dX9_notes_118 : decode cX9_notes 118 = .ok (.iinc 2 1, 3) := by decide +kernel
theorem dX9_notes_121 : decode cX9_notes 121 = .ok (.goto (-40), 3) := by decide +kernel
theorem dX9_notes_124 : decode cX9_notes 124 = .ok (.aload_n 0, 1) := by decide +kernel
theorem dX9_notes_125 : decode cX9_notes 125 = .ok (.dup, 1) := by decide +kernel
theorem dX9_notes_126 : decode cX9_notes 126 = .ok (.getfield 103, 3) := by decide +kernel
theorem dX9_notes_129 : decode cX9_notes 129 = .ok (.iconst 1, 1) := by decide +kernel
theorem dX9_notes_130 : decode cX9_notes 130 = .ok (.iadd, 1) := by decide +kernel
theorem dX9_notes_131 : decode cX9_notes 131 = .ok (.putfield 103, 3) := by decide +kernel
theorem dX9_notes_134 : decode cX9_notes 134 = .ok (.return_, 1) := by decide +kernel
theorem dX9_nights_0 : decode cX9_nights 0 = .ok (.iload_n 1, 1) := by decide +kernel
theorem dX9_nights_1 : decode cX9_nights 1 = .ok (.i2l, 1) := by decide +kernel
theorem dX9_nights_2 : decode cX9_nights 2 = .ok (.lconst 1, 1) := by decide +kernel
theorem dX9_nights_3 : decode cX9_nights 3 = .ok (.ldc2_w 167, 3) := by decide +kernel
theorem dX9_nights_6 : decode cX9_nights 6 = .ok (.invokestatic 50, 3) := by decide +kernel
theorem dX9_nights_9 : decode cX9_nights 9 = .ok (.ifCond .ne 5, 3) := by decide +kernel
theorem dX9_nights_12 : decode cX9_nights 12 = .ok (.iconst (-1), 1) := by decide +kernel
theorem dX9_nights_13 : decode cX9_nights 13 = .ok (.ireturn, 1) := by decide +kernel
theorem dX9_nights_14 : decode cX9_nights 14 = .ok (.aload_n 0, 1) := by decide +kernel
theorem dX9_nights_15 : decode cX9_nights 15 = .ok (.getfield 7, 3) := by decide +kernel
theorem dX9_nights_18 : decode cX9_nights 18 = .ok (.iconst 1, 1) := by decide +kernel
theorem dX9_nights_19 : decode cX9_nights 19 = .ok (.iaload, 1) := by decide +kernel
theorem dX9_nights_20 : decode cX9_nights 20 = .ok (.iload_n 1, 1) := by decide +kernel
theorem dX9_nights_21 : decode cX9_nights 21 = .ok (.iadd, 1) := by decide +kernel
theorem dX9_nights_22 : decode cX9_nights 22 = .ok (.sipush 9999, 3) := by decide +kernel
theorem dX9_nights_25 : decode cX9_nights 25 = .ok (.if_icmp .le 6, 3) := by decide +kernel
theorem dX9_nights_28 : decode cX9_nights 28 = .ok (.bipush (-3), 2) := by decide +kernel
theorem dX9_nights_30 : decode cX9_nights 30 = .ok (.ireturn, 1) := by decide +kernel
theorem dX9_nights_31 : decode cX9_nights 31 = .ok (.iconst 0, 1) := by decide +kernel
theorem dX9_nights_32 : decode cX9_nights 32 = .ok (.istore_n 2, 1) := by decide +kernel
theorem dX9_nights_33 : decode cX9_nights 33 = .ok (.iload_n 2, 1) := by decide +kernel
theorem dX9_nights_34 : decode cX9_nights 34 = .ok (.iload_n 1, 1) := by decide +kernel
theorem dX9_nights_35 : decode cX9_nights 35 = .ok (.if_icmp .ge 18, 3) := by decide +kernel
theorem dX9_nights_38 : decode cX9_nights 38 = .ok (.aload_n 0, 1) := by decide +kernel
theorem dX9_nights_39 : decode cX9_nights 39 = .ok (.invokevirtual 169, 3) := by decide +kernel
theorem dX9_nights_42 : decode cX9_nights 42 = .ok (.aload_n 0, 1) := by decide +kernel
theorem dX9_nights_43 : decode cX9_nights 43 = .ok (.iconst 0, 1) := by decide +kernel
theorem dX9_nights_44 : decode cX9_nights 44 = .ok (.invokevirtual 99, 3) := by decide +kernel
theorem dX9_nights_47 : decode cX9_nights 47 = .ok (.iinc 2 1, 3) := by decide +kernel
theorem dX9_nights_50 : decode cX9_nights 50 = .ok (.goto (-17), 3) := by decide +kernel
theorem dX9_nights_53 : decode cX9_nights 53 = .ok (.aload_n 0, 1) := by decide +kernel
theorem dX9_nights_54 : decode cX9_nights 54 = .ok (.invokevirtual 82, 3) := by decide +kernel
theorem dX9_nights_57 : decode cX9_nights 57 = .ok (.ireturn, 1) := by decide +kernel
theorem dX9_march_0 : decode cX9_march 0 = .ok (.aload_n 0, 1) := by decide +kernel
theorem dX9_march_1 : decode cX9_march 1 = .ok (.iload_n 1, 1) := by decide +kernel
theorem dX9_march_2 : decode cX9_march 2 = .ok (.invokevirtual 123, 3) := by decide +kernel
theorem dX9_march_5 : decode cX9_march 5 = .ok (.ifCond .eq 10, 3) := by decide +kernel
theorem dX9_march_8 : decode cX9_march 8 = .ok (.iload_n 2, 1) := by decide +kernel
theorem dX9_march_9 : decode cX9_march 9 = .ok (.invokestatic 111, 3) := by decide +kernel
theorem dX9_march_12 : decode cX9_march 12 = .ok (.ifCond .ne 5, 3) := by decide +kernel
theorem dX9_march_15 : decode cX9_march 15 = .ok (.iconst (-1), 1) := by decide +kernel
theorem dX9_march_16 : decode cX9_march 16 = .ok (.ireturn, 1) := by decide +kernel
theorem dX9_march_17 : decode cX9_march 17 = .ok (.aload_n 0, 1) := by decide +kernel
theorem dX9_march_18 : decode cX9_march 18 = .ok (.iload_n 1, 1) := by decide +kernel
theorem dX9_march_19 : decode cX9_march 19 = .ok (.invokevirtual 69, 3) := by decide +kernel
theorem dX9_march_22 : decode cX9_march 22 = .ok (.ifCond .eq 13, 3) := by decide +kernel
theorem dX9_march_25 : decode cX9_march 25 = .ok (.aload_n 0, 1) := by decide +kernel
theorem dX9_march_26 : decode cX9_march 26 = .ok (.iload_n 2, 1) := by decide +kernel
theorem dX9_march_27 : decode cX9_march 27 = .ok (.invokevirtual 114, 3) := by decide +kernel
theorem dX9_march_30 : decode cX9_march 30 = .ok (.bipush (-4), 2) := by decide +kernel
theorem dX9_march_32 : decode cX9_march 32 = .ok (.if_icmp .eq 6, 3) := by decide +kernel
theorem dX9_march_35 : decode cX9_march 35 = .ok (.bipush (-2), 2) := by decide +kernel
theorem dX9_march_37 : decode cX9_march 37 = .ok (.ireturn, 1) := by decide +kernel
theorem dX9_march_38 : decode cX9_march 38 = .ok (.aload_n 0, 1) := by decide +kernel
theorem dX9_march_39 : decode cX9_march 39 = .ok (.invokevirtual 169, 3) := by decide +kernel
theorem dX9_march_42 : decode cX9_march 42 = .ok (.aload_n 0, 1) := by decide +kernel
theorem dX9_march_43 : decode cX9_march 43 = .ok (.iload_n 1, 1) := by decide +kernel
theorem dX9_march_44 : decode cX9_march 44 = .ok (.invokevirtual 60, 3) := by decide +kernel
theorem dX9_march_47 : decode cX9_march 47 = .ok (.istore_n 3, 1) := by decide +kernel
theorem dX9_march_48 : decode cX9_march 48 = .ok (.aload_n 0, 1) := by decide +kernel
theorem dX9_march_49 : decode cX9_march 49 = .ok (.iload_n 1, 1) := by decide +kernel
theorem dX9_march_50 : decode cX9_march 50 = .ok (.iload_n 2, 1) := by decide +kernel
theorem dX9_march_51 : decode cX9_march 51 = .ok (.invokevirtual 92, 3) := by decide +kernel
theorem dX9_march_54 : decode cX9_march 54 = .ok (.iload_n 3, 1) := by decide +kernel
theorem dX9_march_55 : decode cX9_march 55 = .ok (.ireturn, 1) := by decide +kernel
theorem dX9_put_0 : decode cX9_put 0 = .ok (.aload_n 0, 1) := by decide +kernel
theorem dX9_put_1 : decode cX9_put 1 = .ok (.iload_n 1, 1) := by decide +kernel
theorem dX9_put_2 : decode cX9_put 2 = .ok (.invokevirtual 123, 3) := by decide +kernel
theorem dX9_put_5 : decode cX9_put 5 = .ok (.ifCond .eq 10, 3) := by decide +kernel
theorem dX9_put_8 : decode cX9_put 8 = .ok (.iload_n 2, 1) := by decide +kernel
theorem dX9_put_9 : decode cX9_put 9 = .ok (.invokestatic 111, 3) := by decide +kernel
theorem dX9_put_12 : decode cX9_put 12 = .ok (.ifCond .ne 5, 3) := by decide +kernel
theorem dX9_put_15 : decode cX9_put 15 = .ok (.iconst (-1), 1) := by decide +kernel
theorem dX9_put_16 : decode cX9_put 16 = .ok (.ireturn, 1) := by decide +kernel
theorem dX9_put_17 : decode cX9_put 17 = .ok (.aload_n 0, 1) := by decide +kernel
theorem dX9_put_18 : decode cX9_put 18 = .ok (.iload_n 1, 1) := by decide +kernel
theorem dX9_put_19 : decode cX9_put 19 = .ok (.invokevirtual 69, 3) := by decide +kernel
theorem dX9_put_22 : decode cX9_put 22 = .ok (.ifCond .ne 13, 3) := by decide +kernel
theorem dX9_put_25 : decode cX9_put 25 = .ok (.aload_n 0, 1) := by decide +kernel
theorem dX9_put_26 : decode cX9_put 26 = .ok (.iload_n 2, 1) := by decide +kernel
theorem dX9_put_27 : decode cX9_put 27 = .ok (.invokevirtual 114, 3) := by decide +kernel
theorem dX9_put_30 : decode cX9_put 30 = .ok (.bipush (-4), 2) := by decide +kernel
theorem dX9_put_32 : decode cX9_put 32 = .ok (.if_icmp .eq 6, 3) := by decide +kernel
theorem dX9_put_35 : decode cX9_put 35 = .ok (.bipush (-2), 2) := by decide +kernel
theorem dX9_put_37 : decode cX9_put 37 = .ok (.ireturn, 1) := by decide +kernel
theorem dX9_put_38 : decode cX9_put 38 = .ok (.aload_n 0, 1) := by decide +kernel
theorem dX9_put_39 : decode cX9_put 39 = .ok (.invokevirtual 169, 3) := by decide +kernel
theorem dX9_put_42 : decode cX9_put 42 = .ok (.aload_n 0, 1) := by decide +kernel
theorem dX9_put_43 : decode cX9_put 43 = .ok (.iload_n 1, 1) := by decide +kernel
theorem dX9_put_44 : decode cX9_put 44 = .ok (.iload_n 2, 1) := by decide +kernel
theorem dX9_put_45 : decode cX9_put 45 = .ok (.invokevirtual 92, 3) := by decide +kernel
theorem dX9_put_48 : decode cX9_put 48 = .ok (.aload_n 0, 1) := by decide +kernel
theorem dX9_put_49 : decode cX9_put 49 = .ok (.invokevirtual 82, 3) := by decide +kernel
theorem dX9_put_52 : decode cX9_put 52 = .ok (.invokestatic 79, 3) := by decide +kernel
theorem dX9_put_55 : decode cX9_put 55 = .ok (.ireturn, 1) := by decide +kernel
theorem dX9_paint_0 : decode cX9_paint 0 = .ok (.aload_n 0, 1) := by decide +kernel
theorem dX9_paint_1 : decode cX9_paint 1 = .ok (.iload_n 1, 1) := by decide +kernel
theorem dX9_paint_2 : decode cX9_paint 2 = .ok (.invokevirtual 123, 3) := by decide +kernel
theorem dX9_paint_5 : decode cX9_paint 5 = .ok (.ifCond .eq 15, 3) := by decide +kernel
theorem dX9_paint_8 : decode cX9_paint 8 = .ok (.iload_n 2, 1) := by decide +kernel
theorem dX9_paint_9 : decode cX9_paint 9 = .ok (.i2l, 1) := by decide +kernel
theorem dX9_paint_10 : decode cX9_paint 10 = .ok (.lconst 1, 1) := by decide +kernel
theorem dX9_paint_11 : decode cX9_paint 11 = .ok (.ldc2_w 109, 3) := by decide +kernel
theorem dX9_paint_14 : decode cX9_paint 14 = .ok (.invokestatic 50, 3) := by decide +kernel
theorem dX9_paint_17 : decode cX9_paint 17 = .ok (.ifCond .ne 5, 3) := by decide +kernel
theorem dX9_paint_20 : decode cX9_paint 20 = .ok (.iconst (-1), 1) := by decide +kernel
theorem dX9_paint_21 : decode cX9_paint 21 = .ok (.ireturn, 1) := by decide +kernel
theorem dX9_paint_22 : decode cX9_paint 22 = .ok (.aload_n 0, 1) := by decide +kernel
theorem dX9_paint_23 : decode cX9_paint 23 = .ok (.iload_n 1, 1) := by decide +kernel
theorem dX9_paint_24 : decode cX9_paint 24 = .ok (.invokevirtual 73, 3) := by decide +kernel
theorem dX9_paint_27 : decode cX9_paint 27 = .ok (.bipush 9, 2) := by decide +kernel
theorem dX9_paint_29 : decode cX9_paint 29 = .ok (.if_icmp .ne 6, 3) := by decide +kernel
theorem dX9_paint_32 : decode cX9_paint 32 = .ok (.bipush (-2), 2) := by decide +kernel
theorem dX9_paint_34 : decode cX9_paint 34 = .ok (.ireturn, 1) := by decide +kernel
theorem dX9_paint_35 : decode cX9_paint 35 = .ok (.aload_n 0, 1) := by decide +kernel
theorem dX9_paint_36 : decode cX9_paint 36 = .ok (.invokevirtual 169, 3) := by decide +kernel
theorem dX9_paint_39 : decode cX9_paint 39 = .ok (.aload_n 0, 1) := by decide +kernel
theorem dX9_paint_40 : decode cX9_paint 40 = .ok (.iload_n 1, 1) := by decide +kernel
theorem dX9_paint_41 : decode cX9_paint 41 = .ok (.aload_n 0, 1) := by decide +kernel
theorem dX9_paint_42 : decode cX9_paint 42 = .ok (.iload_n 1, 1) := by decide +kernel
theorem dX9_paint_43 : decode cX9_paint 43 = .ok (.invokevirtual 73, 3) := by decide +kernel
theorem dX9_paint_46 : decode cX9_paint 46 = .ok (.iload_n 2, 1) := by decide +kernel
theorem dX9_paint_47 : decode cX9_paint 47 = .ok (.iadd, 1) := by decide +kernel
theorem dX9_paint_48 : decode cX9_paint 48 = .ok (.invokevirtual 96, 3) := by decide +kernel
theorem dX9_paint_51 : decode cX9_paint 51 = .ok (.aload_n 0, 1) := by decide +kernel
theorem dX9_paint_52 : decode cX9_paint 52 = .ok (.iload_n 1, 1) := by decide +kernel
theorem dX9_paint_53 : decode cX9_paint 53 = .ok (.invokevirtual 73, 3) := by decide +kernel
theorem dX9_paint_56 : decode cX9_paint 56 = .ok (.ireturn, 1) := by decide +kernel
theorem dX9_drift_0 : decode cX9_drift 0 = .ok (.iload_n 1, 1) := by decide +kernel
theorem dX9_drift_1 : decode cX9_drift 1 = .ok (.i2l, 1) := by decide +kernel
theorem dX9_drift_2 : decode cX9_drift 2 = .ok (.lconst 1, 1) := by decide +kernel
theorem dX9_drift_3 : decode cX9_drift 3 = .ok (.ldc2_w 167, 3) := by decide +kernel
theorem dX9_drift_6 : decode cX9_drift 6 = .ok (.invokestatic 50, 3) := by decide +kernel
theorem dX9_drift_9 : decode cX9_drift 9 = .ok (.ifCond .ne 5, 3) := by decide +kernel
theorem dX9_drift_12 : decode cX9_drift 12 = .ok (.iconst (-1), 1) := by decide +kernel
theorem dX9_drift_13 : decode cX9_drift 13 = .ok (.ireturn, 1) := by decide +kernel
theorem dX9_drift_14 : decode cX9_drift 14 = .ok (.aload_n 0, 1) := by decide +kernel
theorem dX9_drift_15 : decode cX9_drift 15 = .ok (.getfield 7, 3) := by decide +kernel
theorem dX9_drift_18 : decode cX9_drift 18 = .ok (.iconst 1, 1) := by decide +kernel
theorem dX9_drift_19 : decode cX9_drift 19 = .ok (.iaload, 1) := by decide +kernel
theorem dX9_drift_20 : decode cX9_drift 20 = .ok (.iload_n 1, 1) := by decide +kernel
theorem dX9_drift_21 : decode cX9_drift 21 = .ok (.iadd, 1) := by decide +kernel
theorem dX9_drift_22 : decode cX9_drift 22 = .ok (.sipush 9999, 3) := by decide +kernel
theorem dX9_drift_25 : decode cX9_drift 25 = .ok (.if_icmp .le 6, 3) := by decide +kernel
theorem dX9_drift_28 : decode cX9_drift 28 = .ok (.bipush (-3), 2) := by decide +kernel
theorem dX9_drift_30 : decode cX9_drift 30 = .ok (.ireturn, 1) := by decide +kernel
theorem dX9_drift_31 : decode cX9_drift 31 = .ok (.iconst 0, 1) := by decide +kernel
theorem dX9_drift_32 : decode cX9_drift 32 = .ok (.istore_n 2, 1) := by decide +kernel
theorem dX9_drift_33 : decode cX9_drift 33 = .ok (.iload_n 2, 1) := by decide +kernel
theorem dX9_drift_34 : decode cX9_drift 34 = .ok (.iload_n 1, 1) := by decide +kernel
theorem dX9_drift_35 : decode cX9_drift 35 = .ok (.if_icmp .ge 111, 3) := by decide +kernel
theorem dX9_drift_38 : decode cX9_drift 38 = .ok (.aload_n 0, 1) := by decide +kernel
theorem dX9_drift_39 : decode cX9_drift 39 = .ok (.invokevirtual 169, 3) := by decide +kernel
theorem dX9_drift_42 : decode cX9_drift 42 = .ok (.aload_n 0, 1) := by decide +kernel
theorem dX9_drift_43 : decode cX9_drift 43 = .ok (.getfield 7, 3) := by decide +kernel
theorem dX9_drift_46 : decode cX9_drift 46 = .ok (.iconst 5, 1) := by decide +kernel
theorem dX9_drift_47 : decode cX9_drift 47 = .ok (.aload_n 0, 1) := by decide +kernel
theorem dX9_drift_48 : decode cX9_drift 48 = .ok (.getfield 7, 3) := by decide +kernel
theorem dX9_drift_51 : decode cX9_drift 51 = .ok (.iconst 5, 1) := by decide +kernel
theorem dX9_drift_52 : decode cX9_drift 52 = .ok (.iaload, 1) := by decide +kernel
theorem dX9_drift_53 : decode cX9_drift 53 = .ok (.i2l, 1) := by decide +kernel
theorem dX9_drift_54 : decode cX9_drift 54 = .ok (.ldc2_w 172, 3) := by decide +kernel
theorem dX9_drift_57 : decode cX9_drift 57 = .ok (.lmul, 1) := by decide +kernel
theorem dX9_drift_58 : decode cX9_drift 58 = .ok (.ldc2_w 174, 3) := by decide +kernel
theorem dX9_drift_61 : decode cX9_drift 61 = .ok (.ladd, 1) := by decide +kernel
theorem dX9_drift_62 : decode cX9_drift 62 = .ok (.ldc2_w 176, 3) := by decide +kernel
theorem dX9_drift_65 : decode cX9_drift 65 = .ok (.land, 1) := by decide +kernel
theorem dX9_drift_66 : decode cX9_drift 66 = .ok (.l2i, 1) := by decide +kernel
theorem dX9_drift_67 : decode cX9_drift 67 = .ok (.iastore, 1) := by decide +kernel
theorem dX9_drift_68 : decode cX9_drift 68 = .ok (.aload_n 0, 1) := by decide +kernel
theorem dX9_drift_69 : decode cX9_drift 69 = .ok (.getfield 7, 3) := by decide +kernel
theorem dX9_drift_72 : decode cX9_drift 72 = .ok (.iconst 0, 1) := by decide +kernel
theorem dX9_drift_73 : decode cX9_drift 73 = .ok (.iaload, 1) := by decide +kernel
theorem dX9_drift_74 : decode cX9_drift 74 = .ok (.ifCond .le 61, 3) := by decide +kernel
theorem dX9_drift_77 : decode cX9_drift 77 = .ok (.aload_n 0, 1) := by decide +kernel
theorem dX9_drift_78 : decode cX9_drift 78 = .ok (.getfield 7, 3) := by decide +kernel
theorem dX9_drift_81 : decode cX9_drift 81 = .ok (.iconst 5, 1) := by decide +kernel
theorem dX9_drift_82 : decode cX9_drift 82 = .ok (.iaload, 1) := by decide +kernel
theorem dX9_drift_83 : decode cX9_drift 83 = .ok (.ldc 178, 2) := by decide +kernel
theorem dX9_drift_85 : decode cX9_drift 85 = .ok (.idiv, 1) := by decide +kernel
theorem dX9_drift_86 : decode cX9_drift 86 = .ok (.aload_n 0, 1) := by decide +kernel
theorem dX9_drift_87 : decode cX9_drift 87 = .ok (.getfield 7, 3) := by decide +kernel
theorem dX9_drift_90 : decode cX9_drift 90 = .ok (.iconst 0, 1) := by decide +kernel
theorem dX9_drift_91 : decode cX9_drift 91 = .ok (.iaload, 1) := by decide +kernel
theorem dX9_drift_92 : decode cX9_drift 92 = .ok (.irem, 1) := by decide +kernel
theorem dX9_drift_93 : decode cX9_drift 93 = .ok (.istore_n 3, 1) := by decide +kernel
theorem dX9_drift_94 : decode cX9_drift 94 = .ok (.aload_n 0, 1) := by decide +kernel
theorem dX9_drift_95 : decode cX9_drift 95 = .ok (.getfield 7, 3) := by decide +kernel
theorem dX9_drift_98 : decode cX9_drift 98 = .ok (.iconst 5, 1) := by decide +kernel
theorem dX9_drift_99 : decode cX9_drift 99 = .ok (.iaload, 1) := by decide +kernel
theorem dX9_drift_100 : decode cX9_drift 100 = .ok (.sipush 128, 3) := by decide +kernel
theorem dX9_drift_103 : decode cX9_drift 103 = .ok (.idiv, 1) := by decide +kernel
theorem dX9_drift_104 : decode cX9_drift 104 = .ok (.bipush 12, 2) := by decide +kernel
theorem dX9_drift_106 : decode cX9_drift 106 = .ok (.irem, 1) := by decide +kernel
theorem dX9_drift_107 : decode cX9_drift 107 = .ok (.istore 4, 2) := by decide +kernel
theorem dX9_drift_109 : decode cX9_drift 109 = .ok (.aload_n 0, 1) := by decide +kernel
theorem dX9_drift_110 : decode cX9_drift 110 = .ok (.iload_n 3, 1) := by decide +kernel
theorem dX9_drift_111 : decode cX9_drift 111 = .ok (.invokevirtual 69, 3) := by decide +kernel
theorem dX9_drift_114 : decode cX9_drift 114 = .ok (.ifCond .eq 21, 3) := by decide +kernel
theorem dX9_drift_117 : decode cX9_drift 117 = .ok (.aload_n 0, 1) := by decide +kernel
theorem dX9_drift_118 : decode cX9_drift 118 = .ok (.iload 4, 2) := by decide +kernel
theorem dX9_drift_120 : decode cX9_drift 120 = .ok (.invokevirtual 114, 3) := by decide +kernel
theorem dX9_drift_123 : decode cX9_drift 123 = .ok (.bipush (-4), 2) := by decide +kernel
theorem dX9_drift_125 : decode cX9_drift 125 = .ok (.if_icmp .ne 10, 3) := by decide +kernel
theorem dX9_drift_128 : decode cX9_drift 128 = .ok (.aload_n 0, 1) := by decide +kernel
theorem dX9_drift_129 : decode cX9_drift 129 = .ok (.iload_n 3, 1) := by decide +kernel
theorem dX9_drift_130 : decode cX9_drift 130 = .ok (.iload 4, 2) := by decide +kernel
theorem dX9_drift_132 : decode cX9_drift 132 = .ok (.invokevirtual 92, 3) := by decide +kernel
theorem dX9_drift_135 : decode cX9_drift 135 = .ok (.aload_n 0, 1) := by decide +kernel
theorem dX9_drift_136 : decode cX9_drift 136 = .ok (.iconst 0, 1) := by decide +kernel
theorem dX9_drift_137 : decode cX9_drift 137 = .ok (.invokevirtual 99, 3) := by decide +kernel
theorem dX9_drift_140 : decode cX9_drift 140 = .ok (.iinc 2 1, 3) := by decide +kernel
theorem dX9_drift_143 : decode cX9_drift 143 = .ok (.goto (-110), 3) := by decide +kernel
theorem dX9_drift_146 : decode cX9_drift 146 = .ok (.aload_n 0, 1) := by decide +kernel
theorem dX9_drift_147 : decode cX9_drift 147 = .ok (.invokevirtual 82, 3) := by decide +kernel
theorem dX9_drift_150 : decode cX9_drift 150 = .ok (.ireturn, 1) := by decide +kernel
theorem dX9_undo_0 : decode cX9_undo 0 = .ok (.aload_n 0, 1) := by decide +kernel
theorem dX9_undo_1 : decode cX9_undo 1 = .ok (.getfield 103, 3) := by decide +kernel
theorem dX9_undo_4 : decode cX9_undo 4 = .ok (.ifCond .ne 6, 3) := by decide +kernel
theorem dX9_undo_7 : decode cX9_undo 7 = .ok (.bipush (-4), 2) := by decide +kernel
theorem dX9_undo_9 : decode cX9_undo 9 = .ok (.ireturn, 1) := by decide +kernel
theorem dX9_undo_10 : decode cX9_undo 10 = .ok (.aload_n 0, 1) := by decide +kernel
theorem dX9_undo_11 : decode cX9_undo 11 = .ok (.dup, 1) := by decide +kernel
theorem dX9_undo_12 : decode cX9_undo 12 = .ok (.getfield 103, 3) := by decide +kernel
theorem dX9_undo_15 : decode cX9_undo 15 = .ok (.iconst 1, 1) := by decide +kernel
theorem dX9_undo_16 : decode cX9_undo 16 = .ok (.isub, 1) := by decide +kernel
theorem dX9_undo_17 : decode cX9_undo 17 = .ok (.putfield 103, 3) := by decide +kernel
theorem dX9_undo_20 : decode cX9_undo 20 = .ok (.bipush 14, 2) := by decide +kernel
theorem dX9_undo_22 : decode cX9_undo 22 = .ok (.aload_n 0, 1) := by decide +kernel
theorem dX9_undo_23 : decode cX9_undo 23 = .ok (.getfield 103, 3) := by decide +kernel
theorem dX9_undo_26 : decode cX9_undo 26 = .ok (.imul, 1) := by decide +kernel
theorem dX9_undo_27 : decode cX9_undo 27 = .ok (.istore_n 1, 1) := by decide +kernel
theorem dX9_undo_28 : decode cX9_undo 28 = .ok (.aload_n 0, 1) := by decide +kernel
theorem dX9_undo_29 : decode cX9_undo 29 = .ok (.getfield 7, 3) := by decide +kernel
theorem dX9_undo_32 : decode cX9_undo 32 = .ok (.iconst 1, 1) := by decide +kernel
theorem dX9_undo_33 : decode cX9_undo 33 = .ok (.aload_n 0, 1) := by decide +kernel
theorem dX9_undo_34 : decode cX9_undo 34 = .ok (.getfield 22, 3) := by decide +kernel
theorem dX9_undo_37 : decode cX9_undo 37 = .ok (.iload_n 1, 1) := by decide +kernel
theorem dX9_undo_38 : decode cX9_undo 38 = .ok (.iaload, 1) := by decide +kernel
theorem dX9_undo_39 : decode cX9_undo 39 = .ok (.iastore, 1) := by decide +kernel
theorem dX9_undo_40 : decode cX9_undo 40 = .ok (.aload_n 0, 1) := by decide +kernel
theorem dX9_undo_41 : decode cX9_undo 41 = .ok (.getfield 7, 3) := by decide +kernel
theorem dX9_undo_44 : decode cX9_undo 44 = .ok (.iconst 5, 1) := by decide +kernel
theorem dX9_undo_45 : decode cX9_undo 45 = .ok (.aload_n 0, 1) := by decide +kernel
theorem dX9_undo_46 : decode cX9_undo 46 = .ok (.getfield 22, 3) := by decide +kernel
theorem dX9_undo_49 : decode cX9_undo 49 = .ok (.iload_n 1, 1) := by decide +kernel
theorem dX9_undo_50 : decode cX9_undo 50 = .ok (.iconst 1, 1) := by decide +kernel
theorem dX9_undo_51 : decode cX9_undo 51 = .ok (.iadd, 1) := by decide +kernel
theorem dX9_undo_52 : decode cX9_undo 52 = .ok (.iaload, 1) := by decide +kernel
theorem dX9_undo_53 : decode cX9_undo 53 = .ok (.iastore, 1) := by decide +kernel
theorem dX9_undo_54 : decode cX9_undo 54 = .ok (.iconst 0, 1) := by decide +kernel
theorem dX9_undo_55 : decode cX9_undo 55 = .ok (.istore_n 2, 1) := by decide +kernel
theorem dX9_undo_56 : decode cX9_undo 56 = .ok (.iload_n 2, 1) := by decide +kernel
theorem dX9_undo_57 : decode cX9_undo 57 = .ok (.bipush 6, 2) := by decide +kernel
theorem dX9_undo_59 : decode cX9_undo 59 = .ok (.if_icmp .ge 56, 3) := by decide +kernel
theorem dX9_undo_62 : decode cX9_undo 62 = .ok (.aload_n 0, 1) := by decide +kernel
theorem dX9_undo_63 : decode cX9_undo 63 = .ok (.getfield 7, 3) := by decide +kernel
theorem dX9_undo_66 : decode cX9_undo 66 = .ok (.bipush 6, 2) := by decide +kernel
theorem dX9_undo_68 : decode cX9_undo 68 = .ok (.iconst 3, 1) := by decide +kernel
theorem dX9_undo_69 : decode cX9_undo 69 = .ok (.iload_n 2, 1) := by decide +kernel
theorem dX9_undo_70 : decode cX9_undo 70 = .ok (.imul, 1) := by decide +kernel
theorem dX9_undo_71 : decode cX9_undo 71 = .ok (.iadd, 1) := by decide +kernel
theorem dX9_undo_72 : decode cX9_undo 72 = .ok (.iconst 1, 1) := by decide +kernel
theorem dX9_undo_73 : decode cX9_undo 73 = .ok (.iadd, 1) := by decide +kernel
theorem dX9_undo_74 : decode cX9_undo 74 = .ok (.aload_n 0, 1) := by decide +kernel
theorem dX9_undo_75 : decode cX9_undo 75 = .ok (.getfield 22, 3) := by decide +kernel
theorem dX9_undo_78 : decode cX9_undo 78 = .ok (.iload_n 1, 1) := by decide +kernel
theorem dX9_undo_79 : decode cX9_undo 79 = .ok (.iconst 2, 1) := by decide +kernel
theorem dX9_undo_80 : decode cX9_undo 80 = .ok (.iadd, 1) := by decide +kernel
theorem dX9_undo_81 : decode cX9_undo 81 = .ok (.iload_n 2, 1) := by decide +kernel
theorem dX9_undo_82 : decode cX9_undo 82 = .ok (.iadd, 1) := by decide +kernel
theorem dX9_undo_83 : decode cX9_undo 83 = .ok (.iaload, 1) := by decide +kernel
theorem dX9_undo_84 : decode cX9_undo 84 = .ok (.iastore, 1) := by decide +kernel
theorem dX9_undo_85 : decode cX9_undo 85 = .ok (.aload_n 0, 1) := by decide +kernel
theorem dX9_undo_86 : decode cX9_undo 86 = .ok (.getfield 7, 3) := by decide +kernel
theorem dX9_undo_89 : decode cX9_undo 89 = .ok (.bipush 6, 2) := by decide +kernel
theorem dX9_undo_91 : decode cX9_undo 91 = .ok (.iconst 3, 1) := by decide +kernel
theorem dX9_undo_92 : decode cX9_undo 92 = .ok (.iload_n 2, 1) := by decide +kernel
theorem dX9_undo_93 : decode cX9_undo 93 = .ok (.imul, 1) := by decide +kernel
theorem dX9_undo_94 : decode cX9_undo 94 = .ok (.iadd, 1) := by decide +kernel
theorem dX9_undo_95 : decode cX9_undo 95 = .ok (.iconst 2, 1) := by decide +kernel
theorem dX9_undo_96 : decode cX9_undo 96 = .ok (.iadd, 1) := by decide +kernel
theorem dX9_undo_97 : decode cX9_undo 97 = .ok (.aload_n 0, 1) := by decide +kernel
theorem dX9_undo_98 : decode cX9_undo 98 = .ok (.getfield 22, 3) := by decide +kernel
theorem dX9_undo_101 : decode cX9_undo 101 = .ok (.iload_n 1, 1) := by decide +kernel
theorem dX9_undo_102 : decode cX9_undo 102 = .ok (.bipush 8, 2) := by decide +kernel
theorem dX9_undo_104 : decode cX9_undo 104 = .ok (.iadd, 1) := by decide +kernel
theorem dX9_undo_105 : decode cX9_undo 105 = .ok (.iload_n 2, 1) := by decide +kernel
theorem dX9_undo_106 : decode cX9_undo 106 = .ok (.iadd, 1) := by decide +kernel
theorem dX9_undo_107 : decode cX9_undo 107 = .ok (.iaload, 1) := by decide +kernel
theorem dX9_undo_108 : decode cX9_undo 108 = .ok (.iastore, 1) := by decide +kernel
theorem dX9_undo_109 : decode cX9_undo 109 = .ok (.iinc 2 1, 3) := by decide +kernel
theorem dX9_undo_112 : decode cX9_undo 112 = .ok (.goto (-56), 3) := by decide +kernel
theorem dX9_undo_115 : decode cX9_undo 115 = .ok (.aload_n 0, 1) := by decide +kernel
theorem dX9_undo_116 : decode cX9_undo 116 = .ok (.getfield 103, 3) := by decide +kernel
theorem dX9_undo_119 : decode cX9_undo 119 = .ok (.ireturn, 1) := by decide +kernel
theorem dX9_seed_0 : decode cX9_seed 0 = .ok (.iload_n 1, 1) := by decide +kernel
theorem dX9_seed_1 : decode cX9_seed 1 = .ok (.ifCond .ge 5, 3) := by decide +kernel
theorem dX9_seed_4 : decode cX9_seed 4 = .ok (.iconst (-1), 1) := by decide +kernel
theorem dX9_seed_5 : decode cX9_seed 5 = .ok (.ireturn, 1) := by decide +kernel
theorem dX9_seed_6 : decode cX9_seed 6 = .ok (.aload_n 0, 1) := by decide +kernel
theorem dX9_seed_7 : decode cX9_seed 7 = .ok (.getfield 7, 3) := by decide +kernel
theorem dX9_seed_10 : decode cX9_seed 10 = .ok (.iconst 5, 1) := by decide +kernel
theorem dX9_seed_11 : decode cX9_seed 11 = .ok (.iaload, 1) := by decide +kernel
theorem dX9_seed_12 : decode cX9_seed 12 = .ok (.istore_n 2, 1) := by decide +kernel
theorem dX9_seed_13 : decode cX9_seed 13 = .ok (.aload_n 0, 1) := by decide +kernel
theorem dX9_seed_14 : decode cX9_seed 14 = .ok (.getfield 7, 3) := by decide +kernel
theorem dX9_seed_17 : decode cX9_seed 17 = .ok (.iconst 5, 1) := by decide +kernel
theorem dX9_seed_18 : decode cX9_seed 18 = .ok (.iload_n 1, 1) := by decide +kernel
theorem dX9_seed_19 : decode cX9_seed 19 = .ok (.iastore, 1) := by decide +kernel
theorem dX9_seed_20 : decode cX9_seed 20 = .ok (.iload_n 2, 1) := by decide +kernel
theorem dX9_seed_21 : decode cX9_seed 21 = .ok (.ireturn, 1) := by decide +kernel
theorem dX9_asides_0 : decode cX9_asides 0 = .ok (.iconst 0, 1) := by decide +kernel
theorem dX9_asides_1 : decode cX9_asides 1 = .ok (.istore_n 1, 1) := by decide +kernel
theorem dX9_asides_2 : decode cX9_asides 2 = .ok (.iload_n 1, 1) := by decide +kernel
theorem dX9_asides_3 : decode cX9_asides 3 = .ok (.bipush 24, 2) := by decide +kernel
theorem dX9_asides_5 : decode cX9_asides 5 = .ok (.if_icmp .ge 21, 3) := by decide +kernel
theorem dX9_asides_8 : decode cX9_asides 8 = .ok (.aload_n 0, 1) := by decide +kernel
theorem dX9_asides_9 : decode cX9_asides 9 = .ok (.getfield 25, 3) := by decide +kernel
theorem dX9_asides_12 : decode cX9_asides 12 = .ok (.iload_n 1, 1) := by decide +kernel
theorem dX9_asides_13 : decode cX9_asides 13 = .ok (.aload_n 0, 1) := by decide +kernel
theorem dX9_asides_14 : decode cX9_asides 14 = .ok (.getfield 7, 3) := by decide +kernel
theorem dX9_asides_17 : decode cX9_asides 17 = .ok (.iload_n 1, 1) := by decide +kernel
theorem dX9_asides_18 : decode cX9_asides 18 = .ok (.iaload, 1) := by decide +kernel
theorem dX9_asides_19 : decode cX9_asides 19 = .ok (.iastore, 1) := by decide +kernel
theorem dX9_asides_20 : decode cX9_asides 20 = .ok (.iinc 1 1, 3) := by decide +kernel
theorem dX9_asides_23 : decode cX9_asides 23 = .ok (.goto (-21), 3) := by decide +kernel
theorem dX9_asides_26 : decode cX9_asides 26 = .ok (.return_, 1) := by decide +kernel
theorem dX9_backs_0 : decode cX9_backs 0 = .ok (.iconst 0, 1) := by decide +kernel
theorem dX9_backs_1 : decode cX9_backs 1 = .ok (.istore_n 1, 1) := by decide +kernel
theorem dX9_backs_2 : decode cX9_backs 2 = .ok (.iload_n 1, 1) := by decide +kernel
theorem dX9_backs_3 : decode cX9_backs 3 = .ok (.bipush 24, 2) := by decide +kernel
theorem dX9_backs_5 : decode cX9_backs 5 = .ok (.if_icmp .ge 21, 3) := by decide +kernel
theorem dX9_backs_8 : decode cX9_backs 8 = .ok (.aload_n 0, 1) := by decide +kernel
theorem dX9_backs_9 : decode cX9_backs 9 = .ok (.getfield 7, 3) := by decide +kernel
theorem dX9_backs_12 : decode cX9_backs 12 = .ok (.iload_n 1, 1) := by decide +kernel
theorem dX9_backs_13 : decode cX9_backs 13 = .ok (.aload_n 0, 1) := by decide +kernel
theorem dX9_backs_14 : decode cX9_backs 14 = .ok (.getfield 25, 3) := by decide +kernel
theorem dX9_backs_17 : decode cX9_backs 17 = .ok (.iload_n 1, 1) := by decide +kernel
theorem dX9_backs_18 : decode cX9_backs 18 = .ok (.iaload, 1) := by decide +kernel
theorem dX9_backs_19 : decode cX9_backs 19 = .ok (.iastore, 1) := by decide +kernel
theorem dX9_backs_20 : decode cX9_backs 20 = .ok (.iinc 1 1, 3) := by decide +kernel
theorem dX9_backs_23 : decode cX9_backs 23 = .ok (.goto (-21), 3) := by decide +kernel
theorem dX9_backs_26 : decode cX9_backs 26 = .ok (.return_, 1) := by decide +kernel
theorem dX9_ahead_0 : decode cX9_ahead 0 = .ok (.aload_n 0, 1) := by decide +kernel
theorem dX9_ahead_1 : decode cX9_ahead 1 = .ok (.iload_n 1, 1) := by decide +kernel
theorem dX9_ahead_2 : decode cX9_ahead 2 = .ok (.invokevirtual 123, 3) := by decide +kernel
theorem dX9_ahead_5 : decode cX9_ahead 5 = .ok (.ifCond .eq 25, 3) := by decide +kernel
theorem dX9_ahead_8 : decode cX9_ahead 8 = .ok (.iload_n 2, 1) := by decide +kernel
theorem dX9_ahead_9 : decode cX9_ahead 9 = .ok (.i2l, 1) := by decide +kernel
theorem dX9_ahead_10 : decode cX9_ahead 10 = .ok (.lconst 0, 1) := by decide +kernel
theorem dX9_ahead_11 : decode cX9_ahead 11 = .ok (.ldc2_w 126, 3) := by decide +kernel
theorem dX9_ahead_14 : decode cX9_ahead 14 = .ok (.invokestatic 50, 3) := by decide +kernel
theorem dX9_ahead_17 : decode cX9_ahead 17 = .ok (.ifCond .eq 13, 3) := by decide +kernel
theorem dX9_ahead_20 : decode cX9_ahead 20 = .ok (.iload_n 3, 1) := by decide +kernel
theorem dX9_ahead_21 : decode cX9_ahead 21 = .ok (.i2l, 1) := by decide +kernel
theorem dX9_ahead_22 : decode cX9_ahead 22 = .ok (.lconst 0, 1) := by decide +kernel
theorem dX9_ahead_23 : decode cX9_ahead 23 = .ok (.lconst 1, 1) := by decide +kernel
theorem dX9_ahead_24 : decode cX9_ahead 24 = .ok (.invokestatic 50, 3) := by decide +kernel
theorem dX9_ahead_27 : decode cX9_ahead 27 = .ok (.ifCond .ne 5, 3) := by decide +kernel
theorem dX9_ahead_30 : decode cX9_ahead 30 = .ok (.iconst (-1), 1) := by decide +kernel
theorem dX9_ahead_31 : decode cX9_ahead 31 = .ok (.ireturn, 1) := by decide +kernel
theorem dX9_ahead_32 : decode cX9_ahead 32 = .ok (.aload_n 0, 1) := by decide +kernel
theorem dX9_ahead_33 : decode cX9_ahead 33 = .ok (.invokevirtual 179, 3) := by decide +kernel
theorem dX9_ahead_36 : decode cX9_ahead 36 = .ok (.aload_n 0, 1) := by decide +kernel
theorem dX9_ahead_37 : decode cX9_ahead 37 = .ok (.iload_n 2, 1) := by decide +kernel
theorem dX9_ahead_38 : decode cX9_ahead 38 = .ok (.invokevirtual 182, 3) := by decide +kernel
theorem dX9_ahead_41 : decode cX9_ahead 41 = .ok (.iload_n 3, 1) := by decide +kernel
theorem dX9_ahead_42 : decode cX9_ahead 42 = .ok (.ifCond .ne 11, 3) := by decide +kernel
theorem dX9_ahead_45 : decode cX9_ahead 45 = .ok (.aload_n 0, 1) := by decide +kernel
theorem dX9_ahead_46 : decode cX9_ahead 46 = .ok (.iload_n 1, 1) := by decide +kernel
theorem dX9_ahead_47 : decode cX9_ahead 47 = .ok (.invokevirtual 60, 3) := by decide +kernel
theorem dX9_ahead_50 : decode cX9_ahead 50 = .ok (.goto 8, 3) := by decide +kernel
theorem dX9_ahead_53 : decode cX9_ahead 53 = .ok (.aload_n 0, 1) := by decide +kernel
theorem dX9_ahead_54 : decode cX9_ahead 54 = .ok (.iload_n 1, 1) := by decide +kernel
theorem dX9_ahead_55 : decode cX9_ahead 55 = .ok (.invokevirtual 73, 3) := by decide +kernel
theorem dX9_ahead_58 : decode cX9_ahead 58 = .ok (.istore 4, 2) := by decide +kernel
theorem dX9_ahead_60 : decode cX9_ahead 60 = .ok (.aload_n 0, 1) := by decide +kernel
theorem dX9_ahead_61 : decode cX9_ahead 61 = .ok (.invokevirtual 185, 3) := by decide +kernel
theorem dX9_ahead_64 : decode cX9_ahead 64 = .ok (.iload 4, 2) := by decide +kernel
theorem dX9_ahead_66 : decode cX9_ahead 66 = .ok (.ireturn, 1) := by decide +kernel
theorem dX9_then_0 : decode cX9_then 0 = .ok (.iload_n 1, 1) := by decide +kernel
theorem dX9_then_1 : decode cX9_then 1 = .ok (.i2l, 1) := by decide +kernel
theorem dX9_then_2 : decode cX9_then 2 = .ok (.lconst 0, 1) := by decide +kernel
theorem dX9_then_3 : decode cX9_then 3 = .ok (.ldc2_w 126, 3) := by decide +kernel
theorem dX9_then_6 : decode cX9_then 6 = .ok (.invokestatic 50, 3) := by decide +kernel
theorem dX9_then_9 : decode cX9_then 9 = .ok (.ifCond .ne 5, 3) := by decide +kernel
theorem dX9_then_12 : decode cX9_then 12 = .ok (.iconst (-1), 1) := by decide +kernel
theorem dX9_then_13 : decode cX9_then 13 = .ok (.ireturn, 1) := by decide +kernel
theorem dX9_then_14 : decode cX9_then 14 = .ok (.aload_n 0, 1) := by decide +kernel
theorem dX9_then_15 : decode cX9_then 15 = .ok (.invokevirtual 179, 3) := by decide +kernel
theorem dX9_then_18 : decode cX9_then 18 = .ok (.aload_n 0, 1) := by decide +kernel
theorem dX9_then_19 : decode cX9_then 19 = .ok (.iload_n 1, 1) := by decide +kernel
theorem dX9_then_20 : decode cX9_then 20 = .ok (.invokevirtual 182, 3) := by decide +kernel
theorem dX9_then_23 : decode cX9_then 23 = .ok (.aload_n 0, 1) := by decide +kernel
theorem dX9_then_24 : decode cX9_then 24 = .ok (.invokevirtual 82, 3) := by decide +kernel
theorem dX9_then_27 : decode cX9_then 27 = .ok (.istore_n 2, 1) := by decide +kernel
theorem dX9_then_28 : decode cX9_then 28 = .ok (.aload_n 0, 1) := by decide +kernel
theorem dX9_then_29 : decode cX9_then 29 = .ok (.invokevirtual 185, 3) := by decide +kernel
theorem dX9_then_32 : decode cX9_then 32 = .ok (.iload_n 2, 1) := by decide +kernel
theorem dX9_then_33 : decode cX9_then 33 = .ok (.ireturn, 1) := by decide +kernel
theorem dX9_falls_0 : decode cX9_falls 0 = .ok (.aload_n 0, 1) := by decide +kernel
theorem dX9_falls_1 : decode cX9_falls 1 = .ok (.iload_n 1, 1) := by decide +kernel
theorem dX9_falls_2 : decode cX9_falls 2 = .ok (.invokevirtual 123, 3) := by decide +kernel
theorem dX9_falls_5 : decode cX9_falls 5 = .ok (.ifCond .ne 5, 3) := by decide +kernel
theorem dX9_falls_8 : decode cX9_falls 8 = .ok (.iconst (-1), 1) := by decide +kernel
theorem dX9_falls_9 : decode cX9_falls 9 = .ok (.ireturn, 1) := by decide +kernel
theorem dX9_falls_10 : decode cX9_falls 10 = .ok (.aload_n 0, 1) := by decide +kernel
theorem dX9_falls_11 : decode cX9_falls 11 = .ok (.invokevirtual 179, 3) := by decide +kernel
theorem dX9_falls_14 : decode cX9_falls 14 = .ok (.iconst 0, 1) := by decide +kernel
theorem dX9_falls_15 : decode cX9_falls 15 = .ok (.istore_n 2, 1) := by decide +kernel
theorem dX9_falls_16 : decode cX9_falls 16 = .ok (.iload_n 2, 1) := by decide +kernel
theorem dX9_falls_17 : decode cX9_falls 17 = .ok (.bipush 61, 2) := by decide +kernel
theorem dX9_falls_19 : decode cX9_falls 19 = .ok (.if_icmp .ge 22, 3) := by decide +kernel
theorem dX9_falls_22 : decode cX9_falls 22 = .ok (.aload_n 0, 1) := by decide +kernel
theorem dX9_falls_23 : decode cX9_falls 23 = .ok (.iload_n 1, 1) := by decide +kernel
theorem dX9_falls_24 : decode cX9_falls 24 = .ok (.invokevirtual 69, 3) := by decide +kernel
theorem dX9_falls_27 : decode cX9_falls 27 = .ok (.ifCond .eq 14, 3) := by decide +kernel
theorem dX9_falls_30 : decode cX9_falls 30 = .ok (.aload_n 0, 1) := by decide +kernel
theorem dX9_falls_31 : decode cX9_falls 31 = .ok (.iconst 0, 1) := by decide +kernel
theorem dX9_falls_32 : decode cX9_falls 32 = .ok (.invokevirtual 99, 3) := by decide +kernel
theorem dX9_falls_35 : decode cX9_falls 35 = .ok (.iinc 2 1, 3) := by decide +kernel
theorem dX9_falls_38 : decode cX9_falls 38 = .ok (.goto (-22), 3) := by decide +kernel
theorem dX9_falls_41 : decode cX9_falls 41 = .ok (.aload_n 0, 1) := by decide +kernel
theorem dX9_falls_42 : decode cX9_falls 42 = .ok (.invokevirtual 185, 3) := by decide +kernel
theorem dX9_falls_45 : decode cX9_falls 45 = .ok (.iload_n 2, 1) := by decide +kernel
theorem dX9_falls_46 : decode cX9_falls 46 = .ok (.bipush 61, 2) := by decide +kernel
theorem dX9_falls_48 : decode cX9_falls 48 = .ok (.if_icmp .ge 7, 3) := by decide +kernel
theorem dX9_falls_51 : decode cX9_falls 51 = .ok (.iload_n 2, 1) := by decide +kernel
theorem dX9_falls_52 : decode cX9_falls 52 = .ok (.goto 5, 3) := by decide +kernel
theorem dX9_falls_55 : decode cX9_falls 55 = .ok (.bipush (-4), 2) := by decide +kernel
theorem dX9_falls_57 : decode cX9_falls 57 = .ok (.ireturn, 1) := by decide +kernel
theorem dX9_alone_0 : decode cX9_alone 0 = .ok (.aload_n 0, 1) := by decide +kernel
theorem dX9_alone_1 : decode cX9_alone 1 = .ok (.invokevirtual 179, 3) := by decide +kernel
theorem dX9_alone_4 : decode cX9_alone 4 = .ok (.iconst 0, 1) := by decide +kernel
theorem dX9_alone_5 : decode cX9_alone 5 = .ok (.istore_n 1, 1) := by decide +kernel
theorem dX9_alone_6 : decode cX9_alone 6 = .ok (.iload_n 1, 1) := by decide +kernel
theorem dX9_alone_7 : decode cX9_alone 7 = .ok (.bipush 61, 2) := by decide +kernel
theorem dX9_alone_9 : decode cX9_alone 9 = .ok (.if_icmp .ge 25, 3) := by decide +kernel
theorem dX9_alone_12 : decode cX9_alone 12 = .ok (.aload_n 0, 1) := by decide +kernel
theorem dX9_alone_13 : decode cX9_alone 13 = .ok (.invokevirtual 82, 3) := by decide +kernel
theorem dX9_alone_16 : decode cX9_alone 16 = .ok (.invokestatic 79, 3) := by decide +kernel
theorem dX9_alone_19 : decode cX9_alone 19 = .ok (.iconst 1, 1) := by decide +kernel
theorem dX9_alone_20 : decode cX9_alone 20 = .ok (.if_icmp .le 14, 3) := by decide +kernel
theorem dX9_alone_23 : decode cX9_alone 23 = .ok (.aload_n 0, 1) := by decide +kernel
theorem dX9_alone_24 : decode cX9_alone 24 = .ok (.iconst 0, 1) := by decide +kernel
theorem dX9_alone_25 : decode cX9_alone 25 = .ok (.invokevirtual 99, 3) := by decide +kernel
theorem dX9_alone_28 : decode cX9_alone 28 = .ok (.iinc 1 1, 3) := by decide +kernel
theorem dX9_alone_31 : decode cX9_alone 31 = .ok (.goto (-25), 3) := by decide +kernel
theorem dX9_alone_34 : decode cX9_alone 34 = .ok (.aload_n 0, 1) := by decide +kernel
theorem dX9_alone_35 : decode cX9_alone 35 = .ok (.invokevirtual 185, 3) := by decide +kernel
theorem dX9_alone_38 : decode cX9_alone 38 = .ok (.iload_n 1, 1) := by decide +kernel
theorem dX9_alone_39 : decode cX9_alone 39 = .ok (.bipush 61, 2) := by decide +kernel
theorem dX9_alone_41 : decode cX9_alone 41 = .ok (.if_icmp .ge 7, 3) := by decide +kernel
theorem dX9_alone_44 : decode cX9_alone 44 = .ok (.iload_n 1, 1) := by decide +kernel
theorem dX9_alone_45 : decode cX9_alone 45 = .ok (.goto 5, 3) := by decide +kernel
theorem dX9_alone_48 : decode cX9_alone 48 = .ok (.bipush (-4), 2) := by decide +kernel
theorem dX9_alone_50 : decode cX9_alone 50 = .ok (.ireturn, 1) := by decide +kernel
theorem dX9_mayBe_0 : decode cX9_mayBe 0 = .ok (.aload_n 0, 1) := by decide +kernel
theorem dX9_mayBe_1 : decode cX9_mayBe 1 = .ok (.iload_n 1, 1) := by decide +kernel
theorem dX9_mayBe_2 : decode cX9_mayBe 2 = .ok (.invokevirtual 60, 3) := by decide +kernel
theorem dX9_mayBe_5 : decode cX9_mayBe 5 = .ok (.iload_n 2, 1) := by decide +kernel
theorem dX9_mayBe_6 : decode cX9_mayBe 6 = .ok (.if_icmp .eq 13, 3) := by decide +kernel
theorem dX9_mayBe_9 : decode cX9_mayBe 9 = .ok (.aload_n 0, 1) := by decide +kernel
theorem dX9_mayBe_10 : decode cX9_mayBe 10 = .ok (.iload_n 2, 1) := by decide +kernel
theorem dX9_mayBe_11 : decode cX9_mayBe 11 = .ok (.invokevirtual 114, 3) := by decide +kernel
theorem dX9_mayBe_14 : decode cX9_mayBe 14 = .ok (.bipush (-4), 2) := by decide +kernel
theorem dX9_mayBe_16 : decode cX9_mayBe 16 = .ok (.if_icmp .ne 7, 3) := by decide +kernel
theorem dX9_mayBe_19 : decode cX9_mayBe 19 = .ok (.iconst 1, 1) := by decide +kernel
theorem dX9_mayBe_20 : decode cX9_mayBe 20 = .ok (.goto 4, 3) := by decide +kernel
theorem dX9_mayBe_23 : decode cX9_mayBe 23 = .ok (.iconst 0, 1) := by decide +kernel
theorem dX9_mayBe_24 : decode cX9_mayBe 24 = .ok (.ireturn, 1) := by decide +kernel
theorem dX9_post_0 : decode cX9_post 0 = .ok (.aload_n 0, 1) := by decide +kernel
theorem dX9_post_1 : decode cX9_post 1 = .ok (.iload_n 1, 1) := by decide +kernel
theorem dX9_post_2 : decode cX9_post 2 = .ok (.invokevirtual 123, 3) := by decide +kernel
theorem dX9_post_5 : decode cX9_post 5 = .ok (.ifCond .eq 25, 3) := by decide +kernel
theorem dX9_post_8 : decode cX9_post 8 = .ok (.iload_n 2, 1) := by decide +kernel
theorem dX9_post_9 : decode cX9_post 9 = .ok (.i2l, 1) := by decide +kernel
theorem dX9_post_10 : decode cX9_post 10 = .ok (.lconst 1, 1) := by decide +kernel
theorem dX9_post_11 : decode cX9_post 11 = .ok (.ldc2_w 167, 3) := by decide +kernel
theorem dX9_post_14 : decode cX9_post 14 = .ok (.invokestatic 50, 3) := by decide +kernel
theorem dX9_post_17 : decode cX9_post 17 = .ok (.ifCond .eq 13, 3) := by decide +kernel
theorem dX9_post_20 : decode cX9_post 20 = .ok (.iload_n 3, 1) := by decide +kernel
theorem dX9_post_21 : decode cX9_post 21 = .ok (.i2l, 1) := by decide +kernel
theorem dX9_post_22 : decode cX9_post 22 = .ok (.lconst 0, 1) := by decide +kernel
theorem dX9_post_23 : decode cX9_post 23 = .ok (.lconst 1, 1) := by decide +kernel
theorem dX9_post_24 : decode cX9_post 24 = .ok (.invokestatic 50, 3) := by decide +kernel
theorem dX9_post_27 : decode cX9_post 27 = .ok (.ifCond .ne 5, 3) := by decide +kernel
theorem dX9_post_30 : decode cX9_post 30 = .ok (.iconst (-1), 1) := by decide +kernel
theorem dX9_post_31 : decode cX9_post 31 = .ok (.ireturn, 1) := by decide +kernel
theorem dX9_post_32 : decode cX9_post 32 = .ok (.bipush (-4), 2) := by decide +kernel
theorem dX9_post_34 : decode cX9_post 34 = .ok (.istore 4, 2) := by decide +kernel
theorem dX9_post_36 : decode cX9_post 36 = .ok (.iconst (-1), 1) := by decide +kernel
theorem dX9_post_37 : decode cX9_post 37 = .ok (.istore 5, 2) := by decide +kernel
theorem dX9_post_39 : decode cX9_post 39 = .ok (.aload_n 0, 1) := by decide +kernel
theorem dX9_post_40 : decode cX9_post 40 = .ok (.invokevirtual 179, 3) := by decide +kernel
theorem dX9_post_43 : decode cX9_post 43 = .ok (.iconst 0, 1) := by decide +kernel
theorem dX9_post_44 : decode cX9_post 44 = .ok (.istore 6, 2) := by decide +kernel
theorem dX9_post_46 : decode cX9_post 46 = .ok (.iload 6, 2) := by decide +kernel
theorem dX9_post_48 : decode cX9_post 48 = .ok (.bipush 12, 2) := by decide +kernel
theorem dX9_post_50 : decode cX9_post 50 = .ok (.if_icmp .ge 76, 3) := by decide +kernel
theorem dX9_post_53 : decode cX9_post 53 = .ok (.aload_n 0, 1) := by decide +kernel
theorem dX9_post_54 : decode cX9_post 54 = .ok (.iload_n 1, 1) := by decide +kernel
theorem dX9_post_55 : decode cX9_post 55 = .ok (.iload 6, 2) := by decide +kernel
theorem dX9_post_57 : decode cX9_post 57 = .ok (.invokevirtual 188, 3) := by decide +kernel
theorem dX9_post_60 : decode cX9_post 60 = .ok (.ifCond .eq 60, 3) := by decide +kernel
theorem dX9_post_63 : decode cX9_post 63 = .ok (.aload_n 0, 1) := by decide +kernel
theorem dX9_post_64 : decode cX9_post 64 = .ok (.iload_n 1, 1) := by decide +kernel
theorem dX9_post_65 : decode cX9_post 65 = .ok (.iload 6, 2) := by decide +kernel
theorem dX9_post_67 : decode cX9_post 67 = .ok (.invokevirtual 92, 3) := by decide +kernel
theorem dX9_post_70 : decode cX9_post 70 = .ok (.aload_n 0, 1) := by decide +kernel
theorem dX9_post_71 : decode cX9_post 71 = .ok (.iload_n 2, 1) := by decide +kernel
theorem dX9_post_72 : decode cX9_post 72 = .ok (.invokevirtual 182, 3) := by decide +kernel
theorem dX9_post_75 : decode cX9_post 75 = .ok (.aload_n 0, 1) := by decide +kernel
theorem dX9_post_76 : decode cX9_post 76 = .ok (.invokevirtual 82, 3) := by decide +kernel
theorem dX9_post_79 : decode cX9_post 79 = .ok (.invokestatic 79, 3) := by decide +kernel
theorem dX9_post_82 : decode cX9_post 82 = .ok (.istore 7, 2) := by decide +kernel
theorem dX9_post_84 : decode cX9_post 84 = .ok (.aload_n 0, 1) := by decide +kernel
theorem dX9_post_85 : decode cX9_post 85 = .ok (.invokevirtual 185, 3) := by decide +kernel
theorem dX9_post_88 : decode cX9_post 88 = .ok (.iload 7, 2) := by decide +kernel
theorem dX9_post_90 : decode cX9_post 90 = .ok (.iload 5, 2) := by decide +kernel
theorem dX9_post_92 : decode cX9_post 92 = .ok (.if_icmp .le 8, 3) := by decide +kernel
theorem dX9_post_95 : decode cX9_post 95 = .ok (.iload 6, 2) := by decide +kernel
theorem dX9_post_97 : decode cX9_post 97 = .ok (.goto 5, 3) := by decide +kernel
theorem dX9_post_100 : decode cX9_post 100 = .ok (.iload 4, 2) := by decide +kernel
theorem dX9_post_102 : decode cX9_post 102 = .ok (.istore 4, 2) := by decide +kernel
theorem dX9_post_104 : decode cX9_post 104 = .ok (.iload 7, 2) := by decide +kernel
theorem dX9_post_106 : decode cX9_post 106 = .ok (.iload 5, 2) := by decide +kernel
theorem dX9_post_108 : decode cX9_post 108 = .ok (.if_icmp .le 8, 3) := by decide +kernel
theorem dX9_post_111 : decode cX9_post 111 = .ok (.iload 7, 2) := by decide +kernel
theorem dX9_post_113 : decode cX9_post 113 = .ok (.goto 5, 3) := by decide +kernel
theorem dX9_post_116 : decode cX9_post 116 = .ok (.iload 5, 2) := by decide +kernel
theorem dX9_post_118 : decode cX9_post 118 = .ok (.istore 5, 2) := by decide +kernel
theorem dX9_post_120 : decode cX9_post 120 = .ok (.iinc 6 1, 3) := by decide +kernel
theorem dX9_post_123 : decode cX9_post 123 = .ok (.goto (-77), 3) := by decide +kernel
theorem dX9_post_126 : decode cX9_post 126 = .ok (.iload_n 3, 1) := by decide +kernel
theorem dX9_post_127 : decode cX9_post 127 = .ok (.ifCond .ne 8, 3) := by decide +kernel
theorem dX9_post_130 : decode cX9_post 130 = .ok (.iload 4, 2) := by decide +kernel
theorem dX9_post_132 : decode cX9_post 132 = .ok (.goto 5, 3) := by decide +kernel
theorem dX9_post_135 : decode cX9_post 135 = .ok (.iload 5, 2) := by decide +kernel
theorem dX9_post_137 : decode cX9_post 137 = .ok (.ireturn, 1) := by decide +kernel
theorem dX9_safe_0 : decode cX9_safe 0 = .ok (.aload_n 0, 1) := by decide +kernel
theorem dX9_safe_1 : decode cX9_safe 1 = .ok (.iload_n 1, 1) := by decide +kernel
theorem dX9_safe_2 : decode cX9_safe 2 = .ok (.invokevirtual 123, 3) := by decide +kernel
theorem dX9_safe_5 : decode cX9_safe 5 = .ok (.ifCond .eq 15, 3) := by decide +kernel
theorem dX9_safe_8 : decode cX9_safe 8 = .ok (.iload_n 2, 1) := by decide +kernel
theorem dX9_safe_9 : decode cX9_safe 9 = .ok (.i2l, 1) := by decide +kernel
theorem dX9_safe_10 : decode cX9_safe 10 = .ok (.lconst 1, 1) := by decide +kernel
theorem dX9_safe_11 : decode cX9_safe 11 = .ok (.ldc2_w 167, 3) := by decide +kernel
theorem dX9_safe_14 : decode cX9_safe 14 = .ok (.invokestatic 50, 3) := by decide +kernel
theorem dX9_safe_17 : decode cX9_safe 17 = .ok (.ifCond .ne 5, 3) := by decide +kernel
theorem dX9_safe_20 : decode cX9_safe 20 = .ok (.iconst (-1), 1) := by decide +kernel
theorem dX9_safe_21 : decode cX9_safe 21 = .ok (.ireturn, 1) := by decide +kernel
theorem dX9_safe_22 : decode cX9_safe 22 = .ok (.iconst 0, 1) := by decide +kernel
theorem dX9_safe_23 : decode cX9_safe 23 = .ok (.istore_n 3, 1) := by decide +kernel
theorem dX9_safe_24 : decode cX9_safe 24 = .ok (.aload_n 0, 1) := by decide +kernel
theorem dX9_safe_25 : decode cX9_safe 25 = .ok (.invokevirtual 179, 3) := by decide +kernel
theorem dX9_safe_28 : decode cX9_safe 28 = .ok (.iconst 0, 1) := by decide +kernel
theorem dX9_safe_29 : decode cX9_safe 29 = .ok (.istore 4, 2) := by decide +kernel
theorem dX9_safe_31 : decode cX9_safe 31 = .ok (.iload 4, 2) := by decide +kernel
theorem dX9_safe_33 : decode cX9_safe 33 = .ok (.bipush 12, 2) := by decide +kernel
theorem dX9_safe_35 : decode cX9_safe 35 = .ok (.if_icmp .ge 54, 3) := by decide +kernel
theorem dX9_safe_38 : decode cX9_safe 38 = .ok (.aload_n 0, 1) := by decide +kernel
theorem dX9_safe_39 : decode cX9_safe 39 = .ok (.iload_n 1, 1) := by decide +kernel
theorem dX9_safe_40 : decode cX9_safe 40 = .ok (.iload 4, 2) := by decide +kernel
theorem dX9_safe_42 : decode cX9_safe 42 = .ok (.invokevirtual 188, 3) := by decide +kernel
theorem dX9_safe_45 : decode cX9_safe 45 = .ok (.ifCond .eq 38, 3) := by decide +kernel
theorem dX9_safe_48 : decode cX9_safe 48 = .ok (.aload_n 0, 1) := by decide +kernel
theorem dX9_safe_49 : decode cX9_safe 49 = .ok (.iload_n 1, 1) := by decide +kernel
theorem dX9_safe_50 : decode cX9_safe 50 = .ok (.iload 4, 2) := by decide +kernel
theorem dX9_safe_52 : decode cX9_safe 52 = .ok (.invokevirtual 92, 3) := by decide +kernel
theorem dX9_safe_55 : decode cX9_safe 55 = .ok (.aload_n 0, 1) := by decide +kernel
theorem dX9_safe_56 : decode cX9_safe 56 = .ok (.iload_n 2, 1) := by decide +kernel
theorem dX9_safe_57 : decode cX9_safe 57 = .ok (.invokevirtual 182, 3) := by decide +kernel
theorem dX9_safe_60 : decode cX9_safe 60 = .ok (.iload_n 3, 1) := by decide +kernel
theorem dX9_safe_61 : decode cX9_safe 61 = .ok (.aload_n 0, 1) := by decide +kernel
theorem dX9_safe_62 : decode cX9_safe 62 = .ok (.iload_n 1, 1) := by decide +kernel
theorem dX9_safe_63 : decode cX9_safe 63 = .ok (.invokevirtual 69, 3) := by decide +kernel
theorem dX9_safe_66 : decode cX9_safe 66 = .ok (.ifCond .eq 10, 3) := by decide +kernel
theorem dX9_safe_69 : decode cX9_safe 69 = .ok (.iconst 1, 1) := by decide +kernel
theorem dX9_safe_70 : decode cX9_safe 70 = .ok (.iload 4, 2) := by decide +kernel
theorem dX9_safe_72 : decode cX9_safe 72 = .ok (.ishl, 1) := by decide +kernel
theorem dX9_safe_73 : decode cX9_safe 73 = .ok (.goto 4, 3) := by decide +kernel
theorem dX9_safe_76 : decode cX9_safe 76 = .ok (.iconst 0, 1) := by decide +kernel
theorem dX9_safe_77 : decode cX9_safe 77 = .ok (.ior, 1) := by decide +kernel
theorem dX9_safe_78 : decode cX9_safe 78 = .ok (.istore_n 3, 1) := by decide +kernel
theorem dX9_safe_79 : decode cX9_safe 79 = .ok (.aload_n 0, 1) := by decide +kernel
theorem dX9_safe_80 : decode cX9_safe 80 = .ok (.invokevirtual 185, 3) := by decide +kernel
theorem dX9_safe_83 : decode cX9_safe 83 = .ok (.iinc 4 1, 3) := by decide +kernel
theorem dX9_safe_86 : decode cX9_safe 86 = .ok (.goto (-55), 3) := by decide +kernel
theorem dX9_safe_89 : decode cX9_safe 89 = .ok (.iload_n 3, 1) := by decide +kernel
theorem dX9_safe_90 : decode cX9_safe 90 = .ok (.ireturn, 1) := by decide +kernel
theorem dX9_change_0 : decode cX9_change 0 = .ok (.iload_n 1, 1) := by decide +kernel
theorem dX9_change_1 : decode cX9_change 1 = .ok (.i2l, 1) := by decide +kernel
theorem dX9_change_2 : decode cX9_change 2 = .ok (.lconst 1, 1) := by decide +kernel
theorem dX9_change_3 : decode cX9_change 3 = .ok (.ldc2_w 167, 3) := by decide +kernel
theorem dX9_change_6 : decode cX9_change 6 = .ok (.invokestatic 50, 3) := by decide +kernel
theorem dX9_change_9 : decode cX9_change 9 = .ok (.ifCond .eq 13, 3) := by decide +kernel
theorem dX9_change_12 : decode cX9_change 12 = .ok (.iload_n 2, 1) := by decide +kernel
theorem dX9_change_13 : decode cX9_change 13 = .ok (.i2l, 1) := by decide +kernel
theorem dX9_change_14 : decode cX9_change 14 = .ok (.lconst 0, 1) := by decide +kernel
theorem dX9_change_15 : decode cX9_change 15 = .ok (.lconst 1, 1) := by decide +kernel
theorem dX9_change_16 : decode cX9_change 16 = .ok (.invokestatic 50, 3) := by decide +kernel
theorem dX9_change_19 : decode cX9_change 19 = .ok (.ifCond .ne 5, 3) := by decide +kernel
theorem dX9_change_22 : decode cX9_change 22 = .ok (.iconst (-1), 1) := by decide +kernel
theorem dX9_change_23 : decode cX9_change 23 = .ok (.ireturn, 1) := by decide +kernel
theorem dX9_change_24 : decode cX9_change 24 = .ok (.bipush (-4), 2) := by decide +kernel
theorem dX9_change_26 : decode cX9_change 26 = .ok (.istore_n 3, 1) := by decide +kernel
theorem dX9_change_27 : decode cX9_change 27 = .ok (.iconst (-1), 1) := by decide +kernel
theorem dX9_change_28 : decode cX9_change 28 = .ok (.istore 4, 2) := by decide +kernel
theorem dX9_change_30 : decode cX9_change 30 = .ok (.aload_n 0, 1) := by decide +kernel
theorem dX9_change_31 : decode cX9_change 31 = .ok (.invokevirtual 179, 3) := by decide +kernel
theorem dX9_change_34 : decode cX9_change 34 = .ok (.iconst 0, 1) := by decide +kernel
theorem dX9_change_35 : decode cX9_change 35 = .ok (.istore 5, 2) := by decide +kernel
theorem dX9_change_37 : decode cX9_change 37 = .ok (.iload 5, 2) := by decide +kernel
theorem dX9_change_39 : decode cX9_change 39 = .ok (.aload_n 0, 1) := by decide +kernel
theorem dX9_change_40 : decode cX9_change 40 = .ok (.getfield 7, 3) := by decide +kernel
theorem dX9_change_43 : decode cX9_change 43 = .ok (.iconst 0, 1) := by decide +kernel
theorem dX9_change_44 : decode cX9_change 44 = .ok (.iaload, 1) := by decide +kernel
theorem dX9_change_45 : decode cX9_change 45 = .ok (.if_icmp .ge 144, 3) := by decide +kernel
theorem dX9_change_48 : decode cX9_change 48 = .ok (.iload 5, 2) := by decide +kernel
theorem dX9_change_50 : decode cX9_change 50 = .ok (.iconst 1, 1) := by decide +kernel
theorem dX9_change_51 : decode cX9_change 51 = .ok (.iadd, 1) := by decide +kernel
theorem dX9_change_52 : decode cX9_change 52 = .ok (.istore 6, 2) := by decide +kernel
theorem dX9_change_54 : decode cX9_change 54 = .ok (.iload 6, 2) := by decide +kernel
theorem dX9_change_56 : decode cX9_change 56 = .ok (.aload_n 0, 1) := by decide +kernel
theorem dX9_change_57 : decode cX9_change 57 = .ok (.getfield 7, 3) := by decide +kernel
theorem dX9_change_60 : decode cX9_change 60 = .ok (.iconst 0, 1) := by decide +kernel
theorem dX9_change_61 : decode cX9_change 61 = .ok (.iaload, 1) := by decide +kernel
theorem dX9_change_62 : decode cX9_change 62 = .ok (.if_icmp .ge 121, 3) := by decide +kernel
theorem dX9_change_65 : decode cX9_change 65 = .ok (.aload_n 0, 1) := by decide +kernel
theorem dX9_change_66 : decode cX9_change 66 = .ok (.iload 5, 2) := by decide +kernel
theorem dX9_change_68 : decode cX9_change 68 = .ok (.invokevirtual 69, 3) := by decide +kernel
theorem dX9_change_71 : decode cX9_change 71 = .ok (.ifCond .eq 106, 3) := by decide +kernel
theorem dX9_change_74 : decode cX9_change 74 = .ok (.aload_n 0, 1) := by decide +kernel
theorem dX9_change_75 : decode cX9_change 75 = .ok (.iload 6, 2) := by decide +kernel
theorem dX9_change_77 : decode cX9_change 77 = .ok (.invokevirtual 69, 3) := by decide +kernel
theorem dX9_change_80 : decode cX9_change 80 = .ok (.ifCond .eq 97, 3) := by decide +kernel
theorem dX9_change_83 : decode cX9_change 83 = .ok (.aload_n 0, 1) := by decide +kernel
theorem dX9_change_84 : decode cX9_change 84 = .ok (.iload 5, 2) := by decide +kernel
theorem dX9_change_86 : decode cX9_change 86 = .ok (.aload_n 0, 1) := by decide +kernel
theorem dX9_change_87 : decode cX9_change 87 = .ok (.getfield 25, 3) := by decide +kernel
theorem dX9_change_90 : decode cX9_change 90 = .ok (.bipush 6, 2) := by decide +kernel
theorem dX9_change_92 : decode cX9_change 92 = .ok (.iconst 3, 1) := by decide +kernel
theorem dX9_change_93 : decode cX9_change 93 = .ok (.iload 6, 2) := by decide +kernel
theorem dX9_change_95 : decode cX9_change 95 = .ok (.imul, 1) := by decide +kernel
theorem dX9_change_96 : decode cX9_change 96 = .ok (.iadd, 1) := by decide +kernel
theorem dX9_change_97 : decode cX9_change 97 = .ok (.iconst 2, 1) := by decide +kernel
theorem dX9_change_98 : decode cX9_change 98 = .ok (.iadd, 1) := by decide +kernel
theorem dX9_change_99 : decode cX9_change 99 = .ok (.iaload, 1) := by decide +kernel
theorem dX9_change_100 : decode cX9_change 100 = .ok (.invokevirtual 92, 3) := by decide +kernel
theorem dX9_change_103 : decode cX9_change 103 = .ok (.aload_n 0, 1) := by decide +kernel
theorem dX9_change_104 : decode cX9_change 104 = .ok (.iload 6, 2) := by decide +kernel
theorem dX9_change_106 : decode cX9_change 106 = .ok (.aload_n 0, 1) := by decide +kernel
theorem dX9_change_107 : decode cX9_change 107 = .ok (.getfield 25, 3) := by decide +kernel
theorem dX9_change_110 : decode cX9_change 110 = .ok (.bipush 6, 2) := by decide +kernel
theorem dX9_change_112 : decode cX9_change 112 = .ok (.iconst 3, 1) := by decide +kernel
theorem dX9_change_113 : decode cX9_change 113 = .ok (.iload 5, 2) := by decide +kernel
theorem dX9_change_115 : decode cX9_change 115 = .ok (.imul, 1) := by decide +kernel
theorem dX9_change_116 : decode cX9_change 116 = .ok (.iadd, 1) := by decide +kernel
theorem dX9_change_117 : decode cX9_change 117 = .ok (.iconst 2, 1) := by decide +kernel
theorem dX9_change_118 : decode cX9_change 118 = .ok (.iadd, 1) := by decide +kernel
theorem dX9_change_119 : decode cX9_change 119 = .ok (.iaload, 1) := by decide +kernel
theorem dX9_change_120 : decode cX9_change 120 = .ok (.invokevirtual 92, 3) := by decide +kernel
theorem dX9_change_123 : decode cX9_change 123 = .ok (.aload_n 0, 1) := by decide +kernel
theorem dX9_change_124 : decode cX9_change 124 = .ok (.iload_n 1, 1) := by decide +kernel
theorem dX9_change_125 : decode cX9_change 125 = .ok (.invokevirtual 182, 3) := by decide +kernel
theorem dX9_change_128 : decode cX9_change 128 = .ok (.aload_n 0, 1) := by decide +kernel
theorem dX9_change_129 : decode cX9_change 129 = .ok (.invokevirtual 82, 3) := by decide +kernel
theorem dX9_change_132 : decode cX9_change 132 = .ok (.invokestatic 79, 3) := by decide +kernel
theorem dX9_change_135 : decode cX9_change 135 = .ok (.istore 7, 2) := by decide +kernel
theorem dX9_change_137 : decode cX9_change 137 = .ok (.aload_n 0, 1) := by decide +kernel
theorem dX9_change_138 : decode cX9_change 138 = .ok (.invokevirtual 185, 3) := by decide +kernel
theorem dX9_change_141 : decode cX9_change 141 = .ok (.iload 7, 2) := by decide +kernel
theorem dX9_change_143 : decode cX9_change 143 = .ok (.iload 4, 2) := by decide +kernel
theorem dX9_change_145 : decode cX9_change 145 = .ok (.if_icmp .le 14, 3) := by decide +kernel
theorem dX9_change_148 : decode cX9_change 148 = .ok (.bipush 10, 2) := by decide +kernel
theorem dX9_change_150 : decode cX9_change 150 = .ok (.iload 5, 2) := by decide +kernel
theorem dX9_change_152 : decode cX9_change 152 = .ok (.imul, 1) := by decide +kernel
theorem dX9_change_153 : decode cX9_change 153 = .ok (.iload 6, 2) := by decide +kernel
theorem dX9_change_155 : decode cX9_change 155 = .ok (.iadd, 1) := by decide +kernel
theorem dX9_change_156 : decode cX9_change 156 = .ok (.goto 4, 3) := by decide +kernel
theorem dX9_change_159 : decode cX9_change 159 = .ok (.iload_n 3, 1) := by decide +kernel
theorem dX9_change_160 : decode cX9_change 160 = .ok (.istore_n 3, 1) := by decide +kernel
theorem dX9_change_161 : decode cX9_change 161 = .ok (.iload 7, 2) := by decide +kernel
theorem dX9_change_163 : decode cX9_change 163 = .ok (.iload 4, 2) := by decide +kernel
theorem dX9_change_165 : decode cX9_change 165 = .ok (.if_icmp .le 8, 3) := by decide +kernel
theorem dX9_change_168 : decode cX9_change 168 = .ok (.iload 7, 2) := by decide +kernel
theorem dX9_change_170 : decode cX9_change 170 = .ok (.goto 5, 3) := by decide +kernel
theorem dX9_change_173 : decode cX9_change 173 = .ok (.iload 4, 2) := by decide +kernel
theorem dX9_change_175 : decode cX9_change 175 = .ok (.istore 4, 2) := by decide +kernel
theorem dX9_change_177 : decode cX9_change 177 = .ok (.iinc 6 1, 3) := by decide +kernel
theorem dX9_change_180 : decode cX9_change 180 = .ok (.goto (-126), 3) := by decide +kernel
theorem dX9_change_183 : decode cX9_change 183 = .ok (.iinc 5 1, 3) := by decide +kernel
theorem dX9_change_186 : decode cX9_change 186 = .ok (.goto (-149), 3) := by decide +kernel
theorem dX9_change_189 : decode cX9_change 189 = .ok (.iload_n 2, 1) := by decide +kernel
theorem dX9_change_190 : decode cX9_change 190 = .ok (.ifCond .eq 9, 3) := by decide +kernel
theorem dX9_change_193 : decode cX9_change 193 = .ok (.iload_n 3, 1) := by decide +kernel
theorem dX9_change_194 : decode cX9_change 194 = .ok (.bipush (-4), 2) := by decide +kernel
theorem dX9_change_196 : decode cX9_change 196 = .ok (.if_icmp .ne 7, 3) := by decide +kernel
theorem dX9_change_199 : decode cX9_change 199 = .ok (.iload_n 3, 1) := by decide +kernel
theorem dX9_change_200 : decode cX9_change 200 = .ok (.goto 5, 3) := by decide +kernel
theorem dX9_change_203 : decode cX9_change 203 = .ok (.iload 4, 2) := by decide +kernel
theorem dX9_change_205 : decode cX9_change 205 = .ok (.ireturn, 1) := by decide +kernel
theorem dX9_isParted_0 : decode cX9_isParted 0 = .ok (.iload_n 1, 1) := by decide +kernel
theorem dX9_isParted_1 : decode cX9_isParted 1 = .ok (.istore_n 3, 1) := by decide +kernel
theorem dX9_isParted_2 : decode cX9_isParted 2 = .ok (.iconst 0, 1) := by decide +kernel
theorem dX9_isParted_3 : decode cX9_isParted 3 = .ok (.istore 4, 2) := by decide +kernel
theorem dX9_isParted_5 : decode cX9_isParted 5 = .ok (.aload_n 0, 1) := by decide +kernel
theorem dX9_isParted_6 : decode cX9_isParted 6 = .ok (.getfield 7, 3) := by decide +kernel
theorem dX9_isParted_9 : decode cX9_isParted 9 = .ok (.iconst 0, 1) := by decide +kernel
theorem dX9_isParted_10 : decode cX9_isParted 10 = .ok (.iaload, 1) := by decide +kernel
theorem dX9_isParted_11 : decode cX9_isParted 11 = .ok (.iconst 1, 1) := by decide +kernel
theorem dX9_isParted_12 : decode cX9_isParted 12 = .ok (.isub, 1) := by decide +kernel
theorem dX9_isParted_13 : decode cX9_isParted 13 = .ok (.istore 5, 2) := by decide +kernel
theorem dX9_isParted_15 : decode cX9_isParted 15 = .ok (.iload 5, 2) := by decide +kernel
theorem dX9_isParted_17 : decode cX9_isParted 17 = .ok (.ifCond .lt 39, 3) := by decide +kernel
theorem dX9_isParted_20 : decode cX9_isParted 20 = .ok (.aload_n 0, 1) := by decide +kernel
theorem dX9_isParted_21 : decode cX9_isParted 21 = .ok (.getfield 28, 3) := by decide +kernel
theorem dX9_isParted_24 : decode cX9_isParted 24 = .ok (.iload 5, 2) := by decide +kernel
theorem dX9_isParted_26 : decode cX9_isParted 26 = .ok (.iload_n 3, 1) := by decide +kernel
theorem dX9_isParted_27 : decode cX9_isParted 27 = .ok (.iload_n 2, 1) := by decide +kernel
theorem dX9_isParted_28 : decode cX9_isParted 28 = .ok (.iconst 1, 1) := by decide +kernel
theorem dX9_isParted_29 : decode cX9_isParted 29 = .ok (.iadd, 1) := by decide +kernel
theorem dX9_isParted_30 : decode cX9_isParted 30 = .ok (.irem, 1) := by decide +kernel
theorem dX9_isParted_31 : decode cX9_isParted 31 = .ok (.iastore, 1) := by decide +kernel
theorem dX9_isParted_32 : decode cX9_isParted 32 = .ok (.iload_n 3, 1) := by decide +kernel
theorem dX9_isParted_33 : decode cX9_isParted 33 = .ok (.iload_n 2, 1) := by decide +kernel
theorem dX9_isParted_34 : decode cX9_isParted 34 = .ok (.iconst 1, 1) := by decide +kernel
theorem dX9_isParted_35 : decode cX9_isParted 35 = .ok (.iadd, 1) := by decide +kernel
theorem dX9_isParted_36 : decode cX9_isParted 36 = .ok (.idiv, 1) := by decide +kernel
theorem dX9_isParted_37 : decode cX9_isParted 37 = .ok (.istore_n 3, 1) := by decide +kernel
theorem dX9_isParted_38 : decode cX9_isParted 38 = .ok (.iload 4, 2) := by decide +kernel
theorem dX9_isParted_40 : decode cX9_isParted 40 = .ok (.aload_n 0, 1) := by decide +kernel
theorem dX9_isParted_41 : decode cX9_isParted 41 = .ok (.getfield 28, 3) := by decide +kernel
theorem dX9_isParted_44 : decode cX9_isParted 44 = .ok (.iload 5, 2) := by decide +kernel
theorem dX9_isParted_46 : decode cX9_isParted 46 = .ok (.iaload, 1) := by decide +kernel
theorem dX9_isParted_47 : decode cX9_isParted 47 = .ok (.iadd, 1) := by decide +kernel
theorem dX9_isParted_48 : decode cX9_isParted 48 = .ok (.istore 4, 2) := by decide +kernel
theorem dX9_isParted_50 : decode cX9_isParted 50 = .ok (.iinc 5 (-1), 3) := by decide +kernel
theorem dX9_isParted_53 : decode cX9_isParted 53 = .ok (.goto (-38), 3) := by decide +kernel
theorem dX9_isParted_56 : decode cX9_isParted 56 = .ok (.iload 4, 2) := by decide +kernel
theorem dX9_isParted_58 : decode cX9_isParted 58 = .ok (.iload_n 2, 1) := by decide +kernel
theorem dX9_isParted_59 : decode cX9_isParted 59 = .ok (.if_icmp .ne 7, 3) := by decide +kernel
theorem dX9_isParted_62 : decode cX9_isParted 62 = .ok (.iconst 1, 1) := by decide +kernel
theorem dX9_isParted_63 : decode cX9_isParted 63 = .ok (.goto 4, 3) := by decide +kernel
theorem dX9_isParted_66 : decode cX9_isParted 66 = .ok (.iconst 0, 1) := by decide +kernel
theorem dX9_isParted_67 : decode cX9_isParted 67 = .ok (.ireturn, 1) := by decide +kernel
theorem dX9_triesCoats_0 : decode cX9_triesCoats 0 = .ok (.iconst 0, 1) := by decide +kernel
theorem dX9_triesCoats_1 : decode cX9_triesCoats 1 = .ok (.istore_n 2, 1) := by decide +kernel
theorem dX9_triesCoats_2 : decode cX9_triesCoats 2 = .ok (.iload_n 2, 1) := by decide +kernel
theorem dX9_triesCoats_3 : decode cX9_triesCoats 3 = .ok (.aload_n 0, 1) := by decide +kernel
theorem dX9_triesCoats_4 : decode cX9_triesCoats 4 = .ok (.getfield 7, 3) := by decide +kernel
theorem dX9_triesCoats_7 : decode cX9_triesCoats 7 = .ok (.iconst 0, 1) := by decide +kernel
theorem dX9_triesCoats_8 : decode cX9_triesCoats 8 = .ok (.iaload, 1) := by decide +kernel
theorem dX9_triesCoats_9 : decode cX9_triesCoats 9 = .ok (.if_icmp .ge 26, 3) := by decide +kernel
theorem dX9_triesCoats_12 : decode cX9_triesCoats 12 = .ok (.aload_n 0, 1) := by decide +kernel
theorem dX9_triesCoats_13 : decode cX9_triesCoats 13 = .ok (.iload_n 2, 1) := by decide +kernel
theorem dX9_triesCoats_14 : decode cX9_triesCoats 14 = .ok (.aload_n 0, 1) := by decide +kernel
theorem dX9_triesCoats_15 : decode cX9_triesCoats 15 = .ok (.iload_n 2, 1) := by decide +kernel
theorem dX9_triesCoats_16 : decode cX9_triesCoats 16 = .ok (.invokevirtual 73, 3) := by decide +kernel
theorem dX9_triesCoats_19 : decode cX9_triesCoats 19 = .ok (.aload_n 0, 1) := by decide +kernel
theorem dX9_triesCoats_20 : decode cX9_triesCoats 20 = .ok (.getfield 28, 3) := by decide +kernel
theorem dX9_triesCoats_23 : decode cX9_triesCoats 23 = .ok (.iload_n 2, 1) := by decide +kernel
theorem dX9_triesCoats_24 : decode cX9_triesCoats 24 = .ok (.iaload, 1) := by decide +kernel
theorem dX9_triesCoats_25 : decode cX9_triesCoats 25 = .ok (.iadd, 1) := by decide +kernel
theorem dX9_triesCoats_26 : decode cX9_triesCoats 26 = .ok (.invokevirtual 96, 3) := by decide +kernel
theorem dX9_triesCoats_29 : decode cX9_triesCoats 29 = .ok (.iinc 2 1, 3) := by decide +kernel
theorem dX9_triesCoats_32 : decode cX9_triesCoats 32 = .ok (.goto (-30), 3) := by decide +kernel
theorem dX9_triesCoats_35 : decode cX9_triesCoats 35 = .ok (.aload_n 0, 1) := by decide +kernel
theorem dX9_triesCoats_36 : decode cX9_triesCoats 36 = .ok (.iload_n 1, 1) := by decide +kernel
theorem dX9_triesCoats_37 : decode cX9_triesCoats 37 = .ok (.invokevirtual 182, 3) := by decide +kernel
theorem dX9_triesCoats_40 : decode cX9_triesCoats 40 = .ok (.aload_n 0, 1) := by decide +kernel
theorem dX9_triesCoats_41 : decode cX9_triesCoats 41 = .ok (.invokevirtual 82, 3) := by decide +kernel
theorem dX9_triesCoats_44 : decode cX9_triesCoats 44 = .ok (.invokestatic 79, 3) := by decide +kernel
theorem dX9_triesCoats_47 : decode cX9_triesCoats 47 = .ok (.istore_n 2, 1) := by decide +kernel
theorem dX9_triesCoats_48 : decode cX9_triesCoats 48 = .ok (.aload_n 0, 1) := by decide +kernel
theorem dX9_triesCoats_49 : decode cX9_triesCoats 49 = .ok (.aload_n 0, 1) := by decide +kernel
theorem dX9_triesCoats_50 : decode cX9_triesCoats 50 = .ok (.invokevirtual 82, 3) := by decide +kernel
theorem dX9_triesCoats_53 : decode cX9_triesCoats 53 = .ok (.invokevirtual 133, 3) := by decide +kernel
theorem dX9_triesCoats_56 : decode cX9_triesCoats 56 = .ok (.istore_n 3, 1) := by decide +kernel
theorem dX9_triesCoats_57 : decode cX9_triesCoats 57 = .ok (.aload_n 0, 1) := by decide +kernel
theorem dX9_triesCoats_58 : decode cX9_triesCoats 58 = .ok (.invokevirtual 185, 3) := by decide +kernel
theorem dX9_triesCoats_61 : decode cX9_triesCoats 61 = .ok (.iload_n 2, 1) := by decide +kernel
theorem dX9_triesCoats_62 : decode cX9_triesCoats 62 = .ok (.aload_n 0, 1) := by decide +kernel
theorem dX9_triesCoats_63 : decode cX9_triesCoats 63 = .ok (.getfield 192, 3) := by decide +kernel
theorem dX9_triesCoats_66 : decode cX9_triesCoats 66 = .ok (.if_icmp .gt 19, 3) := by decide +kernel
theorem dX9_triesCoats_69 : decode cX9_triesCoats 69 = .ok (.iload_n 2, 1) := by decide +kernel
theorem dX9_triesCoats_70 : decode cX9_triesCoats 70 = .ok (.aload_n 0, 1) := by decide +kernel
theorem dX9_triesCoats_71 : decode cX9_triesCoats 71 = .ok (.getfield 192, 3) := by decide +kernel
theorem dX9_triesCoats_74 : decode cX9_triesCoats 74 = .ok (.if_icmp .ne 51, 3) := by decide +kernel
theorem dX9_triesCoats_77 : decode cX9_triesCoats 77 = .ok (.iload_n 3, 1) := by decide +kernel
theorem dX9_triesCoats_78 : decode cX9_triesCoats 78 = .ok (.aload_n 0, 1) := by decide +kernel
theorem dX9_triesCoats_79 : decode cX9_triesCoats 79 = .ok (.getfield 195, 3) := by decide +kernel
theorem dX9_triesCoats_82 : decode cX9_triesCoats 82 = .ok (.if_icmp .le 43, 3) := by decide +kernel
theorem dX9_triesCoats_85 : decode cX9_triesCoats 85 = .ok (.aload_n 0, 1) := by decide +kernel
theorem dX9_triesCoats_86 : decode cX9_triesCoats 86 = .ok (.iload_n 2, 1) := by decide +kernel
theorem dX9_triesCoats_87 : decode cX9_triesCoats 87 = .ok (.putfield 192, 3) := by decide +kernel
theorem dX9_triesCoats_90 : decode cX9_triesCoats 90 = .ok (.aload_n 0, 1) := by decide +kernel
theorem dX9_triesCoats_91 : decode cX9_triesCoats 91 = .ok (.iload_n 3, 1) := by decide +kernel
theorem dX9_triesCoats_92 : decode cX9_triesCoats 92 = .ok (.putfield 195, 3) := by decide +kernel
theorem dX9_triesCoats_95 : decode cX9_triesCoats 95 = .ok (.iconst 0, 1) := by decide +kernel
theorem dX9_triesCoats_96 : decode cX9_triesCoats 96 = .ok (.istore 4, 2) := by decide +kernel
theorem dX9_triesCoats_98 : decode cX9_triesCoats 98 = .ok (.iload 4, 2) := by decide +kernel
theorem dX9_triesCoats_100 : decode cX9_triesCoats 100 = .ok (.bipush 6, 2) := by decide +kernel
theorem dX9_triesCoats_102 : decode cX9_triesCoats 102 = .ok (.if_icmp .ge 23, 3) := by decide +kernel
theorem dX9_triesCoats_105 : decode cX9_triesCoats 105 = .ok (.aload_n 0, 1) := by decide +kernel
theorem dX9_triesCoats_106 : decode cX9_triesCoats 106 = .ok (.getfield 31, 3) := by decide +kernel
theorem dX9_triesCoats_109 : decode cX9_triesCoats 109 = .ok (.iload 4, 2) := by decide +kernel
theorem dX9_triesCoats_111 : decode cX9_triesCoats 111 = .ok (.aload_n 0, 1) := by decide +kernel
theorem dX9_triesCoats_112 : decode cX9_triesCoats 112 = .ok (.getfield 28, 3) := by decide +kernel
theorem dX9_triesCoats_115 : decode cX9_triesCoats 115 = .ok (.iload 4, 2) := by decide +kernel
theorem dX9_triesCoats_117 : decode cX9_triesCoats 117 = .ok (.iaload, 1) := by decide +kernel
theorem dX9_triesCoats_118 : decode cX9_triesCoats 118 = .ok (.iastore, 1) := by decide +kernel
theorem dX9_triesCoats_119 : decode cX9_triesCoats 119 = .ok (.iinc 4 1, 3) := by decide +kernel
theorem dX9_triesCoats_122 : decode cX9_triesCoats 122 = .ok (.goto (-24), 3) := by decide +kernel
theorem dX9_triesCoats_125 : decode cX9_triesCoats 125 = .ok (.return_, 1) := by decide +kernel
theorem dX9_coats_0 : decode cX9_coats 0 = .ok (.iload_n 1, 1) := by decide +kernel
theorem dX9_coats_1 : decode cX9_coats 1 = .ok (.i2l, 1) := by decide +kernel
theorem dX9_coats_2 : decode cX9_coats 2 = .ok (.lconst 0, 1) := by decide +kernel
theorem dX9_coats_3 : decode cX9_coats 3 = .ok (.ldc2_w 198, 3) := by decide +kernel
theorem dX9_coats_6 : decode cX9_coats 6 = .ok (.invokestatic 50, 3) := by decide +kernel
theorem dX9_coats_9 : decode cX9_coats 9 = .ok (.ifCond .eq 21, 3) := by decide +kernel
theorem dX9_coats_12 : decode cX9_coats 12 = .ok (.iload_n 2, 1) := by decide +kernel
theorem dX9_coats_13 : decode cX9_coats 13 = .ok (.i2l, 1) := by decide +kernel
theorem dX9_coats_14 : decode cX9_coats 14 = .ok (.lconst 1, 1) := by decide +kernel
theorem dX9_coats_15 : decode cX9_coats 15 = .ok (.ldc2_w 200, 3) := by decide +kernel
theorem dX9_coats_18 : decode cX9_coats 18 = .ok (.invokestatic 50, 3) := by decide +kernel
theorem dX9_coats_21 : decode cX9_coats 21 = .ok (.ifCond .eq 9, 3) := by decide +kernel
theorem dX9_coats_24 : decode cX9_coats 24 = .ok (.iload_n 3, 1) := by decide +kernel
theorem dX9_coats_25 : decode cX9_coats 25 = .ok (.bipush (-2), 2) := by decide +kernel
theorem dX9_coats_27 : decode cX9_coats 27 = .ok (.if_icmp .ge 5, 3) := by decide +kernel
theorem dX9_coats_30 : decode cX9_coats 30 = .ok (.iconst (-1), 1) := by decide +kernel
theorem dX9_coats_31 : decode cX9_coats 31 = .ok (.ireturn, 1) := by decide +kernel
theorem dX9_coats_32 : decode cX9_coats 32 = .ok (.aload_n 0, 1) := by decide +kernel
theorem dX9_coats_33 : decode cX9_coats 33 = .ok (.getfield 7, 3) := by decide +kernel
theorem dX9_coats_36 : decode cX9_coats 36 = .ok (.iconst 0, 1) := by decide +kernel
theorem dX9_coats_37 : decode cX9_coats 37 = .ok (.iaload, 1) := by decide +kernel
theorem dX9_coats_38 : decode cX9_coats 38 = .ok (.ifCond .ne 6, 3) := by decide +kernel
theorem dX9_coats_41 : decode cX9_coats 41 = .ok (.bipush (-4), 2) := by decide +kernel
theorem dX9_coats_43 : decode cX9_coats 43 = .ok (.ireturn, 1) := by decide +kernel
theorem dX9_coats_44 : decode cX9_coats 44 = .ok (.iconst 1, 1) := by decide +kernel
theorem dX9_coats_45 : decode cX9_coats 45 = .ok (.istore 4, 2) := by decide +kernel
theorem dX9_coats_47 : decode cX9_coats 47 = .ok (.iconst 0, 1) := by decide +kernel
theorem dX9_coats_48 : decode cX9_coats 48 = .ok (.istore 5, 2) := by decide +kernel
theorem dX9_coats_50 : decode cX9_coats 50 = .ok (.iload 5, 2) := by decide +kernel
theorem dX9_coats_52 : decode cX9_coats 52 = .ok (.aload_n 0, 1) := by decide +kernel
theorem dX9_coats_53 : decode cX9_coats 53 = .ok (.getfield 7, 3) := by decide +kernel
theorem dX9_coats_56 : decode cX9_coats 56 = .ok (.iconst 0, 1) := by decide +kernel
theorem dX9_coats_57 : decode cX9_coats 57 = .ok (.iaload, 1) := by decide +kernel
theorem dX9_coats_58 : decode cX9_coats 58 = .ok (.if_icmp .ge 17, 3) := by decide +kernel
theorem dX9_coats_61 : decode cX9_coats 61 = .ok (.iload 4, 2) := by decide +kernel
theorem dX9_coats_63 : decode cX9_coats 63 = .ok (.iload_n 1, 1) := by decide +kernel
theorem dX9_coats_64 : decode cX9_coats 64 = .ok (.iconst 1, 1) := by decide +kernel
theorem dX9_coats_65 : decode cX9_coats 65 = .ok (.iadd, 1) := by decide +kernel
theorem dX9_coats_66 : decode cX9_coats 66 = .ok (.imul, 1) := by decide +kernel
theorem dX9_coats_67 : decode cX9_coats 67 = .ok (.istore 4, 2) := by decide +kernel
theorem dX9_coats_69 : decode cX9_coats 69 = .ok (.iinc 5 1, 3) := by decide +kernel
theorem dX9_coats_72 : decode cX9_coats 72 = .ok (.goto (-22), 3) := by decide +kernel
theorem dX9_coats_75 : decode cX9_coats 75 = .ok (.aload_n 0, 1) := by decide +kernel
theorem dX9_coats_76 : decode cX9_coats 76 = .ok (.iconst (-1), 1) := by decide +kernel
theorem dX9_coats_77 : decode cX9_coats 77 = .ok (.putfield 192, 3) := by decide +kernel
theorem dX9_coats_80 : decode cX9_coats 80 = .ok (.aload_n 0, 1) := by decide +kernel
theorem dX9_coats_81 : decode cX9_coats 81 = .ok (.iconst (-1), 1) := by decide +kernel
theorem dX9_coats_82 : decode cX9_coats 82 = .ok (.putfield 195, 3) := by decide +kernel
theorem dX9_coats_85 : decode cX9_coats 85 = .ok (.aload_n 0, 1) := by decide +kernel
theorem dX9_coats_86 : decode cX9_coats 86 = .ok (.invokevirtual 179, 3) := by decide +kernel
theorem dX9_coats_89 : decode cX9_coats 89 = .ok (.iconst 0, 1) := by decide +kernel
theorem dX9_coats_90 : decode cX9_coats 90 = .ok (.istore 5, 2) := by decide +kernel
theorem dX9_coats_92 : decode cX9_coats 92 = .ok (.iload 5, 2) := by decide +kernel
theorem dX9_coats_94 : decode cX9_coats 94 = .ok (.iload 4, 2) := by decide +kernel
theorem dX9_coats_96 : decode cX9_coats 96 = .ok (.if_icmp .ge 24, 3) := by decide +kernel
theorem dX9_coats_99 : decode cX9_coats 99 = .ok (.aload_n 0, 1) := by decide +kernel
theorem dX9_coats_100 : decode cX9_coats 100 = .ok (.iload 5, 2) := by decide +kernel
theorem dX9_coats_102 : decode cX9_coats 102 = .ok (.iload_n 1, 1) := by decide +kernel
theorem dX9_coats_103 : decode cX9_coats 103 = .ok (.invokevirtual 202, 3) := by decide +kernel
theorem dX9_coats_106 : decode cX9_coats 106 = .ok (.ifCond .eq 8, 3) := by decide +kernel
theorem dX9_coats_109 : decode cX9_coats 109 = .ok (.aload_n 0, 1) := by decide +kernel
theorem dX9_coats_110 : decode cX9_coats 110 = .ok (.iload_n 2, 1) := by decide +kernel
theorem dX9_coats_111 : decode cX9_coats 111 = .ok (.invokevirtual 205, 3) := by decide +kernel
theorem dX9_coats_114 : decode cX9_coats 114 = .ok (.iinc 5 1, 3) := by decide +kernel
theorem dX9_coats_117 : decode cX9_coats 117 = .ok (.goto (-25), 3) := by decide +kernel
theorem dX9_coats_120 : decode cX9_coats 120 = .ok (.iload_n 3, 1) := by decide +kernel
theorem dX9_coats_121 : decode cX9_coats 121 = .ok (.iconst (-1), 1) := by decide +kernel
theorem dX9_coats_122 : decode cX9_coats 122 = .ok (.if_icmp .ne 10, 3) := by decide +kernel
theorem dX9_coats_125 : decode cX9_coats 125 = .ok (.aload_n 0, 1) := by decide +kernel
theorem dX9_coats_126 : decode cX9_coats 126 = .ok (.getfield 192, 3) := by decide +kernel
theorem dX9_coats_129 : decode cX9_coats 129 = .ok (.goto 37, 3) := by decide +kernel
theorem dX9_coats_132 : decode cX9_coats 132 = .ok (.iload_n 3, 1) := by decide +kernel
theorem dX9_coats_133 : decode cX9_coats 133 = .ok (.bipush (-2), 2) := by decide +kernel
theorem dX9_coats_135 : decode cX9_coats 135 = .ok (.if_icmp .ne 10, 3) := by decide +kernel
theorem dX9_coats_138 : decode cX9_coats 138 = .ok (.aload_n 0, 1) := by decide +kernel
theorem dX9_coats_139 : decode cX9_coats 139 = .ok (.getfield 195, 3) := by decide +kernel
theorem dX9_coats_142 : decode cX9_coats 142 = .ok (.goto 24, 3) := by decide +kernel
theorem dX9_coats_145 : decode cX9_coats 145 = .ok (.iload_n 3, 1) := by decide +kernel
theorem dX9_coats_146 : decode cX9_coats 146 = .ok (.aload_n 0, 1) := by decide +kernel
theorem dX9_coats_147 : decode cX9_coats 147 = .ok (.getfield 7, 3) := by decide +kernel
theorem dX9_coats_150 : decode cX9_coats 150 = .ok (.iconst 0, 1) := by decide +kernel
theorem dX9_coats_151 : decode cX9_coats 151 = .ok (.iaload, 1) := by decide +kernel
theorem dX9_coats_152 : decode cX9_coats 152 = .ok (.if_icmp .ge 12, 3) := by decide +kernel
theorem dX9_coats_155 : decode cX9_coats 155 = .ok (.aload_n 0, 1) := by decide +kernel
theorem dX9_coats_156 : decode cX9_coats 156 = .ok (.getfield 31, 3) := by decide +kernel
theorem dX9_coats_159 : decode cX9_coats 159 = .ok (.iload_n 3, 1) := by decide +kernel
theorem dX9_coats_160 : decode cX9_coats 160 = .ok (.iaload, 1) := by decide +kernel
theorem dX9_coats_161 : decode cX9_coats 161 = .ok (.goto 5, 3) := by decide +kernel
theorem dX9_coats_164 : decode cX9_coats 164 = .ok (.bipush (-4), 2) := by decide +kernel
theorem dX9_coats_166 : decode cX9_coats 166 = .ok (.ireturn, 1) := by decide +kernel
theorem dX9_guard_0 : decode cX9_guard 0 = .ok (.iload_n 1, 1) := by decide +kernel
theorem dX9_guard_1 : decode cX9_guard 1 = .ok (.i2l, 1) := by decide +kernel
theorem dX9_guard_2 : decode cX9_guard 2 = .ok (.lconst 0, 1) := by decide +kernel
theorem dX9_guard_3 : decode cX9_guard 3 = .ok (.ldc2_w 128, 3) := by decide +kernel
theorem dX9_guard_6 : decode cX9_guard 6 = .ok (.invokestatic 50, 3) := by decide +kernel
theorem dX9_guard_9 : decode cX9_guard 9 = .ok (.ifCond .eq 13, 3) := by decide +kernel
theorem dX9_guard_12 : decode cX9_guard 12 = .ok (.iload_n 2, 1) := by decide +kernel
theorem dX9_guard_13 : decode cX9_guard 13 = .ok (.i2l, 1) := by decide +kernel
theorem dX9_guard_14 : decode cX9_guard 14 = .ok (.lconst 0, 1) := by decide +kernel
theorem dX9_guard_15 : decode cX9_guard 15 = .ok (.lconst 1, 1) := by decide +kernel
theorem dX9_guard_16 : decode cX9_guard 16 = .ok (.invokestatic 50, 3) := by decide +kernel
theorem dX9_guard_19 : decode cX9_guard 19 = .ok (.ifCond .ne 5, 3) := by decide +kernel
theorem dX9_guard_22 : decode cX9_guard 22 = .ok (.iconst (-1), 1) := by decide +kernel
theorem dX9_guard_23 : decode cX9_guard 23 = .ok (.ireturn, 1) := by decide +kernel
theorem dX9_guard_24 : decode cX9_guard 24 = .ok (.aload_n 0, 1) := by decide +kernel
theorem dX9_guard_25 : decode cX9_guard 25 = .ok (.invokevirtual 82, 3) := by decide +kernel
theorem dX9_guard_28 : decode cX9_guard 28 = .ok (.istore_n 3, 1) := by decide +kernel
theorem dX9_guard_29 : decode cX9_guard 29 = .ok (.iload_n 3, 1) := by decide +kernel
theorem dX9_guard_30 : decode cX9_guard 30 = .ok (.istore 4, 2) := by decide +kernel
theorem dX9_guard_32 : decode cX9_guard 32 = .ok (.iconst 0, 1) := by decide +kernel
theorem dX9_guard_33 : decode cX9_guard 33 = .ok (.istore 5, 2) := by decide +kernel
theorem dX9_guard_35 : decode cX9_guard 35 = .ok (.iload 5, 2) := by decide +kernel
theorem dX9_guard_37 : decode cX9_guard 37 = .ok (.bipush 64, 2) := by decide +kernel
theorem dX9_guard_39 : decode cX9_guard 39 = .ok (.if_icmp .ge 69, 3) := by decide +kernel
theorem dX9_guard_42 : decode cX9_guard 42 = .ok (.iload 5, 2) := by decide +kernel
theorem dX9_guard_44 : decode cX9_guard 44 = .ok (.iload_n 3, 1) := by decide +kernel
theorem dX9_guard_45 : decode cX9_guard 45 = .ok (.iconst (-1), 1) := by decide +kernel
theorem dX9_guard_46 : decode cX9_guard 46 = .ok (.ixor, 1) := by decide +kernel
theorem dX9_guard_47 : decode cX9_guard 47 = .ok (.iand, 1) := by decide +kernel
theorem dX9_guard_48 : decode cX9_guard 48 = .ok (.ifCond .ne 37, 3) := by decide +kernel
theorem dX9_guard_51 : decode cX9_guard 51 = .ok (.iload 5, 2) := by decide +kernel
theorem dX9_guard_53 : decode cX9_guard 53 = .ok (.invokestatic 79, 3) := by decide +kernel
theorem dX9_guard_56 : decode cX9_guard 56 = .ok (.iload 4, 2) := by decide +kernel
theorem dX9_guard_58 : decode cX9_guard 58 = .ok (.invokestatic 79, 3) := by decide +kernel
theorem dX9_guard_61 : decode cX9_guard 61 = .ok (.if_icmp .ge 24, 3) := by decide +kernel
theorem dX9_guard_64 : decode cX9_guard 64 = .ok (.aload_n 0, 1) := by decide +kernel
theorem dX9_guard_65 : decode cX9_guard 65 = .ok (.iload 5, 2) := by decide +kernel
theorem dX9_guard_67 : decode cX9_guard 67 = .ok (.iload_n 1, 1) := by decide +kernel
theorem dX9_guard_68 : decode cX9_guard 68 = .ok (.invokevirtual 130, 3) := by decide +kernel
theorem dX9_guard_71 : decode cX9_guard 71 = .ok (.aload_n 0, 1) := by decide +kernel
theorem dX9_guard_72 : decode cX9_guard 72 = .ok (.bipush 63, 2) := by decide +kernel
theorem dX9_guard_74 : decode cX9_guard 74 = .ok (.iload_n 1, 1) := by decide +kernel
theorem dX9_guard_75 : decode cX9_guard 75 = .ok (.invokevirtual 130, 3) := by decide +kernel
theorem dX9_guard_78 : decode cX9_guard 78 = .ok (.if_icmp .ne 7, 3) := by decide +kernel
theorem dX9_guard_81 : decode cX9_guard 81 = .ok (.iconst 1, 1) := by decide +kernel
theorem dX9_guard_82 : decode cX9_guard 82 = .ok (.goto 4, 3) := by decide +kernel
theorem dX9_guard_85 : decode cX9_guard 85 = .ok (.iconst 0, 1) := by decide +kernel
theorem dX9_guard_86 : decode cX9_guard 86 = .ok (.istore 6, 2) := by decide +kernel
theorem dX9_guard_88 : decode cX9_guard 88 = .ok (.iload 6, 2) := by decide +kernel
theorem dX9_guard_90 : decode cX9_guard 90 = .ok (.ifCond .eq 8, 3) := by decide +kernel
theorem dX9_guard_93 : decode cX9_guard 93 = .ok (.iload 5, 2) := by decide +kernel
theorem dX9_guard_95 : decode cX9_guard 95 = .ok (.goto 5, 3) := by decide +kernel
theorem dX9_guard_98 : decode cX9_guard 98 = .ok (.iload 4, 2) := by decide +kernel
theorem dX9_guard_100 : decode cX9_guard 100 = .ok (.istore 4, 2) := by decide +kernel
theorem dX9_guard_102 : decode cX9_guard 102 = .ok (.iinc 5 1, 3) := by decide +kernel
theorem dX9_guard_105 : decode cX9_guard 105 = .ok (.goto (-70), 3) := by decide +kernel
theorem dX9_guard_108 : decode cX9_guard 108 = .ok (.iload_n 2, 1) := by decide +kernel
theorem dX9_guard_109 : decode cX9_guard 109 = .ok (.ifCond .ne 11, 3) := by decide +kernel
theorem dX9_guard_112 : decode cX9_guard 112 = .ok (.iload 4, 2) := by decide +kernel
theorem dX9_guard_114 : decode cX9_guard 114 = .ok (.invokestatic 79, 3) := by decide +kernel
theorem dX9_guard_117 : decode cX9_guard 117 = .ok (.goto 5, 3) := by decide +kernel
theorem dX9_guard_120 : decode cX9_guard 120 = .ok (.iload 4, 2) := by decide +kernel
theorem dX9_guard_122 : decode cX9_guard 122 = .ok (.ireturn, 1) := by decide +kernel
theorem dX9_calm_0 : decode cX9_calm 0 = .ok (.iload_n 1, 1) := by decide +kernel
theorem dX9_calm_1 : decode cX9_calm 1 = .ok (.i2l, 1) := by decide +kernel
theorem dX9_calm_2 : decode cX9_calm 2 = .ok (.lconst 1, 1) := by decide +kernel
theorem dX9_calm_3 : decode cX9_calm 3 = .ok (.ldc2_w 167, 3) := by decide +kernel
theorem dX9_calm_6 : decode cX9_calm 6 = .ok (.invokestatic 50, 3) := by decide +kernel
theorem dX9_calm_9 : decode cX9_calm 9 = .ok (.ifCond .ne 5, 3) := by decide +kernel
theorem dX9_calm_12 : decode cX9_calm 12 = .ok (.iconst (-1), 1) := by decide +kernel
theorem dX9_calm_13 : decode cX9_calm 13 = .ok (.ireturn, 1) := by decide +kernel
theorem dX9_calm_14 : decode cX9_calm 14 = .ok (.aload_n 0, 1) := by decide +kernel
theorem dX9_calm_15 : decode cX9_calm 15 = .ok (.invokevirtual 82, 3) := by decide +kernel
theorem dX9_calm_18 : decode cX9_calm 18 = .ok (.istore_n 2, 1) := by decide +kernel
theorem dX9_calm_19 : decode cX9_calm 19 = .ok (.iconst 0, 1) := by decide +kernel
theorem dX9_calm_20 : decode cX9_calm 20 = .ok (.istore_n 3, 1) := by decide +kernel
theorem dX9_calm_21 : decode cX9_calm 21 = .ok (.aload_n 0, 1) := by decide +kernel
theorem dX9_calm_22 : decode cX9_calm 22 = .ok (.invokevirtual 179, 3) := by decide +kernel
theorem dX9_calm_25 : decode cX9_calm 25 = .ok (.iconst 0, 1) := by decide +kernel
theorem dX9_calm_26 : decode cX9_calm 26 = .ok (.istore 4, 2) := by decide +kernel
theorem dX9_calm_28 : decode cX9_calm 28 = .ok (.iload 4, 2) := by decide +kernel
theorem dX9_calm_30 : decode cX9_calm 30 = .ok (.bipush 13, 2) := by decide +kernel
theorem dX9_calm_32 : decode cX9_calm 32 = .ok (.if_icmp .ge 41, 3) := by decide +kernel
theorem dX9_calm_35 : decode cX9_calm 35 = .ok (.aload_n 0, 1) := by decide +kernel
theorem dX9_calm_36 : decode cX9_calm 36 = .ok (.getfield 7, 3) := by decide +kernel
theorem dX9_calm_39 : decode cX9_calm 39 = .ok (.iconst 4, 1) := by decide +kernel
theorem dX9_calm_40 : decode cX9_calm 40 = .ok (.iload 4, 2) := by decide +kernel
theorem dX9_calm_42 : decode cX9_calm 42 = .ok (.iastore, 1) := by decide +kernel
theorem dX9_calm_43 : decode cX9_calm 43 = .ok (.aload_n 0, 1) := by decide +kernel
theorem dX9_calm_44 : decode cX9_calm 44 = .ok (.iload_n 1, 1) := by decide +kernel
theorem dX9_calm_45 : decode cX9_calm 45 = .ok (.invokevirtual 182, 3) := by decide +kernel
theorem dX9_calm_48 : decode cX9_calm 48 = .ok (.aload_n 0, 1) := by decide +kernel
theorem dX9_calm_49 : decode cX9_calm 49 = .ok (.invokevirtual 82, 3) := by decide +kernel
theorem dX9_calm_52 : decode cX9_calm 52 = .ok (.iload_n 2, 1) := by decide +kernel
theorem dX9_calm_53 : decode cX9_calm 53 = .ok (.if_icmp .ne 8, 3) := by decide +kernel
theorem dX9_calm_56 : decode cX9_calm 56 = .ok (.iload 4, 2) := by decide +kernel
theorem dX9_calm_58 : decode cX9_calm 58 = .ok (.goto 4, 3) := by decide +kernel
theorem dX9_calm_61 : decode cX9_calm 61 = .ok (.iload_n 3, 1) := by decide +kernel
theorem dX9_calm_62 : decode cX9_calm 62 = .ok (.istore_n 3, 1) := by decide +kernel
theorem dX9_calm_63 : decode cX9_calm 63 = .ok (.aload_n 0, 1) := by decide +kernel
theorem dX9_calm_64 : decode cX9_calm 64 = .ok (.invokevirtual 185, 3) := by decide +kernel
theorem dX9_calm_67 : decode cX9_calm 67 = .ok (.iinc 4 1, 3) := by decide +kernel
theorem dX9_calm_70 : decode cX9_calm 70 = .ok (.goto (-42), 3) := by decide +kernel
theorem dX9_calm_73 : decode cX9_calm 73 = .ok (.iload_n 3, 1) := by decide +kernel
theorem dX9_calm_74 : decode cX9_calm 74 = .ok (.ireturn, 1) := by decide +kernel
theorem dX9_steam_0 : decode cX9_steam 0 = .ok (.iload_n 1, 1) := by decide +kernel
theorem dX9_steam_1 : decode cX9_steam 1 = .ok (.i2l, 1) := by decide +kernel
theorem dX9_steam_2 : decode cX9_steam 2 = .ok (.lconst 0, 1) := by decide +kernel
theorem dX9_steam_3 : decode cX9_steam 3 = .ok (.ldc2_w 208, 3) := by decide +kernel
theorem dX9_steam_6 : decode cX9_steam 6 = .ok (.invokestatic 50, 3) := by decide +kernel
theorem dX9_steam_9 : decode cX9_steam 9 = .ok (.ifCond .eq 25, 3) := by decide +kernel
theorem dX9_steam_12 : decode cX9_steam 12 = .ok (.iload_n 2, 1) := by decide +kernel
theorem dX9_steam_13 : decode cX9_steam 13 = .ok (.i2l, 1) := by decide +kernel
theorem dX9_steam_14 : decode cX9_steam 14 = .ok (.lconst 0, 1) := by decide +kernel
theorem dX9_steam_15 : decode cX9_steam 15 = .ok (.ldc2_w 210, 3) := by decide +kernel
theorem dX9_steam_18 : decode cX9_steam 18 = .ok (.invokestatic 50, 3) := by decide +kernel
theorem dX9_steam_21 : decode cX9_steam 21 = .ok (.ifCond .eq 13, 3) := by decide +kernel
theorem dX9_steam_24 : decode cX9_steam 24 = .ok (.iload_n 3, 1) := by decide +kernel
theorem dX9_steam_25 : decode cX9_steam 25 = .ok (.i2l, 1) := by decide +kernel
theorem dX9_steam_26 : decode cX9_steam 26 = .ok (.lconst 0, 1) := by decide +kernel
theorem dX9_steam_27 : decode cX9_steam 27 = .ok (.lconst 1, 1) := by decide +kernel
theorem dX9_steam_28 : decode cX9_steam 28 = .ok (.invokestatic 50, 3) := by decide +kernel
theorem dX9_steam_31 : decode cX9_steam 31 = .ok (.ifCond .ne 5, 3) := by decide +kernel
theorem dX9_steam_34 : decode cX9_steam 34 = .ok (.iconst (-1), 1) := by decide +kernel
theorem dX9_steam_35 : decode cX9_steam 35 = .ok (.ireturn, 1) := by decide +kernel
theorem dX9_steam_36 : decode cX9_steam 36 = .ok (.aload_n 0, 1) := by decide +kernel
theorem dX9_steam_37 : decode cX9_steam 37 = .ok (.invokevirtual 82, 3) := by decide +kernel
theorem dX9_steam_40 : decode cX9_steam 40 = .ok (.istore 4, 2) := by decide +kernel
theorem dX9_steam_42 : decode cX9_steam 42 = .ok (.iconst 0, 1) := by decide +kernel
theorem dX9_steam_43 : decode cX9_steam 43 = .ok (.istore 5, 2) := by decide +kernel
theorem dX9_steam_45 : decode cX9_steam 45 = .ok (.iconst 0, 1) := by decide +kernel
theorem dX9_steam_46 : decode cX9_steam 46 = .ok (.istore 6, 2) := by decide +kernel
theorem dX9_steam_48 : decode cX9_steam 48 = .ok (.aload_n 0, 1) := by decide +kernel
theorem dX9_steam_49 : decode cX9_steam 49 = .ok (.invokevirtual 179, 3) := by decide +kernel
theorem dX9_steam_52 : decode cX9_steam 52 = .ok (.iconst 0, 1) := by decide +kernel
theorem dX9_steam_53 : decode cX9_steam 53 = .ok (.istore 7, 2) := by decide +kernel
theorem dX9_steam_55 : decode cX9_steam 55 = .ok (.iload 7, 2) := by decide +kernel
theorem dX9_steam_57 : decode cX9_steam 57 = .ok (.bipush 64, 2) := by decide +kernel
theorem dX9_steam_59 : decode cX9_steam 59 = .ok (.if_icmp .ge 119, 3) := by decide +kernel
theorem dX9_steam_62 : decode cX9_steam 62 = .ok (.iload 7, 2) := by decide +kernel
theorem dX9_steam_64 : decode cX9_steam 64 = .ok (.iload 4, 2) := by decide +kernel
theorem dX9_steam_66 : decode cX9_steam 66 = .ok (.iconst (-1), 1) := by decide +kernel
theorem dX9_steam_67 : decode cX9_steam 67 = .ok (.ixor, 1) := by decide +kernel
theorem dX9_steam_68 : decode cX9_steam 68 = .ok (.iand, 1) := by decide +kernel
theorem dX9_steam_69 : decode cX9_steam 69 = .ok (.ifCond .ne 103, 3) := by decide +kernel
theorem dX9_steam_72 : decode cX9_steam 72 = .ok (.iconst 1, 1) := by decide +kernel
theorem dX9_steam_73 : decode cX9_steam 73 = .ok (.istore 8, 2) := by decide +kernel
theorem dX9_steam_75 : decode cX9_steam 75 = .ok (.iconst 0, 1) := by decide +kernel
theorem dX9_steam_76 : decode cX9_steam 76 = .ok (.istore 9, 2) := by decide +kernel
theorem dX9_steam_78 : decode cX9_steam 78 = .ok (.iload 9, 2) := by decide +kernel
theorem dX9_steam_80 : decode cX9_steam 80 = .ok (.aload_n 0, 1) := by decide +kernel
theorem dX9_steam_81 : decode cX9_steam 81 = .ok (.getfield 7, 3) := by decide +kernel
theorem dX9_steam_84 : decode cX9_steam 84 = .ok (.iconst 0, 1) := by decide +kernel
theorem dX9_steam_85 : decode cX9_steam 85 = .ok (.iaload, 1) := by decide +kernel
theorem dX9_steam_86 : decode cX9_steam 86 = .ok (.if_icmp .ge 47, 3) := by decide +kernel
theorem dX9_steam_89 : decode cX9_steam 89 = .ok (.iload 8, 2) := by decide +kernel
theorem dX9_steam_91 : decode cX9_steam 91 = .ok (.iload 4, 2) := by decide +kernel
theorem dX9_steam_93 : decode cX9_steam 93 = .ok (.iload 9, 2) := by decide +kernel
theorem dX9_steam_95 : decode cX9_steam 95 = .ok (.ishr, 1) := by decide +kernel
theorem dX9_steam_96 : decode cX9_steam 96 = .ok (.iconst 1, 1) := by decide +kernel
theorem dX9_steam_97 : decode cX9_steam 97 = .ok (.iand, 1) := by decide +kernel
theorem dX9_steam_98 : decode cX9_steam 98 = .ok (.ifCond .ne 7, 3) := by decide +kernel
theorem dX9_steam_101 : decode cX9_steam 101 = .ok (.iconst 1, 1) := by decide +kernel
theorem dX9_steam_102 : decode cX9_steam 102 = .ok (.goto 22, 3) := by decide +kernel
theorem dX9_steam_105 : decode cX9_steam 105 = .ok (.iload 7, 2) := by decide +kernel
theorem dX9_steam_107 : decode cX9_steam 107 = .ok (.iload 9, 2) := by decide +kernel
theorem dX9_steam_109 : decode cX9_steam 109 = .ok (.ishr, 1) := by decide +kernel
theorem dX9_steam_110 : decode cX9_steam 110 = .ok (.iconst 1, 1) := by decide +kernel
theorem dX9_steam_111 : decode cX9_steam 111 = .ok (.iand, 1) := by decide +kernel
theorem dX9_steam_112 : decode cX9_steam 112 = .ok (.iconst 1, 1) := by decide +kernel
theorem dX9_steam_113 : decode cX9_steam 113 = .ok (.if_icmp .ne 7, 3) := by decide +kernel
theorem dX9_steam_116 : decode cX9_steam 116 = .ok (.iload_n 2, 1) := by decide +kernel
theorem dX9_steam_117 : decode cX9_steam 117 = .ok (.goto 7, 3) := by decide +kernel
theorem dX9_steam_120 : decode cX9_steam 120 = .ok (.bipush 10, 2) := by decide +kernel
theorem dX9_steam_122 : decode cX9_steam 122 = .ok (.iload_n 2, 1) := by decide +kernel
theorem dX9_steam_123 : decode cX9_steam 123 = .ok (.isub, 1) := by decide +kernel
theorem dX9_steam_124 : decode cX9_steam 124 = .ok (.imul, 1) := by decide +kernel
theorem dX9_steam_125 : decode cX9_steam 125 = .ok (.istore 8, 2) := by decide +kernel
theorem dX9_steam_127 : decode cX9_steam 127 = .ok (.iinc 9 1, 3) := by decide +kernel
theorem dX9_steam_130 : decode cX9_steam 130 = .ok (.goto (-52), 3) := by decide +kernel
theorem dX9_steam_133 : decode cX9_steam 133 = .ok (.aload_n 0, 1) := by decide +kernel
theorem dX9_steam_134 : decode cX9_steam 134 = .ok (.iload 7, 2) := by decide +kernel
theorem dX9_steam_136 : decode cX9_steam 136 = .ok (.invokevirtual 99, 3) := by decide +kernel
theorem dX9_steam_139 : decode cX9_steam 139 = .ok (.iload 6, 2) := by decide +kernel
theorem dX9_steam_141 : decode cX9_steam 141 = .ok (.iload 8, 2) := by decide +kernel
theorem dX9_steam_143 : decode cX9_steam 143 = .ok (.iadd, 1) := by decide +kernel
theorem dX9_steam_144 : decode cX9_steam 144 = .ok (.istore 6, 2) := by decide +kernel
theorem dX9_steam_146 : decode cX9_steam 146 = .ok (.iload 5, 2) := by decide +kernel
theorem dX9_steam_148 : decode cX9_steam 148 = .ok (.aload_n 0, 1) := by decide +kernel
theorem dX9_steam_149 : decode cX9_steam 149 = .ok (.invokevirtual 82, 3) := by decide +kernel
theorem dX9_steam_152 : decode cX9_steam 152 = .ok (.invokestatic 79, 3) := by decide +kernel
theorem dX9_steam_155 : decode cX9_steam 155 = .ok (.iload_n 1, 1) := by decide +kernel
theorem dX9_steam_156 : decode cX9_steam 156 = .ok (.if_icmp .lt 8, 3) := by decide +kernel
theorem dX9_steam_159 : decode cX9_steam 159 = .ok (.iload 8, 2) := by decide +kernel
theorem dX9_steam_161 : decode cX9_steam 161 = .ok (.goto 4, 3) := by decide +kernel
theorem dX9_steam_164 : decode cX9_steam 164 = .ok (.iconst 0, 1) := by decide +kernel
theorem dX9_steam_165 : decode cX9_steam 165 = .ok (.iadd, 1) := by decide +kernel
theorem dX9_steam_166 : decode cX9_steam 166 = .ok (.istore 5, 2) := by decide +kernel
theorem dX9_steam_168 : decode cX9_steam 168 = .ok (.aload_n 0, 1) := by decide +kernel
theorem dX9_steam_169 : decode cX9_steam 169 = .ok (.invokevirtual 185, 3) := by decide +kernel
theorem dX9_steam_172 : decode cX9_steam 172 = .ok (.iinc 7 1, 3) := by decide +kernel
theorem dX9_steam_175 : decode cX9_steam 175 = .ok (.goto (-120), 3) := by decide +kernel
theorem dX9_steam_178 : decode cX9_steam 178 = .ok (.iload 5, 2) := by decide +kernel
theorem dX9_steam_180 : decode cX9_steam 180 = .ok (.istore 7, 2) := by decide +kernel
theorem dX9_steam_182 : decode cX9_steam 182 = .ok (.iload 6, 2) := by decide +kernel
theorem dX9_steam_184 : decode cX9_steam 184 = .ok (.istore 8, 2) := by decide +kernel
theorem dX9_steam_186 : decode cX9_steam 186 = .ok (.iload 8, 2) := by decide +kernel
theorem dX9_steam_188 : decode cX9_steam 188 = .ok (.ifCond .eq 21, 3) := by decide +kernel
theorem dX9_steam_191 : decode cX9_steam 191 = .ok (.iload 7, 2) := by decide +kernel
theorem dX9_steam_193 : decode cX9_steam 193 = .ok (.iload 8, 2) := by decide +kernel
theorem dX9_steam_195 : decode cX9_steam 195 = .ok (.irem, 1) := by decide +kernel
theorem dX9_steam_196 : decode cX9_steam 196 = .ok (.istore 9, 2) := by decide +kernel
theorem dX9_steam_198 : decode cX9_steam 198 = .ok (.iload 8, 2) := by decide +kernel
theorem dX9_steam_200 : decode cX9_steam 200 = .ok (.istore 7, 2) := by decide +kernel
theorem dX9_steam_202 : decode cX9_steam 202 = .ok (.iload 9, 2) := by decide +kernel
theorem dX9_steam_204 : decode cX9_steam 204 = .ok (.istore 8, 2) := by decide +kernel
theorem dX9_steam_206 : decode cX9_steam 206 = .ok (.goto (-20), 3) := by decide +kernel
theorem dX9_steam_209 : decode cX9_steam 209 = .ok (.iload_n 3, 1) := by decide +kernel
theorem dX9_steam_210 : decode cX9_steam 210 = .ok (.ifCond .ne 11, 3) := by decide +kernel
theorem dX9_steam_213 : decode cX9_steam 213 = .ok (.iload 5, 2) := by decide +kernel
theorem dX9_steam_215 : decode cX9_steam 215 = .ok (.iload 7, 2) := by decide +kernel
theorem dX9_steam_217 : decode cX9_steam 217 = .ok (.idiv, 1) := by decide +kernel
theorem dX9_steam_218 : decode cX9_steam 218 = .ok (.goto 8, 3) := by decide +kernel
theorem dX9_steam_221 : decode cX9_steam 221 = .ok (.iload 6, 2) := by decide +kernel
theorem dX9_steam_223 : decode cX9_steam 223 = .ok (.iload 7, 2) := by decide +kernel
theorem dX9_steam_225 : decode cX9_steam 225 = .ok (.idiv, 1) := by decide +kernel
theorem dX9_steam_226 : decode cX9_steam 226 = .ok (.ireturn, 1) := by decide +kernel
theorem dX9_image_0 : decode cX9_image 0 = .ok (.iconst 0, 1) := by decide +kernel
theorem dX9_image_1 : decode cX9_image 1 = .ok (.istore_n 1, 1) := by decide +kernel
theorem dX9_image_2 : decode cX9_image 2 = .ok (.iload_n 1, 1) := by decide +kernel
theorem dX9_image_3 : decode cX9_image 3 = .ok (.bipush 24, 2) := by decide +kernel
theorem dX9_image_5 : decode cX9_image 5 = .ok (.if_icmp .ge 21, 3) := by decide +kernel
theorem dX9_image_8 : decode cX9_image 8 = .ok (.aload_n 0, 1) := by decide +kernel
theorem dX9_image_9 : decode cX9_image 9 = .ok (.getfield 34, 3) := by decide +kernel
theorem dX9_image_12 : decode cX9_image 12 = .ok (.iload_n 1, 1) := by decide +kernel
theorem dX9_image_13 : decode cX9_image 13 = .ok (.aload_n 0, 1) := by decide +kernel
theorem dX9_image_14 : decode cX9_image 14 = .ok (.getfield 7, 3) := by decide +kernel
theorem dX9_image_17 : decode cX9_image 17 = .ok (.iload_n 1, 1) := by decide +kernel
theorem dX9_image_18 : decode cX9_image 18 = .ok (.iaload, 1) := by decide +kernel
theorem dX9_image_19 : decode cX9_image 19 = .ok (.iastore, 1) := by decide +kernel
theorem dX9_image_20 : decode cX9_image 20 = .ok (.iinc 1 1, 3) := by decide +kernel
theorem dX9_image_23 : decode cX9_image 23 = .ok (.goto (-21), 3) := by decide +kernel
theorem dX9_image_26 : decode cX9_image 26 = .ok (.iconst 0, 1) := by decide +kernel
theorem dX9_image_27 : decode cX9_image 27 = .ok (.istore_n 1, 1) := by decide +kernel
theorem dX9_image_28 : decode cX9_image 28 = .ok (.iload_n 1, 1) := by decide +kernel
theorem dX9_image_29 : decode cX9_image 29 = .ok (.bipush 112, 2) := by decide +kernel
theorem dX9_image_31 : decode cX9_image 31 = .ok (.if_icmp .ge 24, 3) := by decide +kernel
theorem dX9_image_34 : decode cX9_image 34 = .ok (.aload_n 0, 1) := by decide +kernel
theorem dX9_image_35 : decode cX9_image 35 = .ok (.getfield 34, 3) := by decide +kernel
theorem dX9_image_38 : decode cX9_image 38 = .ok (.bipush 24, 2) := by decide +kernel
theorem dX9_image_40 : decode cX9_image 40 = .ok (.iload_n 1, 1) := by decide +kernel
theorem dX9_image_41 : decode cX9_image 41 = .ok (.iadd, 1) := by decide +kernel
theorem dX9_image_42 : decode cX9_image 42 = .ok (.aload_n 0, 1) := by decide +kernel
theorem dX9_image_43 : decode cX9_image 43 = .ok (.getfield 22, 3) := by decide +kernel
theorem dX9_image_46 : decode cX9_image 46 = .ok (.iload_n 1, 1) := by decide +kernel
theorem dX9_image_47 : decode cX9_image 47 = .ok (.iaload, 1) := by decide +kernel
theorem dX9_image_48 : decode cX9_image 48 = .ok (.iastore, 1) := by decide +kernel
theorem dX9_image_49 : decode cX9_image 49 = .ok (.iinc 1 1, 3) := by decide +kernel
theorem dX9_image_52 : decode cX9_image 52 = .ok (.goto (-24), 3) := by decide +kernel
theorem dX9_image_55 : decode cX9_image 55 = .ok (.aload_n 0, 1) := by decide +kernel
theorem dX9_image_56 : decode cX9_image 56 = .ok (.aload_n 0, 1) := by decide +kernel
theorem dX9_image_57 : decode cX9_image 57 = .ok (.getfield 103, 3) := by decide +kernel
theorem dX9_image_60 : decode cX9_image 60 = .ok (.putfield 212, 3) := by decide +kernel
theorem dX9_image_63 : decode cX9_image 63 = .ok (.aload_n 0, 1) := by decide +kernel
theorem dX9_image_64 : decode cX9_image 64 = .ok (.iconst 1, 1) := by decide +kernel
theorem dX9_image_65 : decode cX9_image 65 = .ok (.putfield 215, 3) := by decide +kernel
theorem dX9_image_68 : decode cX9_image 68 = .ok (.iconst 1, 1) := by decide +kernel
theorem dX9_image_69 : decode cX9_image 69 = .ok (.ireturn, 1) := by decide +kernel
theorem dX9_restore_0 : decode cX9_restore 0 = .ok (.aload_n 0, 1) := by decide +kernel
theorem dX9_restore_1 : decode cX9_restore 1 = .ok (.getfield 215, 3) := by decide +kernel
theorem dX9_restore_4 : decode cX9_restore 4 = .ok (.ifCond .ne 6, 3) := by decide +kernel
theorem dX9_restore_7 : decode cX9_restore 7 = .ok (.bipush (-4), 2) := by decide +kernel
theorem dX9_restore_9 : decode cX9_restore 9 = .ok (.ireturn, 1) := by decide +kernel
theorem dX9_restore_10 : decode cX9_restore 10 = .ok (.iconst 0, 1) := by decide +kernel
theorem dX9_restore_11 : decode cX9_restore 11 = .ok (.istore_n 1, 1) := by decide +kernel
theorem dX9_restore_12 : decode cX9_restore 12 = .ok (.iload_n 1, 1) := by decide +kernel
theorem dX9_restore_13 : decode cX9_restore 13 = .ok (.bipush 24, 2) := by decide +kernel
theorem dX9_restore_15 : decode cX9_restore 15 = .ok (.if_icmp .ge 21, 3) := by decide +kernel
theorem dX9_restore_18 : decode cX9_restore 18 = .ok (.aload_n 0, 1) := by decide +kernel
theorem dX9_restore_19 : decode cX9_restore 19 = .ok (.getfield 7, 3) := by decide +kernel
theorem dX9_restore_22 : decode cX9_restore 22 = .ok (.iload_n 1, 1) := by decide +kernel
theorem dX9_restore_23 : decode cX9_restore 23 = .ok (.aload_n 0, 1) := by decide +kernel
theorem dX9_restore_24 : decode cX9_restore 24 = .ok (.getfield 34, 3) := by decide +kernel
theorem dX9_restore_27 : decode cX9_restore 27 = .ok (.iload_n 1, 1) := by decide +kernel
theorem dX9_restore_28 : decode cX9_restore 28 = .ok (.iaload, 1) := by decide +kernel
theorem dX9_restore_29 : decode cX9_restore 29 = .ok (.iastore, 1) := by decide +kernel
theorem dX9_restore_30 : decode cX9_restore 30 = .ok (.iinc 1 1, 3) := by decide +kernel
theorem dX9_restore_33 : decode cX9_restore 33 = .ok (.goto (-21), 3) := by decide +kernel
theorem dX9_restore_36 : decode cX9_restore 36 = .ok (.iconst 0, 1) := by decide +kernel
theorem dX9_restore_37 : decode cX9_restore 37 = .ok (.istore_n 1, 1) := by decide +kernel
theorem dX9_restore_38 : decode cX9_restore 38 = .ok (.iload_n 1, 1) := by decide +kernel
theorem dX9_restore_39 : decode cX9_restore 39 = .ok (.bipush 112, 2) := by decide +kernel
theorem dX9_restore_41 : decode cX9_restore 41 = .ok (.if_icmp .ge 24, 3) := by decide +kernel
theorem dX9_restore_44 : decode cX9_restore 44 = .ok (.aload_n 0, 1) := by decide +kernel
theorem dX9_restore_45 : decode cX9_restore 45 = .ok (.getfield 22, 3) := by decide +kernel
theorem dX9_restore_48 : decode cX9_restore 48 = .ok (.iload_n 1, 1) := by decide +kernel
theorem dX9_restore_49 : decode cX9_restore 49 = .ok (.aload_n 0, 1) := by decide +kernel
theorem dX9_restore_50 : decode cX9_restore 50 = .ok (.getfield 34, 3) := by decide +kernel
theorem dX9_restore_53 : decode cX9_restore 53 = .ok (.bipush 24, 2) := by decide +kernel
theorem dX9_restore_55 : decode cX9_restore 55 = .ok (.iload_n 1, 1) := by decide +kernel
theorem dX9_restore_56 : decode cX9_restore 56 = .ok (.iadd, 1) := by decide +kernel
theorem dX9_restore_57 : decode cX9_restore 57 = .ok (.iaload, 1) := by decide +kernel
theorem dX9_restore_58 : decode cX9_restore 58 = .ok (.iastore, 1) := by decide +kernel
theorem dX9_restore_59 : decode cX9_restore 59 = .ok (.iinc 1 1, 3) := by decide +kernel
theorem dX9_restore_62 : decode cX9_restore 62 = .ok (.goto (-24), 3) := by decide +kernel
theorem dX9_restore_65 : decode cX9_restore 65 = .ok (.aload_n 0, 1) := by decide +kernel
theorem dX9_restore_66 : decode cX9_restore 66 = .ok (.aload_n 0, 1) := by decide +kernel
theorem dX9_restore_67 : decode cX9_restore 67 = .ok (.getfield 212, 3) := by decide +kernel
theorem dX9_restore_70 : decode cX9_restore 70 = .ok (.putfield 103, 3) := by decide +kernel
theorem dX9_restore_73 : decode cX9_restore 73 = .ok (.iconst 1, 1) := by decide +kernel
theorem dX9_restore_74 : decode cX9_restore 74 = .ok (.ireturn, 1) := by decide +kernel
theorem dX9_isSheet_0 : decode cX9_isSheet 0 = .ok (.iload_n 0, 1) := by decide +kernel
theorem dX9_isSheet_1 : decode cX9_isSheet 1 = .ok (.i2l, 1) := by decide +kernel
theorem dX9_isSheet_2 : decode cX9_isSheet 2 = .ok (.lconst 0, 1) := by decide +kernel
theorem dX9_isSheet_3 : decode cX9_isSheet 3 = .ok (.ldc2_w 218, 3) := by decide +kernel
theorem dX9_isSheet_6 : decode cX9_isSheet 6 = .ok (.invokestatic 50, 3) := by decide +kernel
theorem dX9_isSheet_9 : decode cX9_isSheet 9 = .ok (.ireturn, 1) := by decide +kernel
theorem dX9_isLane_0 : decode cX9_isLane 0 = .ok (.iload_n 0, 1) := by decide +kernel
theorem dX9_isLane_1 : decode cX9_isLane 1 = .ok (.i2l, 1) := by decide +kernel
theorem dX9_isLane_2 : decode cX9_isLane 2 = .ok (.lconst 0, 1) := by decide +kernel
theorem dX9_isLane_3 : decode cX9_isLane 3 = .ok (.ldc2_w 218, 3) := by decide +kernel
theorem dX9_isLane_6 : decode cX9_isLane 6 = .ok (.invokestatic 50, 3) := by decide +kernel
theorem dX9_isLane_9 : decode cX9_isLane 9 = .ok (.ireturn, 1) := by decide +kernel
theorem dX9_why_0 : decode cX9_why 0 = .ok (.aload_n 0, 1) := by decide +kernel
theorem dX9_why_1 : decode cX9_why 1 = .ok (.getfield 37, 3) := by decide +kernel
theorem dX9_why_4 : decode cX9_why 4 = .ok (.iload_n 1, 1) := by decide +kernel
theorem dX9_why_5 : decode cX9_why 5 = .ok (.iaload, 1) := by decide +kernel
theorem dX9_why_6 : decode cX9_why 6 = .ok (.ifCond .ge 6, 3) := by decide +kernel
theorem dX9_why_9 : decode cX9_why 9 = .ok (.bipush (-11), 2) := by decide +kernel
theorem dX9_why_11 : decode cX9_why 11 = .ok (.ireturn, 1) := by decide +kernel
theorem dX9_why_12 : decode cX9_why 12 = .ok (.aload_n 0, 1) := by decide +kernel
theorem dX9_why_13 : decode cX9_why 13 = .ok (.getfield 37, 3) := by decide +kernel
theorem dX9_why_16 : decode cX9_why 16 = .ok (.iload_n 1, 1) := by decide +kernel
theorem dX9_why_17 : decode cX9_why 17 = .ok (.iaload, 1) := by decide +kernel
theorem dX9_why_18 : decode cX9_why 18 = .ok (.iload_n 2, 1) := by decide +kernel
theorem dX9_why_19 : decode cX9_why 19 = .ok (.if_icmp .eq 6, 3) := by decide +kernel
theorem dX9_why_22 : decode cX9_why 22 = .ok (.bipush (-12), 2) := by decide +kernel
theorem dX9_why_24 : decode cX9_why 24 = .ok (.ireturn, 1) := by decide +kernel
theorem dX9_why_25 : decode cX9_why 25 = .ok (.iload_n 3, 1) := by decide +kernel
theorem dX9_why_26 : decode cX9_why 26 = .ok (.ifCond .lt 25, 3) := by decide +kernel
theorem dX9_why_29 : decode cX9_why 29 = .ok (.iload 4, 2) := by decide +kernel
theorem dX9_why_31 : decode cX9_why 31 = .ok (.ifCond .lt 20, 3) := by decide +kernel
theorem dX9_why_34 : decode cX9_why 34 = .ok (.iload_n 3, 1) := by decide +kernel
theorem dX9_why_35 : decode cX9_why 35 = .ok (.i2l, 1) := by decide +kernel
theorem dX9_why_36 : decode cX9_why 36 = .ok (.iload 4, 2) := by decide +kernel
theorem dX9_why_38 : decode cX9_why 38 = .ok (.i2l, 1) := by decide +kernel
theorem dX9_why_39 : decode cX9_why 39 = .ok (.ladd, 1) := by decide +kernel
theorem dX9_why_40 : decode cX9_why 40 = .ok (.aload_n 0, 1) := by decide +kernel
theorem dX9_why_41 : decode cX9_why 41 = .ok (.getfield 40, 3) := by decide +kernel
theorem dX9_why_44 : decode cX9_why 44 = .ok (.iload_n 1, 1) := by decide +kernel
theorem dX9_why_45 : decode cX9_why 45 = .ok (.iaload, 1) := by decide +kernel
theorem dX9_why_46 : decode cX9_why 46 = .ok (.i2l, 1) := by decide +kernel
theorem dX9_why_47 : decode cX9_why 47 = .ok (.lcmp, 1) := by decide +kernel
theorem dX9_why_48 : decode cX9_why 48 = .ok (.ifCond .le 8, 3) := by decide +kernel
theorem dX9_why_51 : decode cX9_why 51 = .ok (.bipush (-13), 2) := by decide +kernel
theorem dX9_why_53 : decode cX9_why 53 = .ok (.goto 4, 3) := by decide +kernel
theorem dX9_why_56 : decode cX9_why 56 = .ok (.iconst 0, 1) := by decide +kernel
theorem dX9_why_57 : decode cX9_why 57 = .ok (.ireturn, 1) := by decide +kernel
theorem dX9_isSo_0 : decode cX9_isSo 0 = .ok (.iconst 1, 1) := by decide +kernel
theorem dX9_isSo_1 : decode cX9_isSo 1 = .ok (.istore 4, 2) := by decide +kernel
theorem dX9_isSo_3 : decode cX9_isSo 3 = .ok (.iconst 0, 1) := by decide +kernel
theorem dX9_isSo_4 : decode cX9_isSo 4 = .ok (.istore 5, 2) := by decide +kernel
theorem dX9_isSo_6 : decode cX9_isSo 6 = .ok (.iload 5, 2) := by decide +kernel
theorem dX9_isSo_8 : decode cX9_isSo 8 = .ok (.iload_n 3, 1) := by decide +kernel
theorem dX9_isSo_9 : decode cX9_isSo 9 = .ok (.if_icmp .ge 45, 3) := by decide +kernel
theorem dX9_isSo_12 : decode cX9_isSo 12 = .ok (.aload_n 0, 1) := by decide +kernel
theorem dX9_isSo_13 : decode cX9_isSo 13 = .ok (.iconst 0, 1) := by decide +kernel
theorem dX9_isSo_14 : decode cX9_isSo 14 = .ok (.invokevirtual 99, 3) := by decide +kernel
theorem dX9_isSo_17 : decode cX9_isSo 17 = .ok (.iload 4, 2) := by decide +kernel
theorem dX9_isSo_19 : decode cX9_isSo 19 = .ok (.ifCond .eq 26, 3) := by decide +kernel
theorem dX9_isSo_22 : decode cX9_isSo 22 = .ok (.aload_n 0, 1) := by decide +kernel
theorem dX9_isSo_23 : decode cX9_isSo 23 = .ok (.iload_n 1, 1) := by decide +kernel
theorem dX9_isSo_24 : decode cX9_isSo 24 = .ok (.invokevirtual 73, 3) := by decide +kernel
theorem dX9_isSo_27 : decode cX9_isSo 27 = .ok (.i2l, 1) := by decide +kernel
theorem dX9_isSo_28 : decode cX9_isSo 28 = .ok (.aload_n 0, 1) := by decide +kernel
theorem dX9_isSo_29 : decode cX9_isSo 29 = .ok (.getfield 43, 3) := by decide +kernel
theorem dX9_isSo_32 : decode cX9_isSo 32 = .ok (.iload_n 2, 1) := by decide +kernel
theorem dX9_isSo_33 : decode cX9_isSo 33 = .ok (.iload 5, 2) := by decide +kernel
theorem dX9_isSo_35 : decode cX9_isSo 35 = .ok (.iadd, 1) := by decide +kernel
theorem dX9_isSo_36 : decode cX9_isSo 36 = .ok (.laload, 1) := by decide +kernel
theorem dX9_isSo_37 : decode cX9_isSo 37 = .ok (.lcmp, 1) := by decide +kernel
theorem dX9_isSo_38 : decode cX9_isSo 38 = .ok (.ifCond .ne 7, 3) := by decide +kernel
theorem dX9_isSo_41 : decode cX9_isSo 41 = .ok (.iconst 1, 1) := by decide +kernel
theorem dX9_isSo_42 : decode cX9_isSo 42 = .ok (.goto 4, 3) := by decide +kernel
theorem dX9_isSo_45 : decode cX9_isSo 45 = .ok (.iconst 0, 1) := by decide +kernel
theorem dX9_isSo_46 : decode cX9_isSo 46 = .ok (.istore 4, 2) := by decide +kernel
theorem dX9_isSo_48 : decode cX9_isSo 48 = .ok (.iinc 5 1, 3) := by decide +kernel
theorem dX9_isSo_51 : decode cX9_isSo 51 = .ok (.goto (-45), 3) := by decide +kernel
theorem dX9_isSo_54 : decode cX9_isSo 54 = .ok (.aload_n 0, 1) := by decide +kernel
theorem dX9_isSo_55 : decode cX9_isSo 55 = .ok (.invokevirtual 185, 3) := by decide +kernel
theorem dX9_isSo_58 : decode cX9_isSo 58 = .ok (.iload 4, 2) := by decide +kernel
theorem dX9_isSo_60 : decode cX9_isSo 60 = .ok (.ireturn, 1) := by decide +kernel
theorem dX9_worn_0 : decode cX9_worn 0 = .ok (.aload_n 0, 1) := by decide +kernel
theorem dX9_worn_1 : decode cX9_worn 1 = .ok (.iload_n 1, 1) := by decide +kernel
theorem dX9_worn_2 : decode cX9_worn 2 = .ok (.invokevirtual 123, 3) := by decide +kernel
theorem dX9_worn_5 : decode cX9_worn 5 = .ok (.ifCond .eq 43, 3) := by decide +kernel
theorem dX9_worn_8 : decode cX9_worn 8 = .ok (.iload_n 2, 1) := by decide +kernel
theorem dX9_worn_9 : decode cX9_worn 9 = .ok (.invokestatic 220, 3) := by decide +kernel
theorem dX9_worn_12 : decode cX9_worn 12 = .ok (.ifCond .eq 36, 3) := by decide +kernel
theorem dX9_worn_15 : decode cX9_worn 15 = .ok (.iload_n 3, 1) := by decide +kernel
theorem dX9_worn_16 : decode cX9_worn 16 = .ok (.invokestatic 223, 3) := by decide +kernel
theorem dX9_worn_19 : decode cX9_worn 19 = .ok (.ifCond .eq 29, 3) := by decide +kernel
theorem dX9_worn_22 : decode cX9_worn 22 = .ok (.iload 5, 2) := by decide +kernel
theorem dX9_worn_24 : decode cX9_worn 24 = .ok (.i2l, 1) := by decide +kernel
theorem dX9_worn_25 : decode cX9_worn 25 = .ok (.lconst 1, 1) := by decide +kernel
theorem dX9_worn_26 : decode cX9_worn 26 = .ok (.ldc2_w 198, 3) := by decide +kernel
theorem dX9_worn_29 : decode cX9_worn 29 = .ok (.invokestatic 50, 3) := by decide +kernel
theorem dX9_worn_32 : decode cX9_worn 32 = .ok (.ifCond .eq 16, 3) := by decide +kernel
theorem dX9_worn_35 : decode cX9_worn 35 = .ok (.iload 6, 2) := by decide +kernel
theorem dX9_worn_37 : decode cX9_worn 37 = .ok (.i2l, 1) := by decide +kernel
theorem dX9_worn_38 : decode cX9_worn 38 = .ok (.lconst 0, 1) := by decide +kernel
theorem dX9_worn_39 : decode cX9_worn 39 = .ok (.ldc2_w 121, 3) := by decide +kernel
theorem dX9_worn_42 : decode cX9_worn 42 = .ok (.invokestatic 50, 3) := by decide +kernel
theorem dX9_worn_45 : decode cX9_worn 45 = .ok (.ifCond .ne 5, 3) := by decide +kernel
theorem dX9_worn_48 : decode cX9_worn 48 = .ok (.iconst (-1), 1) := by decide +kernel
theorem dX9_worn_49 : decode cX9_worn 49 = .ok (.ireturn, 1) := by decide +kernel
theorem dX9_worn_50 : decode cX9_worn 50 = .ok (.aload_n 0, 1) := by decide +kernel
theorem dX9_worn_51 : decode cX9_worn 51 = .ok (.iload_n 2, 1) := by decide +kernel
theorem dX9_worn_52 : decode cX9_worn 52 = .ok (.iload_n 3, 1) := by decide +kernel
theorem dX9_worn_53 : decode cX9_worn 53 = .ok (.iload 4, 2) := by decide +kernel
theorem dX9_worn_55 : decode cX9_worn 55 = .ok (.iload 5, 2) := by decide +kernel
theorem dX9_worn_57 : decode cX9_worn 57 = .ok (.invokevirtual 226, 3) := by decide +kernel
theorem dX9_worn_60 : decode cX9_worn 60 = .ok (.istore 7, 2) := by decide +kernel
theorem dX9_worn_62 : decode cX9_worn 62 = .ok (.iload 7, 2) := by decide +kernel
theorem dX9_worn_64 : decode cX9_worn 64 = .ok (.ifCond .ge 6, 3) := by decide +kernel
theorem dX9_worn_67 : decode cX9_worn 67 = .ok (.iload 7, 2) := by decide +kernel
theorem dX9_worn_69 : decode cX9_worn 69 = .ok (.ireturn, 1) := by decide +kernel
theorem dX9_worn_70 : decode cX9_worn 70 = .ok (.iconst 0, 1) := by decide +kernel
theorem dX9_worn_71 : decode cX9_worn 71 = .ok (.istore 8, 2) := by decide +kernel
theorem dX9_worn_73 : decode cX9_worn 73 = .ok (.iload 6, 2) := by decide +kernel
theorem dX9_worn_75 : decode cX9_worn 75 = .ok (.iconst 2, 1) := by decide +kernel
theorem dX9_worn_76 : decode cX9_worn 76 = .ok (.if_icmp .ne 7, 3) := by decide +kernel
theorem dX9_worn_79 : decode cX9_worn 79 = .ok (.iconst 4, 1) := by decide +kernel
theorem dX9_worn_80 : decode cX9_worn 80 = .ok (.goto 12, 3) := by decide +kernel
theorem dX9_worn_83 : decode cX9_worn 83 = .ok (.bipush 6, 2) := by decide +kernel
theorem dX9_worn_85 : decode cX9_worn 85 = .ok (.iconst 3, 1) := by decide +kernel
theorem dX9_worn_86 : decode cX9_worn 86 = .ok (.iload_n 1, 1) := by decide +kernel
theorem dX9_worn_87 : decode cX9_worn 87 = .ok (.imul, 1) := by decide +kernel
theorem dX9_worn_88 : decode cX9_worn 88 = .ok (.iadd, 1) := by decide +kernel
theorem dX9_worn_89 : decode cX9_worn 89 = .ok (.iload 6, 2) := by decide +kernel
theorem dX9_worn_91 : decode cX9_worn 91 = .ok (.iadd, 1) := by decide +kernel
theorem dX9_worn_92 : decode cX9_worn 92 = .ok (.istore 9, 2) := by decide +kernel
theorem dX9_worn_94 : decode cX9_worn 94 = .ok (.aload_n 0, 1) := by decide +kernel
theorem dX9_worn_95 : decode cX9_worn 95 = .ok (.invokevirtual 179, 3) := by decide +kernel
theorem dX9_worn_98 : decode cX9_worn 98 = .ok (.iconst 0, 1) := by decide +kernel
theorem dX9_worn_99 : decode cX9_worn 99 = .ok (.istore 10, 2) := by decide +kernel
theorem dX9_worn_101 : decode cX9_worn 101 = .ok (.iload 10, 2) := by decide +kernel
theorem dX9_worn_103 : decode cX9_worn 103 = .ok (.iload 6, 2) := by decide +kernel
theorem dX9_worn_105 : decode cX9_worn 105 = .ok (.ifCond .ne 7, 3) := by decide +kernel
theorem dX9_worn_108 : decode cX9_worn 108 = .ok (.iconst 5, 1) := by decide +kernel
theorem dX9_worn_109 : decode cX9_worn 109 = .ok (.goto 16, 3) := by decide +kernel
theorem dX9_worn_112 : decode cX9_worn 112 = .ok (.iload 6, 2) := by decide +kernel
theorem dX9_worn_114 : decode cX9_worn 114 = .ok (.iconst 1, 1) := by decide +kernel
theorem dX9_worn_115 : decode cX9_worn 115 = .ok (.if_icmp .ne 8, 3) := by decide +kernel
theorem dX9_worn_118 : decode cX9_worn 118 = .ok (.bipush 10, 2) := by decide +kernel
theorem dX9_worn_120 : decode cX9_worn 120 = .ok (.goto 5, 3) := by decide +kernel
theorem dX9_worn_123 : decode cX9_worn 123 = .ok (.bipush 13, 2) := by decide +kernel
theorem dX9_worn_125 : decode cX9_worn 125 = .ok (.if_icmp .ge 48, 3) := by decide +kernel
theorem dX9_worn_128 : decode cX9_worn 128 = .ok (.aload_n 0, 1) := by decide +kernel
theorem dX9_worn_129 : decode cX9_worn 129 = .ok (.getfield 7, 3) := by decide +kernel
theorem dX9_worn_132 : decode cX9_worn 132 = .ok (.iload 9, 2) := by decide +kernel
theorem dX9_worn_134 : decode cX9_worn 134 = .ok (.iload 10, 2) := by decide +kernel
theorem dX9_worn_136 : decode cX9_worn 136 = .ok (.iastore, 1) := by decide +kernel
theorem dX9_worn_137 : decode cX9_worn 137 = .ok (.iload 8, 2) := by decide +kernel
theorem dX9_worn_139 : decode cX9_worn 139 = .ok (.aload_n 0, 1) := by decide +kernel
theorem dX9_worn_140 : decode cX9_worn 140 = .ok (.iload_n 1, 1) := by decide +kernel
theorem dX9_worn_141 : decode cX9_worn 141 = .ok (.bipush 24, 2) := by decide +kernel
theorem dX9_worn_143 : decode cX9_worn 143 = .ok (.iload_n 2, 1) := by decide +kernel
theorem dX9_worn_144 : decode cX9_worn 144 = .ok (.imul, 1) := by decide +kernel
theorem dX9_worn_145 : decode cX9_worn 145 = .ok (.iload 4, 2) := by decide +kernel
theorem dX9_worn_147 : decode cX9_worn 147 = .ok (.iadd, 1) := by decide +kernel
theorem dX9_worn_148 : decode cX9_worn 148 = .ok (.iload 5, 2) := by decide +kernel
theorem dX9_worn_150 : decode cX9_worn 150 = .ok (.invokevirtual 230, 3) := by decide +kernel
theorem dX9_worn_153 : decode cX9_worn 153 = .ok (.ifCond .eq 10, 3) := by decide +kernel
theorem dX9_worn_156 : decode cX9_worn 156 = .ok (.iconst 1, 1) := by decide +kernel
theorem dX9_worn_157 : decode cX9_worn 157 = .ok (.iload 10, 2) := by decide +kernel
theorem dX9_worn_159 : decode cX9_worn 159 = .ok (.ishl, 1) := by decide +kernel
theorem dX9_worn_160 : decode cX9_worn 160 = .ok (.goto 4, 3) := by decide +kernel
theorem dX9_worn_163 : decode cX9_worn 163 = .ok (.iconst 0, 1) := by decide +kernel
theorem dX9_worn_164 : decode cX9_worn 164 = .ok (.ior, 1) := by decide +kernel
theorem dX9_worn_165 : decode cX9_worn 165 = .ok (.istore 8, 2) := by decide +kernel
theorem dX9_worn_167 : decode cX9_worn 167 = .ok (.iinc 10 1, 3) := by decide +kernel
theorem dX9_worn_170 : decode cX9_worn 170 = .ok (.goto (-69), 3) := by decide +kernel
theorem dX9_worn_173 : decode cX9_worn 173 = .ok (.iload 8, 2) := by decide +kernel
theorem dX9_worn_175 : decode cX9_worn 175 = .ok (.ireturn, 1) := by decide +kernel
theorem dX9_film_0 : decode cX9_film 0 = .ok (.aload_n 0, 1) := by decide +kernel
theorem dX9_film_1 : decode cX9_film 1 = .ok (.iload_n 1, 1) := by decide +kernel
theorem dX9_film_2 : decode cX9_film 2 = .ok (.invokevirtual 123, 3) := by decide +kernel
theorem dX9_film_5 : decode cX9_film 5 = .ok (.ifCond .eq 30, 3) := by decide +kernel
theorem dX9_film_8 : decode cX9_film 8 = .ok (.iload_n 2, 1) := by decide +kernel
theorem dX9_film_9 : decode cX9_film 9 = .ok (.i2l, 1) := by decide +kernel
theorem dX9_film_10 : decode cX9_film 10 = .ok (.lconst 1, 1) := by decide +kernel
theorem dX9_film_11 : decode cX9_film 11 = .ok (.ldc2_w 234, 3) := by decide +kernel
theorem dX9_film_14 : decode cX9_film 14 = .ok (.invokestatic 50, 3) := by decide +kernel
theorem dX9_film_17 : decode cX9_film 17 = .ok (.ifCond .eq 18, 3) := by decide +kernel
theorem dX9_film_20 : decode cX9_film 20 = .ok (.iload_n 3, 1) := by decide +kernel
theorem dX9_film_21 : decode cX9_film 21 = .ok (.invokestatic 220, 3) := by decide +kernel
theorem dX9_film_24 : decode cX9_film 24 = .ok (.ifCond .eq 11, 3) := by decide +kernel
theorem dX9_film_27 : decode cX9_film 27 = .ok (.iload 4, 2) := by decide +kernel
theorem dX9_film_29 : decode cX9_film 29 = .ok (.invokestatic 223, 3) := by decide +kernel
theorem dX9_film_32 : decode cX9_film 32 = .ok (.ifCond .ne 5, 3) := by decide +kernel
theorem dX9_film_35 : decode cX9_film 35 = .ok (.iconst (-1), 1) := by decide +kernel
theorem dX9_film_36 : decode cX9_film 36 = .ok (.ireturn, 1) := by decide +kernel
theorem dX9_film_37 : decode cX9_film 37 = .ok (.aload_n 0, 1) := by decide +kernel
theorem dX9_film_38 : decode cX9_film 38 = .ok (.iload_n 3, 1) := by decide +kernel
theorem dX9_film_39 : decode cX9_film 39 = .ok (.iload 4, 2) := by decide +kernel
theorem dX9_film_41 : decode cX9_film 41 = .ok (.iload 5, 2) := by decide +kernel
theorem dX9_film_43 : decode cX9_film 43 = .ok (.iload_n 2, 1) := by decide +kernel
theorem dX9_film_44 : decode cX9_film 44 = .ok (.invokevirtual 226, 3) := by decide +kernel
theorem dX9_film_47 : decode cX9_film 47 = .ok (.istore 6, 2) := by decide +kernel
theorem dX9_film_49 : decode cX9_film 49 = .ok (.iload 6, 2) := by decide +kernel
theorem dX9_film_51 : decode cX9_film 51 = .ok (.ifCond .ge 6, 3) := by decide +kernel
theorem dX9_film_54 : decode cX9_film 54 = .ok (.iload 6, 2) := by decide +kernel
theorem dX9_film_56 : decode cX9_film 56 = .ok (.ireturn, 1) := by decide +kernel
theorem dX9_film_57 : decode cX9_film 57 = .ok (.aload_n 0, 1) := by decide +kernel
theorem dX9_film_58 : decode cX9_film 58 = .ok (.invokevirtual 179, 3) := by decide +kernel
theorem dX9_film_61 : decode cX9_film 61 = .ok (.iconst 0, 1) := by decide +kernel
theorem dX9_film_62 : decode cX9_film 62 = .ok (.istore 7, 2) := by decide +kernel
theorem dX9_film_64 : decode cX9_film 64 = .ok (.iload 7, 2) := by decide +kernel
theorem dX9_film_66 : decode cX9_film 66 = .ok (.iload_n 2, 1) := by decide +kernel
theorem dX9_film_67 : decode cX9_film 67 = .ok (.if_icmp .ge 35, 3) := by decide +kernel
theorem dX9_film_70 : decode cX9_film 70 = .ok (.aload_n 0, 1) := by decide +kernel
theorem dX9_film_71 : decode cX9_film 71 = .ok (.iconst 0, 1) := by decide +kernel
theorem dX9_film_72 : decode cX9_film 72 = .ok (.invokevirtual 99, 3) := by decide +kernel
theorem dX9_film_75 : decode cX9_film 75 = .ok (.aload_n 0, 1) := by decide +kernel
theorem dX9_film_76 : decode cX9_film 76 = .ok (.getfield 43, 3) := by decide +kernel
theorem dX9_film_79 : decode cX9_film 79 = .ok (.bipush 24, 2) := by decide +kernel
theorem dX9_film_81 : decode cX9_film 81 = .ok (.iload_n 3, 1) := by decide +kernel
theorem dX9_film_82 : decode cX9_film 82 = .ok (.imul, 1) := by decide +kernel
theorem dX9_film_83 : decode cX9_film 83 = .ok (.iload 5, 2) := by decide +kernel
theorem dX9_film_85 : decode cX9_film 85 = .ok (.iadd, 1) := by decide +kernel
theorem dX9_film_86 : decode cX9_film 86 = .ok (.iload 7, 2) := by decide +kernel
theorem dX9_film_88 : decode cX9_film 88 = .ok (.iadd, 1) := by decide +kernel
theorem dX9_film_89 : decode cX9_film 89 = .ok (.aload_n 0, 1) := by decide +kernel
theorem dX9_film_90 : decode cX9_film 90 = .ok (.iload_n 1, 1) := by decide +kernel
theorem dX9_film_91 : decode cX9_film 91 = .ok (.invokevirtual 73, 3) := by decide +kernel
theorem dX9_film_94 : decode cX9_film 94 = .ok (.i2l, 1) := by decide +kernel
theorem dX9_film_95 : decode cX9_film 95 = .ok (.lastore, 1) := by decide +kernel
theorem dX9_film_96 : decode cX9_film 96 = .ok (.iinc 7 1, 3) := by decide +kernel
theorem dX9_film_99 : decode cX9_film 99 = .ok (.goto (-35), 3) := by decide +kernel
theorem dX9_film_102 : decode cX9_film 102 = .ok (.aload_n 0, 1) := by decide +kernel
theorem dX9_film_103 : decode cX9_film 103 = .ok (.invokevirtual 185, 3) := by decide +kernel
theorem dX9_film_106 : decode cX9_film 106 = .ok (.iload_n 2, 1) := by decide +kernel
theorem dX9_film_107 : decode cX9_film 107 = .ok (.ireturn, 1) := by decide +kernel
theorem dX9_sheet_0 : decode cX9_sheet 0 = .ok (.iload_n 1, 1) := by decide +kernel
theorem dX9_sheet_1 : decode cX9_sheet 1 = .ok (.invokestatic 220, 3) := by decide +kernel
theorem dX9_sheet_4 : decode cX9_sheet 4 = .ok (.ifCond .eq 16, 3) := by decide +kernel
theorem dX9_sheet_7 : decode cX9_sheet 7 = .ok (.iload_n 2, 1) := by decide +kernel
theorem dX9_sheet_8 : decode cX9_sheet 8 = .ok (.invokestatic 223, 3) := by decide +kernel
theorem dX9_sheet_11 : decode cX9_sheet 11 = .ok (.ifCond .eq 9, 3) := by decide +kernel
theorem dX9_sheet_14 : decode cX9_sheet 14 = .ok (.iload_n 3, 1) := by decide +kernel
theorem dX9_sheet_15 : decode cX9_sheet 15 = .ok (.bipush 24, 2) := by decide +kernel
theorem dX9_sheet_17 : decode cX9_sheet 17 = .ok (.if_icmp .le 5, 3) := by decide +kernel
theorem dX9_sheet_20 : decode cX9_sheet 20 = .ok (.iconst (-1), 1) := by decide +kernel
theorem dX9_sheet_21 : decode cX9_sheet 21 = .ok (.ireturn, 1) := by decide +kernel
theorem dX9_sheet_22 : decode cX9_sheet 22 = .ok (.iload_n 3, 1) := by decide +kernel
theorem dX9_sheet_23 : decode cX9_sheet 23 = .ok (.ifCond .ge 6, 3) := by decide +kernel
theorem dX9_sheet_26 : decode cX9_sheet 26 = .ok (.bipush (-14), 2) := by decide +kernel
theorem dX9_sheet_28 : decode cX9_sheet 28 = .ok (.ireturn, 1) := by decide +kernel
theorem dX9_sheet_29 : decode cX9_sheet 29 = .ok (.aload_n 0, 1) := by decide +kernel
theorem dX9_sheet_30 : decode cX9_sheet 30 = .ok (.getfield 37, 3) := by decide +kernel
theorem dX9_sheet_33 : decode cX9_sheet 33 = .ok (.iload_n 1, 1) := by decide +kernel
theorem dX9_sheet_34 : decode cX9_sheet 34 = .ok (.iload_n 2, 1) := by decide +kernel
theorem dX9_sheet_35 : decode cX9_sheet 35 = .ok (.iastore, 1) := by decide +kernel
theorem dX9_sheet_36 : decode cX9_sheet 36 = .ok (.aload_n 0, 1) := by decide +kernel
theorem dX9_sheet_37 : decode cX9_sheet 37 = .ok (.getfield 40, 3) := by decide +kernel
theorem dX9_sheet_40 : decode cX9_sheet 40 = .ok (.iload_n 1, 1) := by decide +kernel
theorem dX9_sheet_41 : decode cX9_sheet 41 = .ok (.iload_n 3, 1) := by decide +kernel
theorem dX9_sheet_42 : decode cX9_sheet 42 = .ok (.iastore, 1) := by decide +kernel
theorem dX9_sheet_43 : decode cX9_sheet 43 = .ok (.iconst 0, 1) := by decide +kernel
theorem dX9_sheet_44 : decode cX9_sheet 44 = .ok (.istore 4, 2) := by decide +kernel
theorem dX9_sheet_46 : decode cX9_sheet 46 = .ok (.iload 4, 2) := by decide +kernel
theorem dX9_sheet_48 : decode cX9_sheet 48 = .ok (.bipush 24, 2) := by decide +kernel
theorem dX9_sheet_50 : decode cX9_sheet 50 = .ok (.if_icmp .ge 22, 3) := by decide +kernel
theorem dX9_sheet_53 : decode cX9_sheet 53 = .ok (.aload_n 0, 1) := by decide +kernel
theorem dX9_sheet_54 : decode cX9_sheet 54 = .ok (.getfield 43, 3) := by decide +kernel
theorem dX9_sheet_57 : decode cX9_sheet 57 = .ok (.bipush 24, 2) := by decide +kernel
theorem dX9_sheet_59 : decode cX9_sheet 59 = .ok (.iload_n 1, 1) := by decide +kernel
theorem dX9_sheet_60 : decode cX9_sheet 60 = .ok (.imul, 1) := by decide +kernel
theorem dX9_sheet_61 : decode cX9_sheet 61 = .ok (.iload 4, 2) := by decide +kernel
theorem dX9_sheet_63 : decode cX9_sheet 63 = .ok (.iadd, 1) := by decide +kernel
theorem dX9_sheet_64 : decode cX9_sheet 64 = .ok (.lconst 0, 1) := by decide +kernel
theorem dX9_sheet_65 : decode cX9_sheet 65 = .ok (.lastore, 1) := by decide +kernel
theorem dX9_sheet_66 : decode cX9_sheet 66 = .ok (.iinc 4 1, 3) := by decide +kernel
theorem dX9_sheet_69 : decode cX9_sheet 69 = .ok (.goto (-23), 3) := by decide +kernel
theorem dX9_sheet_72 : decode cX9_sheet 72 = .ok (.iload_n 3, 1) := by decide +kernel
theorem dX9_sheet_73 : decode cX9_sheet 73 = .ok (.ireturn, 1) := by decide +kernel
theorem dX9_drop_0 : decode cX9_drop 0 = .ok (.iload_n 1, 1) := by decide +kernel
theorem dX9_drop_1 : decode cX9_drop 1 = .ok (.invokestatic 220, 3) := by decide +kernel
theorem dX9_drop_4 : decode cX9_drop 4 = .ok (.ifCond .ne 5, 3) := by decide +kernel
theorem dX9_drop_7 : decode cX9_drop 7 = .ok (.iconst (-1), 1) := by decide +kernel
theorem dX9_drop_8 : decode cX9_drop 8 = .ok (.ireturn, 1) := by decide +kernel
theorem dX9_drop_9 : decode cX9_drop 9 = .ok (.aload_n 0, 1) := by decide +kernel
theorem dX9_drop_10 : decode cX9_drop 10 = .ok (.getfield 37, 3) := by decide +kernel
theorem dX9_drop_13 : decode cX9_drop 13 = .ok (.iload_n 1, 1) := by decide +kernel
theorem dX9_drop_14 : decode cX9_drop 14 = .ok (.iaload, 1) := by decide +kernel
theorem dX9_drop_15 : decode cX9_drop 15 = .ok (.ifCond .ge 6, 3) := by decide +kernel
theorem dX9_drop_18 : decode cX9_drop 18 = .ok (.bipush (-11), 2) := by decide +kernel
theorem dX9_drop_20 : decode cX9_drop 20 = .ok (.ireturn, 1) := by decide +kernel
theorem dX9_drop_21 : decode cX9_drop 21 = .ok (.aload_n 0, 1) := by decide +kernel
theorem dX9_drop_22 : decode cX9_drop 22 = .ok (.getfield 37, 3) := by decide +kernel
theorem dX9_drop_25 : decode cX9_drop 25 = .ok (.iload_n 1, 1) := by decide +kernel
theorem dX9_drop_26 : decode cX9_drop 26 = .ok (.iconst (-1), 1) := by decide +kernel
theorem dX9_drop_27 : decode cX9_drop 27 = .ok (.iastore, 1) := by decide +kernel
theorem dX9_drop_28 : decode cX9_drop 28 = .ok (.aload_n 0, 1) := by decide +kernel
theorem dX9_drop_29 : decode cX9_drop 29 = .ok (.getfield 40, 3) := by decide +kernel
theorem dX9_drop_32 : decode cX9_drop 32 = .ok (.iload_n 1, 1) := by decide +kernel
theorem dX9_drop_33 : decode cX9_drop 33 = .ok (.iaload, 1) := by decide +kernel
theorem dX9_drop_34 : decode cX9_drop 34 = .ok (.ireturn, 1) := by decide +kernel
theorem dX9_item_0 : decode cX9_item 0 = .ok (.iload_n 1, 1) := by decide +kernel
theorem dX9_item_1 : decode cX9_item 1 = .ok (.invokestatic 220, 3) := by decide +kernel
theorem dX9_item_4 : decode cX9_item 4 = .ok (.ifCond .eq 10, 3) := by decide +kernel
theorem dX9_item_7 : decode cX9_item 7 = .ok (.iload_n 2, 1) := by decide +kernel
theorem dX9_item_8 : decode cX9_item 8 = .ok (.invokestatic 223, 3) := by decide +kernel
theorem dX9_item_11 : decode cX9_item 11 = .ok (.ifCond .ne 5, 3) := by decide +kernel
theorem dX9_item_14 : decode cX9_item 14 = .ok (.iconst (-1), 1) := by decide +kernel
theorem dX9_item_15 : decode cX9_item 15 = .ok (.ireturn, 1) := by decide +kernel
theorem dX9_item_16 : decode cX9_item 16 = .ok (.aload_n 0, 1) := by decide +kernel
theorem dX9_item_17 : decode cX9_item 17 = .ok (.iload_n 1, 1) := by decide +kernel
theorem dX9_item_18 : decode cX9_item 18 = .ok (.iload_n 2, 1) := by decide +kernel
theorem dX9_item_19 : decode cX9_item 19 = .ok (.iload_n 3, 1) := by decide +kernel
theorem dX9_item_20 : decode cX9_item 20 = .ok (.iconst 1, 1) := by decide +kernel
theorem dX9_item_21 : decode cX9_item 21 = .ok (.invokevirtual 226, 3) := by decide +kernel
theorem dX9_item_24 : decode cX9_item 24 = .ok (.istore 6, 2) := by decide +kernel
theorem dX9_item_26 : decode cX9_item 26 = .ok (.iload 6, 2) := by decide +kernel
theorem dX9_item_28 : decode cX9_item 28 = .ok (.ifCond .ge 6, 3) := by decide +kernel
theorem dX9_item_31 : decode cX9_item 31 = .ok (.iload 6, 2) := by decide +kernel
theorem dX9_item_33 : decode cX9_item 33 = .ok (.ireturn, 1) := by decide +kernel
theorem dX9_item_34 : decode cX9_item 34 = .ok (.aload_n 0, 1) := by decide +kernel
theorem dX9_item_35 : decode cX9_item 35 = .ok (.getfield 43, 3) := by decide +kernel
theorem dX9_item_38 : decode cX9_item 38 = .ok (.bipush 24, 2) := by decide +kernel
theorem dX9_item_40 : decode cX9_item 40 = .ok (.iload_n 1, 1) := by decide +kernel
theorem dX9_item_41 : decode cX9_item 41 = .ok (.imul, 1) := by decide +kernel
theorem dX9_item_42 : decode cX9_item 42 = .ok (.iload_n 3, 1) := by decide +kernel
theorem dX9_item_43 : decode cX9_item 43 = .ok (.iadd, 1) := by decide +kernel
theorem dX9_item_44 : decode cX9_item 44 = .ok (.iload_n 2, 1) := by decide +kernel
theorem dX9_item_45 : decode cX9_item 45 = .ok (.ifCond .ne 11, 3) := by decide +kernel
theorem dX9_item_48 : decode cX9_item 48 = .ok (.lload 4, 2) := by decide +kernel
theorem dX9_item_50 : decode cX9_item 50 = .ok (.l2i, 1) := by decide +kernel
theorem dX9_item_51 : decode cX9_item 51 = .ok (.i2b, 1) := by decide +kernel
theorem dX9_item_52 : decode cX9_item 52 = .ok (.i2l, 1) := by decide +kernel
theorem dX9_item_53 : decode cX9_item 53 = .ok (.goto 30, 3) := by decide +kernel
theorem dX9_item_56 : decode cX9_item 56 = .ok (.iload_n 2, 1) := by decide +kernel
theorem dX9_item_57 : decode cX9_item 57 = .ok (.iconst 1, 1) := by decide +kernel
theorem dX9_item_58 : decode cX9_item 58 = .ok (.if_icmp .ne 11, 3) := by decide +kernel
theorem dX9_item_61 : decode cX9_item 61 = .ok (.lload 4, 2) := by decide +kernel
theorem dX9_item_63 : decode cX9_item 63 = .ok (.l2i, 1) := by decide +kernel
theorem dX9_item_64 : decode cX9_item 64 = .ok (.i2s, 1) := by decide +kernel
theorem dX9_item_65 : decode cX9_item 65 = .ok (.i2l, 1) := by decide +kernel
theorem dX9_item_66 : decode cX9_item 66 = .ok (.goto 17, 3) := by decide +kernel
theorem dX9_item_69 : decode cX9_item 69 = .ok (.iload_n 2, 1) := by decide +kernel
theorem dX9_item_70 : decode cX9_item 70 = .ok (.iconst 2, 1) := by decide +kernel
theorem dX9_item_71 : decode cX9_item 71 = .ok (.if_icmp .ne 10, 3) := by decide +kernel
theorem dX9_item_74 : decode cX9_item 74 = .ok (.lload 4, 2) := by decide +kernel
theorem dX9_item_76 : decode cX9_item 76 = .ok (.l2i, 1) := by decide +kernel
theorem dX9_item_77 : decode cX9_item 77 = .ok (.i2l, 1) := by decide +kernel
theorem dX9_item_78 : decode cX9_item 78 = .ok (.goto 5, 3) := by decide +kernel
theorem dX9_item_81 : decode cX9_item 81 = .ok (.lload 4, 2) := by decide +kernel
theorem dX9_item_83 : decode cX9_item 83 = .ok (.lastore, 1) := by decide +kernel
theorem dX9_item_84 : decode cX9_item 84 = .ok (.iconst 1, 1) := by decide +kernel
theorem dX9_item_85 : decode cX9_item 85 = .ok (.ireturn, 1) := by decide +kernel
theorem dX9_copy_0 : decode cX9_copy 0 = .ok (.iload_n 1, 1) := by decide +kernel
theorem dX9_copy_1 : decode cX9_copy 1 = .ok (.invokestatic 220, 3) := by decide +kernel
theorem dX9_copy_4 : decode cX9_copy 4 = .ok (.ifCond .eq 10, 3) := by decide +kernel
theorem dX9_copy_7 : decode cX9_copy 7 = .ok (.iload_n 3, 1) := by decide +kernel
theorem dX9_copy_8 : decode cX9_copy 8 = .ok (.invokestatic 220, 3) := by decide +kernel
theorem dX9_copy_11 : decode cX9_copy 11 = .ok (.ifCond .ne 5, 3) := by decide +kernel
theorem dX9_copy_14 : decode cX9_copy 14 = .ok (.iconst (-1), 1) := by decide +kernel
theorem dX9_copy_15 : decode cX9_copy 15 = .ok (.ireturn, 1) := by decide +kernel
theorem dX9_copy_16 : decode cX9_copy 16 = .ok (.aload_n 0, 1) := by decide +kernel
theorem dX9_copy_17 : decode cX9_copy 17 = .ok (.getfield 37, 3) := by decide +kernel
theorem dX9_copy_20 : decode cX9_copy 20 = .ok (.iload_n 1, 1) := by decide +kernel
theorem dX9_copy_21 : decode cX9_copy 21 = .ok (.iaload, 1) := by decide +kernel
theorem dX9_copy_22 : decode cX9_copy 22 = .ok (.ifCond .lt 12, 3) := by decide +kernel
theorem dX9_copy_25 : decode cX9_copy 25 = .ok (.aload_n 0, 1) := by decide +kernel
theorem dX9_copy_26 : decode cX9_copy 26 = .ok (.getfield 37, 3) := by decide +kernel
theorem dX9_copy_29 : decode cX9_copy 29 = .ok (.iload_n 3, 1) := by decide +kernel
theorem dX9_copy_30 : decode cX9_copy 30 = .ok (.iaload, 1) := by decide +kernel
theorem dX9_copy_31 : decode cX9_copy 31 = .ok (.ifCond .ge 6, 3) := by decide +kernel
theorem dX9_copy_34 : decode cX9_copy 34 = .ok (.bipush (-11), 2) := by decide +kernel
theorem dX9_copy_36 : decode cX9_copy 36 = .ok (.ireturn, 1) := by decide +kernel
theorem dX9_copy_37 : decode cX9_copy 37 = .ok (.aload_n 0, 1) := by decide +kernel
theorem dX9_copy_38 : decode cX9_copy 38 = .ok (.iload_n 3, 1) := by decide +kernel
theorem dX9_copy_39 : decode cX9_copy 39 = .ok (.aload_n 0, 1) := by decide +kernel
theorem dX9_copy_40 : decode cX9_copy 40 = .ok (.getfield 37, 3) := by decide +kernel
theorem dX9_copy_43 : decode cX9_copy 43 = .ok (.iload_n 1, 1) := by decide +kernel
theorem dX9_copy_44 : decode cX9_copy 44 = .ok (.iaload, 1) := by decide +kernel
theorem dX9_copy_45 : decode cX9_copy 45 = .ok (.iload 4, 2) := by decide +kernel
theorem dX9_copy_47 : decode cX9_copy 47 = .ok (.iload 5, 2) := by decide +kernel
theorem dX9_copy_49 : decode cX9_copy 49 = .ok (.invokevirtual 226, 3) := by decide +kernel
theorem dX9_copy_52 : decode cX9_copy 52 = .ok (.istore 6, 2) := by decide +kernel
theorem dX9_copy_54 : decode cX9_copy 54 = .ok (.iload 6, 2) := by decide +kernel
theorem dX9_copy_56 : decode cX9_copy 56 = .ok (.ifCond .ne 20, 3) := by decide +kernel
theorem dX9_copy_59 : decode cX9_copy 59 = .ok (.aload_n 0, 1) := by decide +kernel
theorem dX9_copy_60 : decode cX9_copy 60 = .ok (.iload_n 1, 1) := by decide +kernel
theorem dX9_copy_61 : decode cX9_copy 61 = .ok (.aload_n 0, 1) := by decide +kernel
theorem dX9_copy_62 : decode cX9_copy 62 = .ok (.getfield 37, 3) := by decide +kernel
theorem dX9_copy_65 : decode cX9_copy 65 = .ok (.iload_n 1, 1) := by decide +kernel
theorem dX9_copy_66 : decode cX9_copy 66 = .ok (.iaload, 1) := by decide +kernel
theorem dX9_copy_67 : decode cX9_copy 67 = .ok (.iload_n 2, 1) := by decide +kernel
theorem dX9_copy_68 : decode cX9_copy 68 = .ok (.iload 5, 2) := by decide +kernel
theorem dX9_copy_70 : decode cX9_copy 70 = .ok (.invokevirtual 226, 3) := by decide +kernel
theorem dX9_copy_73 : decode cX9_copy 73 = .ok (.goto 5, 3) := by decide +kernel
theorem dX9_copy_76 : decode cX9_copy 76 = .ok (.iload 6, 2) := by decide +kernel
theorem dX9_copy_78 : decode cX9_copy 78 = .ok (.istore 6, 2) := by decide +kernel
theorem dX9_copy_80 : decode cX9_copy 80 = .ok (.iload 6, 2) := by decide +kernel
theorem dX9_copy_82 : decode cX9_copy 82 = .ok (.ifCond .ge 6, 3) := by decide +kernel
theorem dX9_copy_85 : decode cX9_copy 85 = .ok (.iload 6, 2) := by decide +kernel
theorem dX9_copy_87 : decode cX9_copy 87 = .ok (.ireturn, 1) := by decide +kernel
theorem dX9_copy_88 : decode cX9_copy 88 = .ok (.iconst 0, 1) := by decide +kernel
theorem dX9_copy_89 : decode cX9_copy 89 = .ok (.istore 7, 2) := by decide +kernel
theorem dX9_copy_91 : decode cX9_copy 91 = .ok (.iload 7, 2) := by decide +kernel
theorem dX9_copy_93 : decode cX9_copy 93 = .ok (.iload 5, 2) := by decide +kernel
theorem dX9_copy_95 : decode cX9_copy 95 = .ok (.if_icmp .ge 30, 3) := by decide +kernel
theorem dX9_copy_98 : decode cX9_copy 98 = .ok (.aload_n 0, 1) := by decide +kernel
theorem dX9_copy_99 : decode cX9_copy 99 = .ok (.getfield 47, 3) := by decide +kernel
theorem dX9_copy_102 : decode cX9_copy 102 = .ok (.iload 7, 2) := by decide +kernel
theorem dX9_copy_104 : decode cX9_copy 104 = .ok (.aload_n 0, 1) := by decide +kernel
theorem dX9_copy_105 : decode cX9_copy 105 = .ok (.getfield 43, 3) := by decide +kernel
theorem dX9_copy_108 : decode cX9_copy 108 = .ok (.bipush 24, 2) := by decide +kernel
theorem dX9_copy_110 : decode cX9_copy 110 = .ok (.iload_n 1, 1) := by decide +kernel
theorem dX9_copy_111 : decode cX9_copy 111 = .ok (.imul, 1) := by decide +kernel
theorem dX9_copy_112 : decode cX9_copy 112 = .ok (.iload_n 2, 1) := by decide +kernel
theorem dX9_copy_113 : decode cX9_copy 113 = .ok (.iadd, 1) := by decide +kernel
theorem dX9_copy_114 : decode cX9_copy 114 = .ok (.iload 7, 2) := by decide +kernel
theorem dX9_copy_116 : decode cX9_copy 116 = .ok (.iadd, 1) := by decide +kernel
theorem dX9_copy_117 : decode cX9_copy 117 = .ok (.laload, 1) := by decide +kernel
theorem dX9_copy_118 : decode cX9_copy 118 = .ok (.lastore, 1) := by decide +kernel
theorem dX9_copy_119 : decode cX9_copy 119 = .ok (.iinc 7 1, 3) := by decide +kernel
theorem dX9_copy_122 : decode cX9_copy 122 = .ok (.goto (-31), 3) := by decide +kernel
theorem dX9_copy_125 : decode cX9_copy 125 = .ok (.iconst 0, 1) := by decide +kernel
theorem dX9_copy_126 : decode cX9_copy 126 = .ok (.istore 7, 2) := by decide +kernel
theorem dX9_copy_128 : decode cX9_copy 128 = .ok (.iload 7, 2) := by decide +kernel
theorem dX9_copy_130 : decode cX9_copy 130 = .ok (.iload 5, 2) := by decide +kernel
theorem dX9_copy_132 : decode cX9_copy 132 = .ok (.if_icmp .ge 31, 3) := by decide +kernel
theorem dX9_copy_135 : decode cX9_copy 135 = .ok (.aload_n 0, 1) := by decide +kernel
theorem dX9_copy_136 : decode cX9_copy 136 = .ok (.getfield 43, 3) := by decide +kernel
theorem dX9_copy_139 : decode cX9_copy 139 = .ok (.bipush 24, 2) := by decide +kernel
theorem dX9_copy_141 : decode cX9_copy 141 = .ok (.iload_n 3, 1) := by decide +kernel
theorem dX9_copy_142 : decode cX9_copy 142 = .ok (.imul, 1) := by decide +kernel
theorem dX9_copy_143 : decode cX9_copy 143 = .ok (.iload 4, 2) := by decide +kernel
theorem dX9_copy_145 : decode cX9_copy 145 = .ok (.iadd, 1) := by decide +kernel
theorem dX9_copy_146 : decode cX9_copy 146 = .ok (.iload 7, 2) := by decide +kernel
theorem dX9_copy_148 : decode cX9_copy 148 = .ok (.iadd, 1) := by decide +kernel
theorem dX9_copy_149 : decode cX9_copy 149 = .ok (.aload_n 0, 1) := by decide +kernel
theorem dX9_copy_150 : decode cX9_copy 150 = .ok (.getfield 47, 3) := by decide +kernel
theorem dX9_copy_153 : decode cX9_copy 153 = .ok (.iload 7, 2) := by decide +kernel
theorem dX9_copy_155 : decode cX9_copy 155 = .ok (.laload, 1) := by decide +kernel
theorem dX9_copy_156 : decode cX9_copy 156 = .ok (.lastore, 1) := by decide +kernel
theorem dX9_copy_157 : decode cX9_copy 157 = .ok (.iinc 7 1, 3) := by decide +kernel
theorem dX9_copy_160 : decode cX9_copy 160 = .ok (.goto (-32), 3) := by decide +kernel
theorem dX9_copy_163 : decode cX9_copy 163 = .ok (.iload 5, 2) := by decide +kernel
theorem dX9_copy_165 : decode cX9_copy 165 = .ok (.ireturn, 1) := by decide +kernel
