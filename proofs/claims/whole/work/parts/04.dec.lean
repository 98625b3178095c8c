theorem dX3_init_0 : decode cX3_init 0 = .ok (.aload_n 0, 1) := by decide +kernel
theorem dX3_init_1 : decode cX3_init 1 = .ok (.invokespecial 3, 3) := by decide +kernel
theorem dX3_init_4 : decode cX3_init 4 = .ok (.aload_n 0, 1) := by decide +kernel
theorem dX3_init_5 : decode cX3_init 5 = .ok (.bipush 6, 2) := by decide +kernel
theorem dX3_init_7 : decode cX3_init 7 = .ok (.newarray .int, 2) := by decide +kernel
theorem dX3_init_9 : decode cX3_init 9 = .ok (.putfield 9, 3) := by decide +kernel
theorem dX3_init_12 : decode cX3_init 12 = .ok (.aload_n 0, 1) := by decide +kernel
theorem dX3_init_13 : decode cX3_init 13 = .ok (.iconst 1, 1) := by decide +kernel
theorem dX3_init_14 : decode cX3_init 14 = .ok (.putfield 15, 3) := by decide +kernel
theorem dX3_init_17 : decode cX3_init 17 = .ok (.aload_n 0, 1) := by decide +kernel
theorem dX3_init_18 : decode cX3_init 18 = .ok (.iconst 5, 1) := by decide +kernel
theorem dX3_init_19 : decode cX3_init 19 = .ok (.putfield 19, 3) := by decide +kernel
theorem dX3_init_22 : decode cX3_init 22 = .ok (.return_, 1) := by decide +kernel
theorem dX3_takeAll_0 : decode cX3_takeAll 0 = .ok (.aload_n 0, 1) := by decide +kernel
theorem dX3_takeAll_1 : decode cX3_takeAll 1 = .ok (.aload_n 1, 1) := by decide +kernel
theorem dX3_takeAll_2 : decode cX3_takeAll 2 = .ok (.invokevirtual 22, 3) := by decide +kernel
theorem dX3_takeAll_5 : decode cX3_takeAll 5 = .ok (.aload_n 1, 1) := by decide +kernel
theorem dX3_takeAll_6 : decode cX3_takeAll 6 = .ok (.getfield 9, 3) := by decide +kernel
theorem dX3_takeAll_9 : decode cX3_takeAll 9 = .ok (.iconst 0, 1) := by decide +kernel
theorem dX3_takeAll_10 : decode cX3_takeAll 10 = .ok (.aload_n 0, 1) := by decide +kernel
theorem dX3_takeAll_11 : decode cX3_takeAll 11 = .ok (.getfield 9, 3) := by decide +kernel
theorem dX3_takeAll_14 : decode cX3_takeAll 14 = .ok (.iconst 0, 1) := by decide +kernel
theorem dX3_takeAll_15 : decode cX3_takeAll 15 = .ok (.bipush 6, 2) := by decide +kernel
theorem dX3_takeAll_17 : decode cX3_takeAll 17 = .ok (.invokestatic 26, 3) := by decide +kernel
theorem dX3_takeAll_20 : decode cX3_takeAll 20 = .ok (.aload_n 0, 1) := by decide +kernel
theorem dX3_takeAll_21 : decode cX3_takeAll 21 = .ok (.aload_n 1, 1) := by decide +kernel
theorem dX3_takeAll_22 : decode cX3_takeAll 22 = .ok (.getfield 32, 3) := by decide +kernel
theorem dX3_takeAll_25 : decode cX3_takeAll 25 = .ok (.putfield 32, 3) := by decide +kernel
theorem dX3_takeAll_28 : decode cX3_takeAll 28 = .ok (.aload_n 0, 1) := by decide +kernel
theorem dX3_takeAll_29 : decode cX3_takeAll 29 = .ok (.aload_n 1, 1) := by decide +kernel
theorem dX3_takeAll_30 : decode cX3_takeAll 30 = .ok (.getfield 35, 3) := by decide +kernel
theorem dX3_takeAll_33 : decode cX3_takeAll 33 = .ok (.putfield 35, 3) := by decide +kernel
theorem dX3_takeAll_36 : decode cX3_takeAll 36 = .ok (.aload_n 0, 1) := by decide +kernel
theorem dX3_takeAll_37 : decode cX3_takeAll 37 = .ok (.aload_n 1, 1) := by decide +kernel
theorem dX3_takeAll_38 : decode cX3_takeAll 38 = .ok (.getfield 15, 3) := by decide +kernel
theorem dX3_takeAll_41 : decode cX3_takeAll 41 = .ok (.putfield 15, 3) := by decide +kernel
theorem dX3_takeAll_44 : decode cX3_takeAll 44 = .ok (.aload_n 0, 1) := by decide +kernel
theorem dX3_takeAll_45 : decode cX3_takeAll 45 = .ok (.aload_n 1, 1) := by decide +kernel
theorem dX3_takeAll_46 : decode cX3_takeAll 46 = .ok (.getfield 19, 3) := by decide +kernel
theorem dX3_takeAll_49 : decode cX3_takeAll 49 = .ok (.putfield 19, 3) := by decide +kernel
theorem dX3_takeAll_52 : decode cX3_takeAll 52 = .ok (.return_, 1) := by decide +kernel
theorem dX3_isLike_0 : decode cX3_isLike 0 = .ok (.aload_n 0, 1) := by decide +kernel
theorem dX3_isLike_1 : decode cX3_isLike 1 = .ok (.getfield 32, 3) := by decide +kernel
theorem dX3_isLike_4 : decode cX3_isLike 4 = .ok (.aload_n 1, 1) := by decide +kernel
theorem dX3_isLike_5 : decode cX3_isLike 5 = .ok (.getfield 32, 3) := by decide +kernel
theorem dX3_isLike_8 : decode cX3_isLike 8 = .ok (.if_icmp .ne 47, 3) := by decide +kernel
theorem dX3_isLike_11 : decode cX3_isLike 11 = .ok (.aload_n 0, 1) := by decide +kernel
theorem dX3_isLike_12 : decode cX3_isLike 12 = .ok (.getfield 38, 3) := by decide +kernel
theorem dX3_isLike_15 : decode cX3_isLike 15 = .ok (.aload_n 1, 1) := by decide +kernel
theorem dX3_isLike_16 : decode cX3_isLike 16 = .ok (.getfield 38, 3) := by decide +kernel
theorem dX3_isLike_19 : decode cX3_isLike 19 = .ok (.if_icmp .ne 36, 3) := by decide +kernel
theorem dX3_isLike_22 : decode cX3_isLike 22 = .ok (.aload_n 0, 1) := by decide +kernel
theorem dX3_isLike_23 : decode cX3_isLike 23 = .ok (.getfield 35, 3) := by decide +kernel
theorem dX3_isLike_26 : decode cX3_isLike 26 = .ok (.aload_n 1, 1) := by decide +kernel
theorem dX3_isLike_27 : decode cX3_isLike 27 = .ok (.getfield 35, 3) := by decide +kernel
theorem dX3_isLike_30 : decode cX3_isLike 30 = .ok (.if_icmp .ne 25, 3) := by decide +kernel
theorem dX3_isLike_33 : decode cX3_isLike 33 = .ok (.aload_n 0, 1) := by decide +kernel
theorem dX3_isLike_34 : decode cX3_isLike 34 = .ok (.getfield 15, 3) := by decide +kernel
theorem dX3_isLike_37 : decode cX3_isLike 37 = .ok (.aload_n 1, 1) := by decide +kernel
theorem dX3_isLike_38 : decode cX3_isLike 38 = .ok (.getfield 15, 3) := by decide +kernel
theorem dX3_isLike_41 : decode cX3_isLike 41 = .ok (.if_icmp .ne 14, 3) := by decide +kernel
theorem dX3_isLike_44 : decode cX3_isLike 44 = .ok (.aload_n 0, 1) := by decide +kernel
theorem dX3_isLike_45 : decode cX3_isLike 45 = .ok (.getfield 19, 3) := by decide +kernel
theorem dX3_isLike_48 : decode cX3_isLike 48 = .ok (.aload_n 1, 1) := by decide +kernel
theorem dX3_isLike_49 : decode cX3_isLike 49 = .ok (.getfield 19, 3) := by decide +kernel
theorem dX3_isLike_52 : decode cX3_isLike 52 = .ok (.if_icmp .eq 5, 3) := by decide +kernel
theorem dX3_isLike_55 : decode cX3_isLike 55 = .ok (.iconst 0, 1) := by decide +kernel
theorem dX3_isLike_56 : decode cX3_isLike 56 = .ok (.ireturn, 1) := by decide +kernel
theorem dX3_isLike_57 : decode cX3_isLike 57 = .ok (.iconst 0, 1) := by decide +kernel
theorem dX3_isLike_58 : decode cX3_isLike 58 = .ok (.istore_n 2, 1) := by decide +kernel
theorem dX3_isLike_59 : decode cX3_isLike 59 = .ok (.iload_n 2, 1) := by decide +kernel
theorem dX3_isLike_60 : decode cX3_isLike 60 = .ok (.aload_n 0, 1) := by decide +kernel
theorem dX3_isLike_61 : decode cX3_isLike 61 = .ok (.getfield 32, 3) := by decide +kernel
theorem dX3_isLike_64 : decode cX3_isLike 64 = .ok (.if_icmp .ge 56, 3) := by decide +kernel
theorem dX3_isLike_67 : decode cX3_isLike 67 = .ok (.aload_n 0, 1) := by decide +kernel
theorem dX3_isLike_68 : decode cX3_isLike 68 = .ok (.getfield 9, 3) := by decide +kernel
theorem dX3_isLike_71 : decode cX3_isLike 71 = .ok (.iload_n 2, 1) := by decide +kernel
theorem dX3_isLike_72 : decode cX3_isLike 72 = .ok (.iaload, 1) := by decide +kernel
theorem dX3_isLike_73 : decode cX3_isLike 73 = .ok (.aload_n 1, 1) := by decide +kernel
theorem dX3_isLike_74 : decode cX3_isLike 74 = .ok (.getfield 9, 3) := by decide +kernel
theorem dX3_isLike_77 : decode cX3_isLike 77 = .ok (.iload_n 2, 1) := by decide +kernel
theorem dX3_isLike_78 : decode cX3_isLike 78 = .ok (.iaload, 1) := by decide +kernel
theorem dX3_isLike_79 : decode cX3_isLike 79 = .ok (.if_icmp .ne 33, 3) := by decide +kernel
theorem dX3_isLike_82 : decode cX3_isLike 82 = .ok (.aload_n 0, 1) := by decide +kernel
theorem dX3_isLike_83 : decode cX3_isLike 83 = .ok (.getfield 41, 3) := by decide +kernel
theorem dX3_isLike_86 : decode cX3_isLike 86 = .ok (.iload_n 2, 1) := by decide +kernel
theorem dX3_isLike_87 : decode cX3_isLike 87 = .ok (.iaload, 1) := by decide +kernel
theorem dX3_isLike_88 : decode cX3_isLike 88 = .ok (.aload_n 1, 1) := by decide +kernel
theorem dX3_isLike_89 : decode cX3_isLike 89 = .ok (.getfield 41, 3) := by decide +kernel
theorem dX3_isLike_92 : decode cX3_isLike 92 = .ok (.iload_n 2, 1) := by decide +kernel
theorem dX3_isLike_93 : decode cX3_isLike 93 = .ok (.iaload, 1) := by decide +kernel
theorem dX3_isLike_94 : decode cX3_isLike 94 = .ok (.if_icmp .ne 18, 3) := by decide +kernel
theorem dX3_isLike_97 : decode cX3_isLike 97 = .ok (.aload_n 0, 1) := by decide +kernel
theorem dX3_isLike_98 : decode cX3_isLike 98 = .ok (.getfield 44, 3) := by decide +kernel
theorem dX3_isLike_101 : decode cX3_isLike 101 = .ok (.iload_n 2, 1) := by decide +kernel
theorem dX3_isLike_102 : decode cX3_isLike 102 = .ok (.iaload, 1) := by decide +kernel
theorem dX3_isLike_103 : decode cX3_isLike 103 = .ok (.aload_n 1, 1) := by decide +kernel
theorem dX3_isLike_104 : decode cX3_isLike 104 = .ok (.getfield 44, 3) := by decide +kernel
theorem dX3_isLike_107 : decode cX3_isLike 107 = .ok (.iload_n 2, 1) := by decide +kernel
theorem dX3_isLike_108 : decode cX3_isLike 108 = .ok (.iaload, 1) := by decide +kernel
theorem dX3_isLike_109 : decode cX3_isLike 109 = .ok (.if_icmp .eq 5, 3) := by decide +kernel
theorem dX3_isLike_112 : decode cX3_isLike 112 = .ok (.iconst 0, 1) := by decide +kernel
theorem dX3_isLike_113 : decode cX3_isLike 113 = .ok (.ireturn, 1) := by decide +kernel
theorem dX3_isLike_114 : decode cX3_isLike 114 = .ok (.iinc 2 1, 3) := by decide +kernel
theorem dX3_isLike_117 : decode cX3_isLike 117 = .ok (.goto (-58), 3) := by decide +kernel
theorem dX3_isLike_120 : decode cX3_isLike 120 = .ok (.iconst 1, 1) := by decide +kernel
theorem dX3_isLike_121 : decode cX3_isLike 121 = .ok (.ireturn, 1) := by decide +kernel
theorem dX3_enlist_0 : decode cX3_enlist 0 = .ok (.aload_n 0, 1) := by decide +kernel
theorem dX3_enlist_1 : decode cX3_enlist 1 = .ok (.getfield 9, 3) := by decide +kernel
theorem dX3_enlist_4 : decode cX3_enlist 4 = .ok (.aload_n 0, 1) := by decide +kernel
theorem dX3_enlist_5 : decode cX3_enlist 5 = .ok (.getfield 32, 3) := by decide +kernel
theorem dX3_enlist_8 : decode cX3_enlist 8 = .ok (.iload_n 1, 1) := by decide +kernel
theorem dX3_enlist_9 : decode cX3_enlist 9 = .ok (.iastore, 1) := by decide +kernel
theorem dX3_enlist_10 : decode cX3_enlist 10 = .ok (.aload_n 0, 1) := by decide +kernel
theorem dX3_enlist_11 : decode cX3_enlist 11 = .ok (.getfield 41, 3) := by decide +kernel
theorem dX3_enlist_14 : decode cX3_enlist 14 = .ok (.aload_n 0, 1) := by decide +kernel
theorem dX3_enlist_15 : decode cX3_enlist 15 = .ok (.getfield 32, 3) := by decide +kernel
theorem dX3_enlist_18 : decode cX3_enlist 18 = .ok (.iload_n 2, 1) := by decide +kernel
theorem dX3_enlist_19 : decode cX3_enlist 19 = .ok (.iastore, 1) := by decide +kernel
theorem dX3_enlist_20 : decode cX3_enlist 20 = .ok (.aload_n 0, 1) := by decide +kernel
theorem dX3_enlist_21 : decode cX3_enlist 21 = .ok (.getfield 44, 3) := by decide +kernel
theorem dX3_enlist_24 : decode cX3_enlist 24 = .ok (.aload_n 0, 1) := by decide +kernel
theorem dX3_enlist_25 : decode cX3_enlist 25 = .ok (.getfield 32, 3) := by decide +kernel
theorem dX3_enlist_28 : decode cX3_enlist 28 = .ok (.iload_n 3, 1) := by decide +kernel
theorem dX3_enlist_29 : decode cX3_enlist 29 = .ok (.iastore, 1) := by decide +kernel
theorem dX3_enlist_30 : decode cX3_enlist 30 = .ok (.aload_n 0, 1) := by decide +kernel
theorem dX3_enlist_31 : decode cX3_enlist 31 = .ok (.dup, 1) := by decide +kernel
theorem dX3_enlist_32 : decode cX3_enlist 32 = .ok (.getfield 32, 3) := by decide +kernel
theorem dX3_enlist_35 : decode cX3_enlist 35 = .ok (.iconst 1, 1) := by decide +kernel
theorem dX3_enlist_36 : decode cX3_enlist 36 = .ok (.iadd, 1) := by decide +kernel
theorem dX3_enlist_37 : decode cX3_enlist 37 = .ok (.putfield 32, 3) := by decide +kernel
theorem dX3_enlist_40 : decode cX3_enlist 40 = .ok (.return_, 1) := by decide +kernel
theorem dX3_stands_0 : decode cX3_stands 0 = .ok (.aload_n 0, 1) := by decide +kernel
theorem dX3_stands_1 : decode cX3_stands 1 = .ok (.getfield 44, 3) := by decide +kernel
theorem dX3_stands_4 : decode cX3_stands 4 = .ok (.iload_n 1, 1) := by decide +kernel
theorem dX3_stands_5 : decode cX3_stands 5 = .ok (.iaload, 1) := by decide +kernel
theorem dX3_stands_6 : decode cX3_stands 6 = .ok (.iconst (-1), 1) := by decide +kernel
theorem dX3_stands_7 : decode cX3_stands 7 = .ok (.if_icmp .eq 7, 3) := by decide +kernel
theorem dX3_stands_10 : decode cX3_stands 10 = .ok (.iconst 1, 1) := by decide +kernel
theorem dX3_stands_11 : decode cX3_stands 11 = .ok (.goto 4, 3) := by decide +kernel
theorem dX3_stands_14 : decode cX3_stands 14 = .ok (.iconst 0, 1) := by decide +kernel
theorem dX3_stands_15 : decode cX3_stands 15 = .ok (.ireturn, 1) := by decide +kernel
theorem dX3_whoStands_0 : decode cX3_whoStands 0 = .ok (.iconst 0, 1) := by decide +kernel
theorem dX3_whoStands_1 : decode cX3_whoStands 1 = .ok (.istore_n 1, 1) := by decide +kernel
theorem dX3_whoStands_2 : decode cX3_whoStands 2 = .ok (.iconst 0, 1) := by decide +kernel
theorem dX3_whoStands_3 : decode cX3_whoStands 3 = .ok (.istore_n 2, 1) := by decide +kernel
theorem dX3_whoStands_4 : decode cX3_whoStands 4 = .ok (.iload_n 2, 1) := by decide +kernel
theorem dX3_whoStands_5 : decode cX3_whoStands 5 = .ok (.aload_n 0, 1) := by decide +kernel
theorem dX3_whoStands_6 : decode cX3_whoStands 6 = .ok (.getfield 32, 3) := by decide +kernel
theorem dX3_whoStands_9 : decode cX3_whoStands 9 = .ok (.if_icmp .ge 23, 3) := by decide +kernel
theorem dX3_whoStands_12 : decode cX3_whoStands 12 = .ok (.aload_n 0, 1) := by decide +kernel
theorem dX3_whoStands_13 : decode cX3_whoStands 13 = .ok (.iload_n 2, 1) := by decide +kernel
theorem dX3_whoStands_14 : decode cX3_whoStands 14 = .ok (.invokevirtual 47, 3) := by decide +kernel
theorem dX3_whoStands_17 : decode cX3_whoStands 17 = .ok (.ifCond .eq 9, 3) := by decide +kernel
theorem dX3_whoStands_20 : decode cX3_whoStands 20 = .ok (.iload_n 1, 1) := by decide +kernel
theorem dX3_whoStands_21 : decode cX3_whoStands 21 = .ok (.iconst 1, 1) := by decide +kernel
theorem dX3_whoStands_22 : decode cX3_whoStands 22 = .ok (.iload_n 2, 1) := by decide +kernel
theorem dX3_whoStands_23 : decode cX3_whoStands 23 = .ok (.ishl, 1) := by decide +kernel
theorem dX3_whoStands_24 : decode cX3_whoStands 24 = .ok (.ior, 1) := by decide +kernel
theorem dX3_whoStands_25 : decode cX3_whoStands 25 = .ok (.istore_n 1, 1) := by decide +kernel
theorem dX3_whoStands_26 : decode cX3_whoStands 26 = .ok (.iinc 2 1, 3) := by decide +kernel
theorem dX3_whoStands_29 : decode cX3_whoStands 29 = .ok (.goto (-25), 3) := by decide +kernel
theorem dX3_whoStands_32 : decode cX3_whoStands 32 = .ok (.iload_n 1, 1) := by decide +kernel
theorem dX3_whoStands_33 : decode cX3_whoStands 33 = .ok (.ireturn, 1) := by decide +kernel
theorem dX3_howManyStand_0 : decode cX3_howManyStand 0 = .ok (.aload_n 0, 1) := by decide +kernel
theorem dX3_howManyStand_1 : decode cX3_howManyStand 1 = .ok (.invokevirtual 51, 3) := by decide +kernel
theorem dX3_howManyStand_4 : decode cX3_howManyStand 4 = .ok (.invokestatic 55, 3) := by decide +kernel
theorem dX3_howManyStand_7 : decode cX3_howManyStand 7 = .ok (.ireturn, 1) := by decide +kernel
theorem dX3_inchesTaken_0 : decode cX3_inchesTaken 0 = .ok (.iconst 0, 1) := by decide +kernel
theorem dX3_inchesTaken_1 : decode cX3_inchesTaken 1 = .ok (.istore_n 1, 1) := by decide +kernel
theorem dX3_inchesTaken_2 : decode cX3_inchesTaken 2 = .ok (.iconst 0, 1) := by decide +kernel
theorem dX3_inchesTaken_3 : decode cX3_inchesTaken 3 = .ok (.istore_n 2, 1) := by decide +kernel
theorem dX3_inchesTaken_4 : decode cX3_inchesTaken 4 = .ok (.iload_n 2, 1) := by decide +kernel
theorem dX3_inchesTaken_5 : decode cX3_inchesTaken 5 = .ok (.aload_n 0, 1) := by decide +kernel
theorem dX3_inchesTaken_6 : decode cX3_inchesTaken 6 = .ok (.getfield 32, 3) := by decide +kernel
theorem dX3_inchesTaken_9 : decode cX3_inchesTaken 9 = .ok (.if_icmp .ge 28, 3) := by decide +kernel
theorem dX3_inchesTaken_12 : decode cX3_inchesTaken 12 = .ok (.aload_n 0, 1) := by decide +kernel
theorem dX3_inchesTaken_13 : decode cX3_inchesTaken 13 = .ok (.iload_n 2, 1) := by decide +kernel
theorem dX3_inchesTaken_14 : decode cX3_inchesTaken 14 = .ok (.invokevirtual 47, 3) := by decide +kernel
theorem dX3_inchesTaken_17 : decode cX3_inchesTaken 17 = .ok (.ifCond .eq 14, 3) := by decide +kernel
theorem dX3_inchesTaken_20 : decode cX3_inchesTaken 20 = .ok (.iload_n 1, 1) := by decide +kernel
theorem dX3_inchesTaken_21 : decode cX3_inchesTaken 21 = .ok (.iconst 1, 1) := by decide +kernel
theorem dX3_inchesTaken_22 : decode cX3_inchesTaken 22 = .ok (.aload_n 0, 1) := by decide +kernel
theorem dX3_inchesTaken_23 : decode cX3_inchesTaken 23 = .ok (.getfield 44, 3) := by decide +kernel
theorem dX3_inchesTaken_26 : decode cX3_inchesTaken 26 = .ok (.iload_n 2, 1) := by decide +kernel
theorem dX3_inchesTaken_27 : decode cX3_inchesTaken 27 = .ok (.iaload, 1) := by decide +kernel
theorem dX3_inchesTaken_28 : decode cX3_inchesTaken 28 = .ok (.ishl, 1) := by decide +kernel
theorem dX3_inchesTaken_29 : decode cX3_inchesTaken 29 = .ok (.ior, 1) := by decide +kernel
theorem dX3_inchesTaken_30 : decode cX3_inchesTaken 30 = .ok (.istore_n 1, 1) := by decide +kernel
theorem dX3_inchesTaken_31 : decode cX3_inchesTaken 31 = .ok (.iinc 2 1, 3) := by decide +kernel
theorem dX3_inchesTaken_34 : decode cX3_inchesTaken 34 = .ok (.goto (-30), 3) := by decide +kernel
theorem dX3_inchesTaken_37 : decode cX3_inchesTaken 37 = .ok (.iload_n 1, 1) := by decide +kernel
theorem dX3_inchesTaken_38 : decode cX3_inchesTaken 38 = .ok (.ireturn, 1) := by decide +kernel
theorem dX3_paintTogether_0 : decode cX3_paintTogether 0 = .ok (.iconst 0, 1) := by decide +kernel
theorem dX3_paintTogether_1 : decode cX3_paintTogether 1 = .ok (.istore_n 1, 1) := by decide +kernel
theorem dX3_paintTogether_2 : decode cX3_paintTogether 2 = .ok (.iconst 0, 1) := by decide +kernel
theorem dX3_paintTogether_3 : decode cX3_paintTogether 3 = .ok (.istore_n 2, 1) := by decide +kernel
theorem dX3_paintTogether_4 : decode cX3_paintTogether 4 = .ok (.iload_n 2, 1) := by decide +kernel
theorem dX3_paintTogether_5 : decode cX3_paintTogether 5 = .ok (.aload_n 0, 1) := by decide +kernel
theorem dX3_paintTogether_6 : decode cX3_paintTogether 6 = .ok (.getfield 32, 3) := by decide +kernel
theorem dX3_paintTogether_9 : decode cX3_paintTogether 9 = .ok (.if_icmp .ge 18, 3) := by decide +kernel
theorem dX3_paintTogether_12 : decode cX3_paintTogether 12 = .ok (.iload_n 1, 1) := by decide +kernel
theorem dX3_paintTogether_13 : decode cX3_paintTogether 13 = .ok (.aload_n 0, 1) := by decide +kernel
theorem dX3_paintTogether_14 : decode cX3_paintTogether 14 = .ok (.getfield 41, 3) := by decide +kernel
theorem dX3_paintTogether_17 : decode cX3_paintTogether 17 = .ok (.iload_n 2, 1) := by decide +kernel
theorem dX3_paintTogether_18 : decode cX3_paintTogether 18 = .ok (.iaload, 1) := by decide +kernel
theorem dX3_paintTogether_19 : decode cX3_paintTogether 19 = .ok (.iadd, 1) := by decide +kernel
theorem dX3_paintTogether_20 : decode cX3_paintTogether 20 = .ok (.istore_n 1, 1) := by decide +kernel
theorem dX3_paintTogether_21 : decode cX3_paintTogether 21 = .ok (.iinc 2 1, 3) := by decide +kernel
theorem dX3_paintTogether_24 : decode cX3_paintTogether 24 = .ok (.goto (-20), 3) := by decide +kernel
theorem dX3_paintTogether_27 : decode cX3_paintTogether 27 = .ok (.iload_n 1, 1) := by decide +kernel
theorem dX3_paintTogether_28 : decode cX3_paintTogether 28 = .ok (.ireturn, 1) := by decide +kernel
theorem dX3_paintOfStanding_0 : decode cX3_paintOfStanding 0 = .ok (.iconst 0, 1) := by decide +kernel
theorem dX3_paintOfStanding_1 : decode cX3_paintOfStanding 1 = .ok (.istore_n 1, 1) := by decide +kernel
theorem dX3_paintOfStanding_2 : decode cX3_paintOfStanding 2 = .ok (.iconst 0, 1) := by decide +kernel
theorem dX3_paintOfStanding_3 : decode cX3_paintOfStanding 3 = .ok (.istore_n 2, 1) := by decide +kernel
theorem dX3_paintOfStanding_4 : decode cX3_paintOfStanding 4 = .ok (.iload_n 2, 1) := by decide +kernel
theorem dX3_paintOfStanding_5 : decode cX3_paintOfStanding 5 = .ok (.aload_n 0, 1) := by decide +kernel
theorem dX3_paintOfStanding_6 : decode cX3_paintOfStanding 6 = .ok (.getfield 32, 3) := by decide +kernel
theorem dX3_paintOfStanding_9 : decode cX3_paintOfStanding 9 = .ok (.if_icmp .ge 26, 3) := by decide +kernel
theorem dX3_paintOfStanding_12 : decode cX3_paintOfStanding 12 = .ok (.aload_n 0, 1) := by decide +kernel
theorem dX3_paintOfStanding_13 : decode cX3_paintOfStanding 13 = .ok (.iload_n 2, 1) := by decide +kernel
theorem dX3_paintOfStanding_14 : decode cX3_paintOfStanding 14 = .ok (.invokevirtual 47, 3) := by decide +kernel
theorem dX3_paintOfStanding_17 : decode cX3_paintOfStanding 17 = .ok (.ifCond .eq 12, 3) := by decide +kernel
theorem dX3_paintOfStanding_20 : decode cX3_paintOfStanding 20 = .ok (.iload_n 1, 1) := by decide +kernel
theorem dX3_paintOfStanding_21 : decode cX3_paintOfStanding 21 = .ok (.aload_n 0, 1) := by decide +kernel
theorem dX3_paintOfStanding_22 : decode cX3_paintOfStanding 22 = .ok (.getfield 41, 3) := by decide +kernel
theorem dX3_paintOfStanding_25 : decode cX3_paintOfStanding 25 = .ok (.iload_n 2, 1) := by decide +kernel
theorem dX3_paintOfStanding_26 : decode cX3_paintOfStanding 26 = .ok (.iaload, 1) := by decide +kernel
theorem dX3_paintOfStanding_27 : decode cX3_paintOfStanding 27 = .ok (.iadd, 1) := by decide +kernel
theorem dX3_paintOfStanding_28 : decode cX3_paintOfStanding 28 = .ok (.istore_n 1, 1) := by decide +kernel
theorem dX3_paintOfStanding_29 : decode cX3_paintOfStanding 29 = .ok (.iinc 2 1, 3) := by decide +kernel
theorem dX3_paintOfStanding_32 : decode cX3_paintOfStanding 32 = .ok (.goto (-28), 3) := by decide +kernel
theorem dX3_paintOfStanding_35 : decode cX3_paintOfStanding 35 = .ok (.iload_n 1, 1) := by decide +kernel
theorem dX3_paintOfStanding_36 : decode cX3_paintOfStanding 36 = .ok (.ireturn, 1) := by decide +kernel
theorem dX3_addPaint_0 : decode cX3_addPaint 0 = .ok (.aload_n 0, 1) := by decide +kernel
theorem dX3_addPaint_1 : decode cX3_addPaint 1 = .ok (.getfield 41, 3) := by decide +kernel
theorem dX3_addPaint_4 : decode cX3_addPaint 4 = .ok (.iload_n 1, 1) := by decide +kernel
theorem dX3_addPaint_5 : decode cX3_addPaint 5 = .ok (.bipush 9, 2) := by decide +kernel
theorem dX3_addPaint_7 : decode cX3_addPaint 7 = .ok (.aload_n 0, 1) := by decide +kernel
theorem dX3_addPaint_8 : decode cX3_addPaint 8 = .ok (.getfield 41, 3) := by decide +kernel
theorem dX3_addPaint_11 : decode cX3_addPaint 11 = .ok (.iload_n 1, 1) := by decide +kernel
theorem dX3_addPaint_12 : decode cX3_addPaint 12 = .ok (.iaload, 1) := by decide +kernel
theorem dX3_addPaint_13 : decode cX3_addPaint 13 = .ok (.iload_n 2, 1) := by decide +kernel
theorem dX3_addPaint_14 : decode cX3_addPaint 14 = .ok (.iadd, 1) := by decide +kernel
theorem dX3_addPaint_15 : decode cX3_addPaint 15 = .ok (.invokestatic 61, 3) := by decide +kernel
theorem dX3_addPaint_18 : decode cX3_addPaint 18 = .ok (.iastore, 1) := by decide +kernel
theorem dX3_addPaint_19 : decode cX3_addPaint 19 = .ok (.return_, 1) := by decide +kernel
theorem dX3_whoIsAt_0 : decode cX3_whoIsAt 0 = .ok (.iconst 0, 1) := by decide +kernel
theorem dX3_whoIsAt_1 : decode cX3_whoIsAt 1 = .ok (.istore_n 2, 1) := by decide +kernel
theorem dX3_whoIsAt_2 : decode cX3_whoIsAt 2 = .ok (.iload_n 2, 1) := by decide +kernel
theorem dX3_whoIsAt_3 : decode cX3_whoIsAt 3 = .ok (.aload_n 0, 1) := by decide +kernel
theorem dX3_whoIsAt_4 : decode cX3_whoIsAt 4 = .ok (.getfield 32, 3) := by decide +kernel
theorem dX3_whoIsAt_7 : decode cX3_whoIsAt 7 = .ok (.if_icmp .ge 21, 3) := by decide +kernel
theorem dX3_whoIsAt_10 : decode cX3_whoIsAt 10 = .ok (.aload_n 0, 1) := by decide +kernel
theorem dX3_whoIsAt_11 : decode cX3_whoIsAt 11 = .ok (.getfield 44, 3) := by decide +kernel
theorem dX3_whoIsAt_14 : decode cX3_whoIsAt 14 = .ok (.iload_n 2, 1) := by decide +kernel
theorem dX3_whoIsAt_15 : decode cX3_whoIsAt 15 = .ok (.iaload, 1) := by decide +kernel
theorem dX3_whoIsAt_16 : decode cX3_whoIsAt 16 = .ok (.iload_n 1, 1) := by decide +kernel
theorem dX3_whoIsAt_17 : decode cX3_whoIsAt 17 = .ok (.if_icmp .ne 5, 3) := by decide +kernel
theorem dX3_whoIsAt_20 : decode cX3_whoIsAt 20 = .ok (.iload_n 2, 1) := by decide +kernel
theorem dX3_whoIsAt_21 : decode cX3_whoIsAt 21 = .ok (.ireturn, 1) := by decide +kernel
theorem dX3_whoIsAt_22 : decode cX3_whoIsAt 22 = .ok (.iinc 2 1, 3) := by decide +kernel
theorem dX3_whoIsAt_25 : decode cX3_whoIsAt 25 = .ok (.goto (-23), 3) := by decide +kernel
theorem dX3_whoIsAt_28 : decode cX3_whoIsAt 28 = .ok (.bipush (-4), 2) := by decide +kernel
theorem dX3_whoIsAt_30 : decode cX3_whoIsAt 30 = .ok (.ireturn, 1) := by decide +kernel
theorem dX3_whoIsNextTo_0 : decode cX3_whoIsNextTo 0 = .ok (.iconst 0, 1) := by decide +kernel
theorem dX3_whoIsNextTo_1 : decode cX3_whoIsNextTo 1 = .ok (.istore_n 2, 1) := by decide +kernel
theorem dX3_whoIsNextTo_2 : decode cX3_whoIsNextTo 2 = .ok (.aload_n 0, 1) := by decide +kernel
theorem dX3_whoIsNextTo_3 : decode cX3_whoIsNextTo 3 = .ok (.iload_n 1, 1) := by decide +kernel
theorem dX3_whoIsNextTo_4 : decode cX3_whoIsNextTo 4 = .ok (.invokevirtual 47, 3) := by decide +kernel
theorem dX3_whoIsNextTo_7 : decode cX3_whoIsNextTo 7 = .ok (.ifCond .eq 53, 3) := by decide +kernel
theorem dX3_whoIsNextTo_10 : decode cX3_whoIsNextTo 10 = .ok (.iconst 0, 1) := by decide +kernel
theorem dX3_whoIsNextTo_11 : decode cX3_whoIsNextTo 11 = .ok (.istore_n 3, 1) := by decide +kernel
theorem dX3_whoIsNextTo_12 : decode cX3_whoIsNextTo 12 = .ok (.iload_n 3, 1) := by decide +kernel
theorem dX3_whoIsNextTo_13 : decode cX3_whoIsNextTo 13 = .ok (.aload_n 0, 1) := by decide +kernel
theorem dX3_whoIsNextTo_14 : decode cX3_whoIsNextTo 14 = .ok (.getfield 32, 3) := by decide +kernel
theorem dX3_whoIsNextTo_17 : decode cX3_whoIsNextTo 17 = .ok (.if_icmp .ge 43, 3) := by decide +kernel
theorem dX3_whoIsNextTo_20 : decode cX3_whoIsNextTo 20 = .ok (.aload_n 0, 1) := by decide +kernel
theorem dX3_whoIsNextTo_21 : decode cX3_whoIsNextTo 21 = .ok (.iload_n 3, 1) := by decide +kernel
theorem dX3_whoIsNextTo_22 : decode cX3_whoIsNextTo 22 = .ok (.invokevirtual 47, 3) := by decide +kernel
theorem dX3_whoIsNextTo_25 : decode cX3_whoIsNextTo 25 = .ok (.ifCond .eq 29, 3) := by decide +kernel
theorem dX3_whoIsNextTo_28 : decode cX3_whoIsNextTo 28 = .ok (.aload_n 0, 1) := by decide +kernel
theorem dX3_whoIsNextTo_29 : decode cX3_whoIsNextTo 29 = .ok (.getfield 44, 3) := by decide +kernel
theorem dX3_whoIsNextTo_32 : decode cX3_whoIsNextTo 32 = .ok (.iload_n 3, 1) := by decide +kernel
theorem dX3_whoIsNextTo_33 : decode cX3_whoIsNextTo 33 = .ok (.iaload, 1) := by decide +kernel
theorem dX3_whoIsNextTo_34 : decode cX3_whoIsNextTo 34 = .ok (.aload_n 0, 1) := by decide +kernel
theorem dX3_whoIsNextTo_35 : decode cX3_whoIsNextTo 35 = .ok (.getfield 44, 3) := by decide +kernel
theorem dX3_whoIsNextTo_38 : decode cX3_whoIsNextTo 38 = .ok (.iload_n 1, 1) := by decide +kernel
theorem dX3_whoIsNextTo_39 : decode cX3_whoIsNextTo 39 = .ok (.iaload, 1) := by decide +kernel
theorem dX3_whoIsNextTo_40 : decode cX3_whoIsNextTo 40 = .ok (.isub, 1) := by decide +kernel
theorem dX3_whoIsNextTo_41 : decode cX3_whoIsNextTo 41 = .ok (.invokestatic 67, 3) := by decide +kernel
theorem dX3_whoIsNextTo_44 : decode cX3_whoIsNextTo 44 = .ok (.iconst 1, 1) := by decide +kernel
theorem dX3_whoIsNextTo_45 : decode cX3_whoIsNextTo 45 = .ok (.if_icmp .ne 9, 3) := by decide +kernel
theorem dX3_whoIsNextTo_48 : decode cX3_whoIsNextTo 48 = .ok (.iload_n 2, 1) := by decide +kernel
theorem dX3_whoIsNextTo_49 : decode cX3_whoIsNextTo 49 = .ok (.iconst 1, 1) := by decide +kernel
theorem dX3_whoIsNextTo_50 : decode cX3_whoIsNextTo 50 = .ok (.iload_n 3, 1) := by decide +kernel
theorem dX3_whoIsNextTo_51 : decode cX3_whoIsNextTo 51 = .ok (.ishl, 1) := by decide +kernel
theorem dX3_whoIsNextTo_52 : decode cX3_whoIsNextTo 52 = .ok (.ior, 1) := by decide +kernel
theorem dX3_whoIsNextTo_53 : decode cX3_whoIsNextTo 53 = .ok (.istore_n 2, 1) := by decide +kernel
theorem dX3_whoIsNextTo_54 : decode cX3_whoIsNextTo 54 = .ok (.iinc 3 1, 3) := by decide +kernel
theorem dX3_whoIsNextTo_57 : decode cX3_whoIsNextTo 57 = .ok (.goto (-45), 3) := by decide +kernel
theorem dX3_whoIsNextTo_60 : decode cX3_whoIsNextTo 60 = .ok (.iload_n 2, 1) := by decide +kernel
theorem dX3_whoIsNextTo_61 : decode cX3_whoIsNextTo 61 = .ok (.ireturn, 1) := by decide +kernel
theorem dX3_heldBy_0 : decode cX3_heldBy 0 = .ok (.iconst 0, 1) := by decide +kernel
theorem dX3_heldBy_1 : decode cX3_heldBy 1 = .ok (.istore_n 3, 1) := by decide +kernel
theorem dX3_heldBy_2 : decode cX3_heldBy 2 = .ok (.iconst 0, 1) := by decide +kernel
theorem dX3_heldBy_3 : decode cX3_heldBy 3 = .ok (.istore 4, 2) := by decide +kernel
theorem dX3_heldBy_5 : decode cX3_heldBy 5 = .ok (.iload 4, 2) := by decide +kernel
theorem dX3_heldBy_7 : decode cX3_heldBy 7 = .ok (.aload_n 0, 1) := by decide +kernel
theorem dX3_heldBy_8 : decode cX3_heldBy 8 = .ok (.getfield 32, 3) := by decide +kernel
theorem dX3_heldBy_11 : decode cX3_heldBy 11 = .ok (.if_icmp .ge 49, 3) := by decide +kernel
theorem dX3_heldBy_14 : decode cX3_heldBy 14 = .ok (.iload_n 1, 1) := by decide +kernel
theorem dX3_heldBy_15 : decode cX3_heldBy 15 = .ok (.iload 4, 2) := by decide +kernel
theorem dX3_heldBy_17 : decode cX3_heldBy 17 = .ok (.ishr, 1) := by decide +kernel
theorem dX3_heldBy_18 : decode cX3_heldBy 18 = .ok (.iconst 1, 1) := by decide +kernel
theorem dX3_heldBy_19 : decode cX3_heldBy 19 = .ok (.iand, 1) := by decide +kernel
theorem dX3_heldBy_20 : decode cX3_heldBy 20 = .ok (.ifCond .eq 34, 3) := by decide +kernel
theorem dX3_heldBy_23 : decode cX3_heldBy 23 = .ok (.aload_n 0, 1) := by decide +kernel
theorem dX3_heldBy_24 : decode cX3_heldBy 24 = .ok (.iload 4, 2) := by decide +kernel
theorem dX3_heldBy_26 : decode cX3_heldBy 26 = .ok (.invokevirtual 47, 3) := by decide +kernel
theorem dX3_heldBy_29 : decode cX3_heldBy 29 = .ok (.ifCond .eq 25, 3) := by decide +kernel
theorem dX3_heldBy_32 : decode cX3_heldBy 32 = .ok (.iload_n 3, 1) := by decide +kernel
theorem dX3_heldBy_33 : decode cX3_heldBy 33 = .ok (.iconst 1, 1) := by decide +kernel
theorem dX3_heldBy_34 : decode cX3_heldBy 34 = .ok (.iconst 2, 1) := by decide +kernel
theorem dX3_heldBy_35 : decode cX3_heldBy 35 = .ok (.iload_n 2, 1) := by decide +kernel
theorem dX3_heldBy_36 : decode cX3_heldBy 36 = .ok (.imul, 1) := by decide +kernel
theorem dX3_heldBy_37 : decode cX3_heldBy 37 = .ok (.iconst 1, 1) := by decide +kernel
theorem dX3_heldBy_38 : decode cX3_heldBy 38 = .ok (.iadd, 1) := by decide +kernel
theorem dX3_heldBy_39 : decode cX3_heldBy 39 = .ok (.ishl, 1) := by decide +kernel
theorem dX3_heldBy_40 : decode cX3_heldBy 40 = .ok (.iconst 1, 1) := by decide +kernel
theorem dX3_heldBy_41 : decode cX3_heldBy 41 = .ok (.isub, 1) := by decide +kernel
theorem dX3_heldBy_42 : decode cX3_heldBy 42 = .ok (.aload_n 0, 1) := by decide +kernel
theorem dX3_heldBy_43 : decode cX3_heldBy 43 = .ok (.getfield 44, 3) := by decide +kernel
theorem dX3_heldBy_46 : decode cX3_heldBy 46 = .ok (.iload 4, 2) := by decide +kernel
theorem dX3_heldBy_48 : decode cX3_heldBy 48 = .ok (.iaload, 1) := by decide +kernel
theorem dX3_heldBy_49 : decode cX3_heldBy 49 = .ok (.ishl, 1) := by decide +kernel
theorem dX3_heldBy_50 : decode cX3_heldBy 50 = .ok (.iload_n 2, 1) := by decide +kernel
theorem dX3_heldBy_51 : decode cX3_heldBy 51 = .ok (.ishr, 1) := by decide +kernel
theorem dX3_heldBy_52 : decode cX3_heldBy 52 = .ok (.ior, 1) := by decide +kernel
theorem dX3_heldBy_53 : decode cX3_heldBy 53 = .ok (.istore_n 3, 1) := by decide +kernel
theorem dX3_heldBy_54 : decode cX3_heldBy 54 = .ok (.iinc 4 1, 3) := by decide +kernel
theorem dX3_heldBy_57 : decode cX3_heldBy 57 = .ok (.goto (-52), 3) := by decide +kernel
theorem dX3_heldBy_60 : decode cX3_heldBy 60 = .ok (.iload_n 3, 1) := by decide +kernel
theorem dX3_heldBy_61 : decode cX3_heldBy 61 = .ok (.sipush 4095, 3) := by decide +kernel
theorem dX3_heldBy_64 : decode cX3_heldBy 64 = .ok (.iand, 1) := by decide +kernel
theorem dX3_heldBy_65 : decode cX3_heldBy 65 = .ok (.ireturn, 1) := by decide +kernel
theorem dX3_crestBehind_0 : decode cX3_crestBehind 0 = .ok (.aload_n 0, 1) := by decide +kernel
theorem dX3_crestBehind_1 : decode cX3_crestBehind 1 = .ok (.getfield 35, 3) := by decide +kernel
theorem dX3_crestBehind_4 : decode cX3_crestBehind 4 = .ok (.aload_n 0, 1) := by decide +kernel
theorem dX3_crestBehind_5 : decode cX3_crestBehind 5 = .ok (.getfield 38, 3) := by decide +kernel
theorem dX3_crestBehind_8 : decode cX3_crestBehind 8 = .ok (.iload_n 1, 1) := by decide +kernel
theorem dX3_crestBehind_9 : decode cX3_crestBehind 9 = .ok (.iadd, 1) := by decide +kernel
theorem dX3_crestBehind_10 : decode cX3_crestBehind 10 = .ok (.aload_n 0, 1) := by decide +kernel
theorem dX3_crestBehind_11 : decode cX3_crestBehind 11 = .ok (.getfield 15, 3) := by decide +kernel
theorem dX3_crestBehind_14 : decode cX3_crestBehind 14 = .ok (.imul, 1) := by decide +kernel
theorem dX3_crestBehind_15 : decode cX3_crestBehind 15 = .ok (.iadd, 1) := by decide +kernel
theorem dX3_crestBehind_16 : decode cX3_crestBehind 16 = .ok (.bipush 12, 2) := by decide +kernel
theorem dX3_crestBehind_18 : decode cX3_crestBehind 18 = .ok (.irem, 1) := by decide +kernel
theorem dX3_crestBehind_19 : decode cX3_crestBehind 19 = .ok (.ireturn, 1) := by decide +kernel
theorem dX3_highAt_0 : decode cX3_highAt 0 = .ok (.iconst 0, 1) := by decide +kernel
theorem dX3_highAt_1 : decode cX3_highAt 1 = .ok (.aload_n 0, 1) := by decide +kernel
theorem dX3_highAt_2 : decode cX3_highAt 2 = .ok (.getfield 19, 3) := by decide +kernel
theorem dX3_highAt_5 : decode cX3_highAt 5 = .ok (.iload_n 1, 1) := by decide +kernel
theorem dX3_highAt_6 : decode cX3_highAt 6 = .ok (.iload_n 2, 1) := by decide +kernel
theorem dX3_highAt_7 : decode cX3_highAt 7 = .ok (.isub, 1) := by decide +kernel
theorem dX3_highAt_8 : decode cX3_highAt 8 = .ok (.invokestatic 67, 3) := by decide +kernel
theorem dX3_highAt_11 : decode cX3_highAt 11 = .ok (.isub, 1) := by decide +kernel
theorem dX3_highAt_12 : decode cX3_highAt 12 = .ok (.invokestatic 70, 3) := by decide +kernel
theorem dX3_highAt_15 : decode cX3_highAt 15 = .ok (.ireturn, 1) := by decide +kernel
theorem dX3_gripOf_0 : decode cX3_gripOf 0 = .ok (.aload_n 0, 1) := by decide +kernel
theorem dX3_gripOf_1 : decode cX3_gripOf 1 = .ok (.getfield 41, 3) := by decide +kernel
theorem dX3_gripOf_4 : decode cX3_gripOf 4 = .ok (.iload_n 1, 1) := by decide +kernel
theorem dX3_gripOf_5 : decode cX3_gripOf 5 = .ok (.iaload, 1) := by decide +kernel
theorem dX3_gripOf_6 : decode cX3_gripOf 6 = .ok (.iconst 2, 1) := by decide +kernel
theorem dX3_gripOf_7 : decode cX3_gripOf 7 = .ok (.iadd, 1) := by decide +kernel
theorem dX3_gripOf_8 : decode cX3_gripOf 8 = .ok (.istore_n 3, 1) := by decide +kernel
theorem dX3_gripOf_9 : decode cX3_gripOf 9 = .ok (.iconst 1, 1) := by decide +kernel
theorem dX3_gripOf_10 : decode cX3_gripOf 10 = .ok (.aload_n 0, 1) := by decide +kernel
theorem dX3_gripOf_11 : decode cX3_gripOf 11 = .ok (.getfield 44, 3) := by decide +kernel
theorem dX3_gripOf_14 : decode cX3_gripOf 14 = .ok (.iload_n 1, 1) := by decide +kernel
theorem dX3_gripOf_15 : decode cX3_gripOf 15 = .ok (.iaload, 1) := by decide +kernel
theorem dX3_gripOf_16 : decode cX3_gripOf 16 = .ok (.ishl, 1) := by decide +kernel
theorem dX3_gripOf_17 : decode cX3_gripOf 17 = .ok (.istore 4, 2) := by decide +kernel
theorem dX3_gripOf_19 : decode cX3_gripOf 19 = .ok (.iload_n 2, 1) := by decide +kernel
theorem dX3_gripOf_20 : decode cX3_gripOf 20 = .ok (.iload 4, 2) := by decide +kernel
theorem dX3_gripOf_22 : decode cX3_gripOf 22 = .ok (.iconst 1, 1) := by decide +kernel
theorem dX3_gripOf_23 : decode cX3_gripOf 23 = .ok (.ishl, 1) := by decide +kernel
theorem dX3_gripOf_24 : decode cX3_gripOf 24 = .ok (.iload 4, 2) := by decide +kernel
theorem dX3_gripOf_26 : decode cX3_gripOf 26 = .ok (.iconst 1, 1) := by decide +kernel
theorem dX3_gripOf_27 : decode cX3_gripOf 27 = .ok (.ishr, 1) := by decide +kernel
theorem dX3_gripOf_28 : decode cX3_gripOf 28 = .ok (.ior, 1) := by decide +kernel
theorem dX3_gripOf_29 : decode cX3_gripOf 29 = .ok (.iand, 1) := by decide +kernel
theorem dX3_gripOf_30 : decode cX3_gripOf 30 = .ok (.invokestatic 55, 3) := by decide +kernel
theorem dX3_gripOf_33 : decode cX3_gripOf 33 = .ok (.istore 5, 2) := by decide +kernel
theorem dX3_gripOf_35 : decode cX3_gripOf 35 = .ok (.aload_n 0, 1) := by decide +kernel
theorem dX3_gripOf_36 : decode cX3_gripOf 36 = .ok (.getfield 9, 3) := by decide +kernel
theorem dX3_gripOf_39 : decode cX3_gripOf 39 = .ok (.iload_n 1, 1) := by decide +kernel
theorem dX3_gripOf_40 : decode cX3_gripOf 40 = .ok (.iaload, 1) := by decide +kernel
theorem dX3_gripOf_41 : decode cX3_gripOf 41 = .ok (.tableswitch 68 1 4 #[31, 35, 40, 53], 31) := by decide +kernel
theorem dX3_gripOf_72 : decode cX3_gripOf 72 = .ok (.iload_n 3, 1) := by decide +kernel
theorem dX3_gripOf_73 : decode cX3_gripOf 73 = .ok (.iconst 2, 1) := by decide +kernel
theorem dX3_gripOf_74 : decode cX3_gripOf 74 = .ok (.idiv, 1) := by decide +kernel
theorem dX3_gripOf_75 : decode cX3_gripOf 75 = .ok (.ireturn, 1) := by decide +kernel
theorem dX3_gripOf_76 : decode cX3_gripOf 76 = .ok (.iload_n 3, 1) := by decide +kernel
theorem dX3_gripOf_77 : decode cX3_gripOf 77 = .ok (.iload 5, 2) := by decide +kernel
theorem dX3_gripOf_79 : decode cX3_gripOf 79 = .ok (.iadd, 1) := by decide +kernel
theorem dX3_gripOf_80 : decode cX3_gripOf 80 = .ok (.ireturn, 1) := by decide +kernel
theorem dX3_gripOf_81 : decode cX3_gripOf 81 = .ok (.iload_n 3, 1) := by decide +kernel
theorem dX3_gripOf_82 : decode cX3_gripOf 82 = .ok (.iconst 2, 1) := by decide +kernel
theorem dX3_gripOf_83 : decode cX3_gripOf 83 = .ok (.idiv, 1) := by decide +kernel
theorem dX3_gripOf_84 : decode cX3_gripOf 84 = .ok (.aload_n 0, 1) := by decide +kernel
theorem dX3_gripOf_85 : decode cX3_gripOf 85 = .ok (.getfield 38, 3) := by decide +kernel
theorem dX3_gripOf_88 : decode cX3_gripOf 88 = .ok (.iconst 2, 1) := by decide +kernel
theorem dX3_gripOf_89 : decode cX3_gripOf 89 = .ok (.irem, 1) := by decide +kernel
theorem dX3_gripOf_90 : decode cX3_gripOf 90 = .ok (.iconst 3, 1) := by decide +kernel
theorem dX3_gripOf_91 : decode cX3_gripOf 91 = .ok (.imul, 1) := by decide +kernel
theorem dX3_gripOf_92 : decode cX3_gripOf 92 = .ok (.iadd, 1) := by decide +kernel
theorem dX3_gripOf_93 : decode cX3_gripOf 93 = .ok (.ireturn, 1) := by decide +kernel
theorem dX3_gripOf_94 : decode cX3_gripOf 94 = .ok (.iload_n 3, 1) := by decide +kernel
theorem dX3_gripOf_95 : decode cX3_gripOf 95 = .ok (.iload 5, 2) := by decide +kernel
theorem dX3_gripOf_97 : decode cX3_gripOf 97 = .ok (.iadd, 1) := by decide +kernel
theorem dX3_gripOf_98 : decode cX3_gripOf 98 = .ok (.aload_n 0, 1) := by decide +kernel
theorem dX3_gripOf_99 : decode cX3_gripOf 99 = .ok (.getfield 32, 3) := by decide +kernel
theorem dX3_gripOf_102 : decode cX3_gripOf 102 = .ok (.iadd, 1) := by decide +kernel
theorem dX3_gripOf_103 : decode cX3_gripOf 103 = .ok (.iload_n 2, 1) := by decide +kernel
theorem dX3_gripOf_104 : decode cX3_gripOf 104 = .ok (.invokestatic 55, 3) := by decide +kernel
theorem dX3_gripOf_107 : decode cX3_gripOf 107 = .ok (.isub, 1) := by decide +kernel
theorem dX3_gripOf_108 : decode cX3_gripOf 108 = .ok (.ireturn, 1) := by decide +kernel
theorem dX3_gripOf_109 : decode cX3_gripOf 109 = .ok (.iload_n 3, 1) := by decide +kernel
theorem dX3_gripOf_110 : decode cX3_gripOf 110 = .ok (.ireturn, 1) := by decide +kernel
theorem dX3_passNightBy_0 : decode cX3_passNightBy 0 = .ok (.aload_n 0, 1) := by decide +kernel
theorem dX3_passNightBy_1 : decode cX3_passNightBy 1 = .ok (.iconst 0, 1) := by decide +kernel
theorem dX3_passNightBy_2 : decode cX3_passNightBy 2 = .ok (.invokevirtual 73, 3) := by decide +kernel
theorem dX3_passNightBy_5 : decode cX3_passNightBy 5 = .ok (.istore_n 2, 1) := by decide +kernel
theorem dX3_passNightBy_6 : decode cX3_passNightBy 6 = .ok (.iload_n 1, 1) := by decide +kernel
theorem dX3_passNightBy_7 : decode cX3_passNightBy 7 = .ok (.istore_n 3, 1) := by decide +kernel
theorem dX3_passNightBy_8 : decode cX3_passNightBy 8 = .ok (.iconst 0, 1) := by decide +kernel
theorem dX3_passNightBy_9 : decode cX3_passNightBy 9 = .ok (.istore 4, 2) := by decide +kernel
theorem dX3_passNightBy_11 : decode cX3_passNightBy 11 = .ok (.iload 4, 2) := by decide +kernel
theorem dX3_passNightBy_13 : decode cX3_passNightBy 13 = .ok (.aload_n 0, 1) := by decide +kernel
theorem dX3_passNightBy_14 : decode cX3_passNightBy 14 = .ok (.getfield 32, 3) := by decide +kernel
theorem dX3_passNightBy_17 : decode cX3_passNightBy 17 = .ok (.if_icmp .ge 93, 3) := by decide +kernel
theorem dX3_passNightBy_20 : decode cX3_passNightBy 20 = .ok (.aload_n 0, 1) := by decide +kernel
theorem dX3_passNightBy_21 : decode cX3_passNightBy 21 = .ok (.getfield 44, 3) := by decide +kernel
theorem dX3_passNightBy_24 : decode cX3_passNightBy 24 = .ok (.iload 4, 2) := by decide +kernel
theorem dX3_passNightBy_26 : decode cX3_passNightBy 26 = .ok (.iaload, 1) := by decide +kernel
theorem dX3_passNightBy_27 : decode cX3_passNightBy 27 = .ok (.istore 5, 2) := by decide +kernel
theorem dX3_passNightBy_29 : decode cX3_passNightBy 29 = .ok (.iload 5, 2) := by decide +kernel
theorem dX3_passNightBy_31 : decode cX3_passNightBy 31 = .ok (.iconst (-1), 1) := by decide +kernel
theorem dX3_passNightBy_32 : decode cX3_passNightBy 32 = .ok (.if_icmp .ne 7, 3) := by decide +kernel
theorem dX3_passNightBy_35 : decode cX3_passNightBy 35 = .ok (.iconst 0, 1) := by decide +kernel
theorem dX3_passNightBy_36 : decode cX3_passNightBy 36 = .ok (.goto 10, 3) := by decide +kernel
theorem dX3_passNightBy_39 : decode cX3_passNightBy 39 = .ok (.aload_n 0, 1) := by decide +kernel
theorem dX3_passNightBy_40 : decode cX3_passNightBy 40 = .ok (.iload 5, 2) := by decide +kernel
theorem dX3_passNightBy_42 : decode cX3_passNightBy 42 = .ok (.iload_n 2, 1) := by decide +kernel
theorem dX3_passNightBy_43 : decode cX3_passNightBy 43 = .ok (.invokevirtual 76, 3) := by decide +kernel
theorem dX3_passNightBy_46 : decode cX3_passNightBy 46 = .ok (.istore 6, 2) := by decide +kernel
theorem dX3_passNightBy_48 : decode cX3_passNightBy 48 = .ok (.iload 6, 2) := by decide +kernel
theorem dX3_passNightBy_50 : decode cX3_passNightBy 50 = .ok (.ifCond .le 54, 3) := by decide +kernel
theorem dX3_passNightBy_53 : decode cX3_passNightBy 53 = .ok (.aload_n 0, 1) := by decide +kernel
theorem dX3_passNightBy_54 : decode cX3_passNightBy 54 = .ok (.iload 4, 2) := by decide +kernel
theorem dX3_passNightBy_56 : decode cX3_passNightBy 56 = .ok (.iload_n 1, 1) := by decide +kernel
theorem dX3_passNightBy_57 : decode cX3_passNightBy 57 = .ok (.invokevirtual 79, 3) := by decide +kernel
theorem dX3_passNightBy_60 : decode cX3_passNightBy 60 = .ok (.iload 6, 2) := by decide +kernel
theorem dX3_passNightBy_62 : decode cX3_passNightBy 62 = .ok (.if_icmp .ge 21, 3) := by decide +kernel
theorem dX3_passNightBy_65 : decode cX3_passNightBy 65 = .ok (.aload_n 0, 1) := by decide +kernel
theorem dX3_passNightBy_66 : decode cX3_passNightBy 66 = .ok (.getfield 44, 3) := by decide +kernel
theorem dX3_passNightBy_69 : decode cX3_passNightBy 69 = .ok (.iload 4, 2) := by decide +kernel
theorem dX3_passNightBy_71 : decode cX3_passNightBy 71 = .ok (.iconst (-1), 1) := by decide +kernel
theorem dX3_passNightBy_72 : decode cX3_passNightBy 72 = .ok (.iastore, 1) := by decide +kernel
theorem dX3_passNightBy_73 : decode cX3_passNightBy 73 = .ok (.iload_n 3, 1) := by decide +kernel
theorem dX3_passNightBy_74 : decode cX3_passNightBy 74 = .ok (.iconst 1, 1) := by decide +kernel
theorem dX3_passNightBy_75 : decode cX3_passNightBy 75 = .ok (.iload 5, 2) := by decide +kernel
theorem dX3_passNightBy_77 : decode cX3_passNightBy 77 = .ok (.ishl, 1) := by decide +kernel
theorem dX3_passNightBy_78 : decode cX3_passNightBy 78 = .ok (.ixor, 1) := by decide +kernel
theorem dX3_passNightBy_79 : decode cX3_passNightBy 79 = .ok (.istore_n 3, 1) := by decide +kernel
theorem dX3_passNightBy_80 : decode cX3_passNightBy 80 = .ok (.goto 24, 3) := by decide +kernel
theorem dX3_passNightBy_83 : decode cX3_passNightBy 83 = .ok (.aload_n 0, 1) := by decide +kernel
theorem dX3_passNightBy_84 : decode cX3_passNightBy 84 = .ok (.getfield 41, 3) := by decide +kernel
theorem dX3_passNightBy_87 : decode cX3_passNightBy 87 = .ok (.iload 4, 2) := by decide +kernel
theorem dX3_passNightBy_89 : decode cX3_passNightBy 89 = .ok (.iaload, 1) := by decide +kernel
theorem dX3_passNightBy_90 : decode cX3_passNightBy 90 = .ok (.ifCond .le 14, 3) := by decide +kernel
theorem dX3_passNightBy_93 : decode cX3_passNightBy 93 = .ok (.aload_n 0, 1) := by decide +kernel
theorem dX3_passNightBy_94 : decode cX3_passNightBy 94 = .ok (.getfield 41, 3) := by decide +kernel
theorem dX3_passNightBy_97 : decode cX3_passNightBy 97 = .ok (.iload 4, 2) := by decide +kernel
theorem dX3_passNightBy_99 : decode cX3_passNightBy 99 = .ok (.dup2, 1) := by decide +kernel
theorem dX3_passNightBy_100 : decode cX3_passNightBy 100 = .ok (.iaload, 1) := by decide +kernel
theorem dX3_passNightBy_101 : decode cX3_passNightBy 101 = .ok (.iconst 1, 1) := by decide +kernel
theorem dX3_passNightBy_102 : decode cX3_passNightBy 102 = .ok (.isub, 1) := by decide +kernel
theorem dX3_passNightBy_103 : decode cX3_passNightBy 103 = .ok (.iastore, 1) := by decide +kernel
theorem dX3_passNightBy_104 : decode cX3_passNightBy 104 = .ok (.iinc 4 1, 3) := by decide +kernel
theorem dX3_passNightBy_107 : decode cX3_passNightBy 107 = .ok (.goto (-96), 3) := by decide +kernel
theorem dX3_passNightBy_110 : decode cX3_passNightBy 110 = .ok (.aload_n 0, 1) := by decide +kernel
theorem dX3_passNightBy_111 : decode cX3_passNightBy 111 = .ok (.dup, 1) := by decide +kernel
theorem dX3_passNightBy_112 : decode cX3_passNightBy 112 = .ok (.getfield 38, 3) := by decide +kernel
theorem dX3_passNightBy_115 : decode cX3_passNightBy 115 = .ok (.iconst 1, 1) := by decide +kernel
theorem dX3_passNightBy_116 : decode cX3_passNightBy 116 = .ok (.iadd, 1) := by decide +kernel
theorem dX3_passNightBy_117 : decode cX3_passNightBy 117 = .ok (.putfield 38, 3) := by decide +kernel
theorem dX3_passNightBy_120 : decode cX3_passNightBy 120 = .ok (.iload_n 3, 1) := by decide +kernel
theorem dX3_passNightBy_121 : decode cX3_passNightBy 121 = .ok (.ireturn, 1) := by decide +kernel
theorem dX3_passNight_0 : decode cX3_passNight 0 = .ok (.aload_n 0, 1) := by decide +kernel
theorem dX3_passNight_1 : decode cX3_passNight 1 = .ok (.aload_n 0, 1) := by decide +kernel
theorem dX3_passNight_2 : decode cX3_passNight 2 = .ok (.invokevirtual 51, 3) := by decide +kernel
theorem dX3_passNight_5 : decode cX3_passNight 5 = .ok (.invokevirtual 82, 3) := by decide +kernel
theorem dX3_passNight_8 : decode cX3_passNight 8 = .ok (.pop, 1) := by decide +kernel
theorem dX3_passNight_9 : decode cX3_passNight 9 = .ok (.return_, 1) := by decide +kernel
theorem dX3_passSome_0 : decode cX3_passSome 0 = .ok (.aload_n 0, 1) := by decide +kernel
theorem dX3_passSome_1 : decode cX3_passSome 1 = .ok (.iload_n 1, 1) := by decide +kernel
theorem dX3_passSome_2 : decode cX3_passSome 2 = .ok (.iconst 0, 1) := by decide +kernel
theorem dX3_passSome_3 : decode cX3_passSome 3 = .ok (.invokevirtual 85, 3) := by decide +kernel
theorem dX3_passSome_6 : decode cX3_passSome 6 = .ok (.pop, 1) := by decide +kernel
theorem dX3_passSome_7 : decode cX3_passSome 7 = .ok (.return_, 1) := by decide +kernel
theorem dX3_passWhile_0 : decode cX3_passWhile 0 = .ok (.aload_n 0, 1) := by decide +kernel
theorem dX3_passWhile_1 : decode cX3_passWhile 1 = .ok (.invokevirtual 51, 3) := by decide +kernel
theorem dX3_passWhile_4 : decode cX3_passWhile 4 = .ok (.istore_n 3, 1) := by decide +kernel
theorem dX3_passWhile_5 : decode cX3_passWhile 5 = .ok (.iload_n 3, 1) := by decide +kernel
theorem dX3_passWhile_6 : decode cX3_passWhile 6 = .ok (.invokestatic 55, 3) := by decide +kernel
theorem dX3_passWhile_9 : decode cX3_passWhile 9 = .ok (.istore 4, 2) := by decide +kernel
theorem dX3_passWhile_11 : decode cX3_passWhile 11 = .ok (.iconst 0, 1) := by decide +kernel
theorem dX3_passWhile_12 : decode cX3_passWhile 12 = .ok (.istore 5, 2) := by decide +kernel
theorem dX3_passWhile_14 : decode cX3_passWhile 14 = .ok (.iload 5, 2) := by decide +kernel
theorem dX3_passWhile_16 : decode cX3_passWhile 16 = .ok (.iload_n 1, 1) := by decide +kernel
theorem dX3_passWhile_17 : decode cX3_passWhile 17 = .ok (.if_icmp .ge 27, 3) := by decide +kernel
theorem dX3_passWhile_20 : decode cX3_passWhile 20 = .ok (.iload 4, 2) := by decide +kernel
theorem dX3_passWhile_22 : decode cX3_passWhile 22 = .ok (.iload_n 2, 1) := by decide +kernel
theorem dX3_passWhile_23 : decode cX3_passWhile 23 = .ok (.if_icmp .lt 21, 3) := by decide +kernel
theorem dX3_passWhile_26 : decode cX3_passWhile 26 = .ok (.aload_n 0, 1) := by decide +kernel
theorem dX3_passWhile_27 : decode cX3_passWhile 27 = .ok (.iload_n 3, 1) := by decide +kernel
theorem dX3_passWhile_28 : decode cX3_passWhile 28 = .ok (.invokevirtual 82, 3) := by decide +kernel
theorem dX3_passWhile_31 : decode cX3_passWhile 31 = .ok (.istore_n 3, 1) := by decide +kernel
theorem dX3_passWhile_32 : decode cX3_passWhile 32 = .ok (.iload_n 3, 1) := by decide +kernel
theorem dX3_passWhile_33 : decode cX3_passWhile 33 = .ok (.invokestatic 55, 3) := by decide +kernel
theorem dX3_passWhile_36 : decode cX3_passWhile 36 = .ok (.istore 4, 2) := by decide +kernel
theorem dX3_passWhile_38 : decode cX3_passWhile 38 = .ok (.iinc 5 1, 3) := by decide +kernel
theorem dX3_passWhile_41 : decode cX3_passWhile 41 = .ok (.goto (-27), 3) := by decide +kernel
theorem dX3_passWhile_44 : decode cX3_passWhile 44 = .ok (.iload 4, 2) := by decide +kernel
theorem dX3_passWhile_46 : decode cX3_passWhile 46 = .ok (.ireturn, 1) := by decide +kernel
theorem dX3_marchByDraw_0 : decode cX3_marchByDraw 0 = .ok (.aload_n 0, 1) := by decide +kernel
theorem dX3_marchByDraw_1 : decode cX3_marchByDraw 1 = .ok (.aload_n 0, 1) := by decide +kernel
theorem dX3_marchByDraw_2 : decode cX3_marchByDraw 2 = .ok (.getfield 88, 3) := by decide +kernel
theorem dX3_marchByDraw_5 : decode cX3_marchByDraw 5 = .ok (.ldc 91, 2) := by decide +kernel
theorem dX3_marchByDraw_7 : decode cX3_marchByDraw 7 = .ok (.imul, 1) := by decide +kernel
theorem dX3_marchByDraw_8 : decode cX3_marchByDraw 8 = .ok (.sipush 12345, 3) := by decide +kernel
theorem dX3_marchByDraw_11 : decode cX3_marchByDraw 11 = .ok (.iadd, 1) := by decide +kernel
theorem dX3_marchByDraw_12 : decode cX3_marchByDraw 12 = .ok (.ldc 92, 2) := by decide +kernel
theorem dX3_marchByDraw_14 : decode cX3_marchByDraw 14 = .ok (.iand, 1) := by decide +kernel
theorem dX3_marchByDraw_15 : decode cX3_marchByDraw 15 = .ok (.putfield 88, 3) := by decide +kernel
theorem dX3_marchByDraw_18 : decode cX3_marchByDraw 18 = .ok (.aload_n 0, 1) := by decide +kernel
theorem dX3_marchByDraw_19 : decode cX3_marchByDraw 19 = .ok (.getfield 32, 3) := by decide +kernel
theorem dX3_marchByDraw_22 : decode cX3_marchByDraw 22 = .ok (.ifCond .le 53, 3) := by decide +kernel
theorem dX3_marchByDraw_25 : decode cX3_marchByDraw 25 = .ok (.aload_n 0, 1) := by decide +kernel
theorem dX3_marchByDraw_26 : decode cX3_marchByDraw 26 = .ok (.getfield 88, 3) := by decide +kernel
theorem dX3_marchByDraw_29 : decode cX3_marchByDraw 29 = .ok (.ldc 93, 2) := by decide +kernel
theorem dX3_marchByDraw_31 : decode cX3_marchByDraw 31 = .ok (.idiv, 1) := by decide +kernel
theorem dX3_marchByDraw_32 : decode cX3_marchByDraw 32 = .ok (.aload_n 0, 1) := by decide +kernel
theorem dX3_marchByDraw_33 : decode cX3_marchByDraw 33 = .ok (.getfield 32, 3) := by decide +kernel
theorem dX3_marchByDraw_36 : decode cX3_marchByDraw 36 = .ok (.irem, 1) := by decide +kernel
theorem dX3_marchByDraw_37 : decode cX3_marchByDraw 37 = .ok (.istore_n 1, 1) := by decide +kernel
theorem dX3_marchByDraw_38 : decode cX3_marchByDraw 38 = .ok (.aload_n 0, 1) := by decide +kernel
theorem dX3_marchByDraw_39 : decode cX3_marchByDraw 39 = .ok (.getfield 88, 3) := by decide +kernel
theorem dX3_marchByDraw_42 : decode cX3_marchByDraw 42 = .ok (.sipush 128, 3) := by decide +kernel
theorem dX3_marchByDraw_45 : decode cX3_marchByDraw 45 = .ok (.idiv, 1) := by decide +kernel
theorem dX3_marchByDraw_46 : decode cX3_marchByDraw 46 = .ok (.bipush 12, 2) := by decide +kernel
theorem dX3_marchByDraw_48 : decode cX3_marchByDraw 48 = .ok (.irem, 1) := by decide +kernel
theorem dX3_marchByDraw_49 : decode cX3_marchByDraw 49 = .ok (.istore_n 2, 1) := by decide +kernel
theorem dX3_marchByDraw_50 : decode cX3_marchByDraw 50 = .ok (.aload_n 0, 1) := by decide +kernel
theorem dX3_marchByDraw_51 : decode cX3_marchByDraw 51 = .ok (.iload_n 1, 1) := by decide +kernel
theorem dX3_marchByDraw_52 : decode cX3_marchByDraw 52 = .ok (.invokevirtual 47, 3) := by decide +kernel
theorem dX3_marchByDraw_55 : decode cX3_marchByDraw 55 = .ok (.ifCond .eq 20, 3) := by decide +kernel
theorem dX3_marchByDraw_58 : decode cX3_marchByDraw 58 = .ok (.aload_n 0, 1) := by decide +kernel
theorem dX3_marchByDraw_59 : decode cX3_marchByDraw 59 = .ok (.iload_n 2, 1) := by decide +kernel
theorem dX3_marchByDraw_60 : decode cX3_marchByDraw 60 = .ok (.invokevirtual 94, 3) := by decide +kernel
theorem dX3_marchByDraw_63 : decode cX3_marchByDraw 63 = .ok (.bipush (-4), 2) := by decide +kernel
theorem dX3_marchByDraw_65 : decode cX3_marchByDraw 65 = .ok (.if_icmp .ne 10, 3) := by decide +kernel
theorem dX3_marchByDraw_68 : decode cX3_marchByDraw 68 = .ok (.aload_n 0, 1) := by decide +kernel
theorem dX3_marchByDraw_69 : decode cX3_marchByDraw 69 = .ok (.getfield 44, 3) := by decide +kernel
theorem dX3_marchByDraw_72 : decode cX3_marchByDraw 72 = .ok (.iload_n 1, 1) := by decide +kernel
theorem dX3_marchByDraw_73 : decode cX3_marchByDraw 73 = .ok (.iload_n 2, 1) := by decide +kernel
theorem dX3_marchByDraw_74 : decode cX3_marchByDraw 74 = .ok (.iastore, 1) := by decide +kernel
theorem dX3_marchByDraw_75 : decode cX3_marchByDraw 75 = .ok (.return_, 1) := by decide +kernel
theorem dX9_goesTo_0 : decode cX9_goesTo 0 = .ok (.aload_n 0, 1) := by decide +kernel
theorem dX9_goesTo_1 : decode cX9_goesTo 1 = .ok (.getfield 7, 3) := by decide +kernel
theorem dX9_goesTo_4 : decode cX9_goesTo 4 = .ok (.bipush 6, 2) := by decide +kernel
theorem dX9_goesTo_6 : decode cX9_goesTo 6 = .ok (.iconst 3, 1) := by decide +kernel
theorem dX9_goesTo_7 : decode cX9_goesTo 7 = .ok (.iload_n 1, 1) := by decide +kernel
theorem dX9_goesTo_8 : decode cX9_goesTo 8 = .ok (.imul, 1) := by decide +kernel
theorem dX9_goesTo_9 : decode cX9_goesTo 9 = .ok (.iadd, 1) := by decide +kernel
theorem dX9_goesTo_10 : decode cX9_goesTo 10 = .ok (.iconst 2, 1) := by decide +kernel
theorem dX9_goesTo_11 : decode cX9_goesTo 11 = .ok (.iadd, 1) := by decide +kernel
theorem dX9_goesTo_12 : decode cX9_goesTo 12 = .ok (.iload_n 2, 1) := by decide +kernel
theorem dX9_goesTo_13 : decode cX9_goesTo 13 = .ok (.iastore, 1) := by decide +kernel
theorem dX9_goesTo_14 : decode cX9_goesTo 14 = .ok (.return_, 1) := by decide +kernel
theorem dX9_grip_0 : decode cX9_grip 0 = .ok (.aload_n 0, 1) := by decide +kernel
theorem dX9_grip_1 : decode cX9_grip 1 = .ok (.iload_n 1, 1) := by decide +kernel
theorem dX9_grip_2 : decode cX9_grip 2 = .ok (.invokevirtual 73, 3) := by decide +kernel
theorem dX9_grip_5 : decode cX9_grip 5 = .ok (.iconst 2, 1) := by decide +kernel
theorem dX9_grip_6 : decode cX9_grip 6 = .ok (.iadd, 1) := by decide +kernel
theorem dX9_grip_7 : decode cX9_grip 7 = .ok (.istore_n 2, 1) := by decide +kernel
theorem dX9_grip_8 : decode cX9_grip 8 = .ok (.iload_n 2, 1) := by decide +kernel
theorem dX9_grip_9 : decode cX9_grip 9 = .ok (.aload_n 0, 1) := by decide +kernel
theorem dX9_grip_10 : decode cX9_grip 10 = .ok (.iload_n 1, 1) := by decide +kernel
theorem dX9_grip_11 : decode cX9_grip 11 = .ok (.invokevirtual 76, 3) := by decide +kernel
theorem dX9_grip_14 : decode cX9_grip 14 = .ok (.invokestatic 79, 3) := by decide +kernel
theorem dX9_grip_17 : decode cX9_grip 17 = .ok (.iadd, 1) := by decide +kernel
theorem dX9_grip_18 : decode cX9_grip 18 = .ok (.istore_n 3, 1) := by decide +kernel
theorem dX9_grip_19 : decode cX9_grip 19 = .ok (.aload_n 0, 1) := by decide +kernel
theorem dX9_grip_20 : decode cX9_grip 20 = .ok (.iload_n 1, 1) := by decide +kernel
theorem dX9_grip_21 : decode cX9_grip 21 = .ok (.invokevirtual 69, 3) := by decide +kernel
theorem dX9_grip_24 : decode cX9_grip 24 = .ok (.ifCond .ne 5, 3) := by decide +kernel
theorem dX9_grip_27 : decode cX9_grip 27 = .ok (.iconst 0, 1) := by decide +kernel
theorem dX9_grip_28 : decode cX9_grip 28 = .ok (.ireturn, 1) := by decide +kernel
theorem dX9_grip_29 : decode cX9_grip 29 = .ok (.aload_n 0, 1) := by decide +kernel
theorem dX9_grip_30 : decode cX9_grip 30 = .ok (.iload_n 1, 1) := by decide +kernel
theorem dX9_grip_31 : decode cX9_grip 31 = .ok (.iconst 0, 1) := by decide +kernel
theorem dX9_grip_32 : decode cX9_grip 32 = .ok (.invokevirtual 56, 3) := by decide +kernel
theorem dX9_grip_35 : decode cX9_grip 35 = .ok (.tableswitch 59 0 3 #[29, 31, 35, 37], 29) := by decide +kernel
theorem dX9_grip_64 : decode cX9_grip 64 = .ok (.iload_n 2, 1) := by decide +kernel
theorem dX9_grip_65 : decode cX9_grip 65 = .ok (.ireturn, 1) := by decide +kernel
theorem dX9_grip_66 : decode cX9_grip 66 = .ok (.iload_n 2, 1) := by decide +kernel
theorem dX9_grip_67 : decode cX9_grip 67 = .ok (.iconst 2, 1) := by decide +kernel
theorem dX9_grip_68 : decode cX9_grip 68 = .ok (.idiv, 1) := by decide +kernel
theorem dX9_grip_69 : decode cX9_grip 69 = .ok (.ireturn, 1) := by decide +kernel
theorem dX9_grip_70 : decode cX9_grip 70 = .ok (.iload_n 3, 1) := by decide +kernel
theorem dX9_grip_71 : decode cX9_grip 71 = .ok (.ireturn, 1) := by decide +kernel
theorem dX9_grip_72 : decode cX9_grip 72 = .ok (.iload_n 2, 1) := by decide +kernel
theorem dX9_grip_73 : decode cX9_grip 73 = .ok (.iconst 2, 1) := by decide +kernel
theorem dX9_grip_74 : decode cX9_grip 74 = .ok (.idiv, 1) := by decide +kernel
theorem dX9_grip_75 : decode cX9_grip 75 = .ok (.aload_n 0, 1) := by decide +kernel
theorem dX9_grip_76 : decode cX9_grip 76 = .ok (.getfield 7, 3) := by decide +kernel
theorem dX9_grip_79 : decode cX9_grip 79 = .ok (.iconst 1, 1) := by decide +kernel
theorem dX9_grip_80 : decode cX9_grip 80 = .ok (.iaload, 1) := by decide +kernel
theorem dX9_grip_81 : decode cX9_grip 81 = .ok (.iconst 2, 1) := by decide +kernel
theorem dX9_grip_82 : decode cX9_grip 82 = .ok (.irem, 1) := by decide +kernel
theorem dX9_grip_83 : decode cX9_grip 83 = .ok (.iconst 1, 1) := by decide +kernel
theorem dX9_grip_84 : decode cX9_grip 84 = .ok (.if_icmp .ne 7, 3) := by decide +kernel
theorem dX9_grip_87 : decode cX9_grip 87 = .ok (.iconst 3, 1) := by decide +kernel
theorem dX9_grip_88 : decode cX9_grip 88 = .ok (.goto 4, 3) := by decide +kernel
theorem dX9_grip_91 : decode cX9_grip 91 = .ok (.iconst 0, 1) := by decide +kernel
theorem dX9_grip_92 : decode cX9_grip 92 = .ok (.iadd, 1) := by decide +kernel
theorem dX9_grip_93 : decode cX9_grip 93 = .ok (.ireturn, 1) := by decide +kernel
theorem dX9_grip_94 : decode cX9_grip 94 = .ok (.iload_n 3, 1) := by decide +kernel
theorem dX9_grip_95 : decode cX9_grip 95 = .ok (.aload_n 0, 1) := by decide +kernel
theorem dX9_grip_96 : decode cX9_grip 96 = .ok (.getfield 7, 3) := by decide +kernel
theorem dX9_grip_99 : decode cX9_grip 99 = .ok (.iconst 0, 1) := by decide +kernel
theorem dX9_grip_100 : decode cX9_grip 100 = .ok (.iaload, 1) := by decide +kernel
theorem dX9_grip_101 : decode cX9_grip 101 = .ok (.iadd, 1) := by decide +kernel
theorem dX9_grip_102 : decode cX9_grip 102 = .ok (.aload_n 0, 1) := by decide +kernel
theorem dX9_grip_103 : decode cX9_grip 103 = .ok (.invokevirtual 82, 3) := by decide +kernel
theorem dX9_grip_106 : decode cX9_grip 106 = .ok (.invokestatic 79, 3) := by decide +kernel
theorem dX9_grip_109 : decode cX9_grip 109 = .ok (.isub, 1) := by decide +kernel
theorem dX9_grip_110 : decode cX9_grip 110 = .ok (.ireturn, 1) := by decide +kernel
theorem dX9_goesBy_0 : decode cX9_goesBy 0 = .ok (.iconst 0, 1) := by decide +kernel
theorem dX9_goesBy_1 : decode cX9_goesBy 1 = .ok (.istore_n 2, 1) := by decide +kernel
theorem dX9_goesBy_2 : decode cX9_goesBy 2 = .ok (.iconst 0, 1) := by decide +kernel
theorem dX9_goesBy_3 : decode cX9_goesBy 3 = .ok (.istore_n 3, 1) := by decide +kernel
theorem dX9_goesBy_4 : decode cX9_goesBy 4 = .ok (.iload_n 3, 1) := by decide +kernel
theorem dX9_goesBy_5 : decode cX9_goesBy 5 = .ok (.aload_n 0, 1) := by decide +kernel
theorem dX9_goesBy_6 : decode cX9_goesBy 6 = .ok (.getfield 7, 3) := by decide +kernel
theorem dX9_goesBy_9 : decode cX9_goesBy 9 = .ok (.iconst 0, 1) := by decide +kernel
theorem dX9_goesBy_10 : decode cX9_goesBy 10 = .ok (.iaload, 1) := by decide +kernel
theorem dX9_goesBy_11 : decode cX9_goesBy 11 = .ok (.if_icmp .ge 62, 3) := by decide +kernel
theorem dX9_goesBy_14 : decode cX9_goesBy 14 = .ok (.iload_n 1, 1) := by decide +kernel
theorem dX9_goesBy_15 : decode cX9_goesBy 15 = .ok (.iload_n 3, 1) := by decide +kernel
theorem dX9_goesBy_16 : decode cX9_goesBy 16 = .ok (.ishr, 1) := by decide +kernel
theorem dX9_goesBy_17 : decode cX9_goesBy 17 = .ok (.iconst 1, 1) := by decide +kernel
theorem dX9_goesBy_18 : decode cX9_goesBy 18 = .ok (.iand, 1) := by decide +kernel
theorem dX9_goesBy_19 : decode cX9_goesBy 19 = .ok (.iconst 1, 1) := by decide +kernel
theorem dX9_goesBy_20 : decode cX9_goesBy 20 = .ok (.if_icmp .ne 7, 3) := by decide +kernel
theorem dX9_goesBy_23 : decode cX9_goesBy 23 = .ok (.iconst 0, 1) := by decide +kernel
theorem dX9_goesBy_24 : decode cX9_goesBy 24 = .ok (.goto 8, 3) := by decide +kernel
theorem dX9_goesBy_27 : decode cX9_goesBy 27 = .ok (.aload_n 0, 1) := by decide +kernel
theorem dX9_goesBy_28 : decode cX9_goesBy 28 = .ok (.iload_n 3, 1) := by decide +kernel
theorem dX9_goesBy_29 : decode cX9_goesBy 29 = .ok (.invokevirtual 86, 3) := by decide +kernel
theorem dX9_goesBy_32 : decode cX9_goesBy 32 = .ok (.istore 4, 2) := by decide +kernel
theorem dX9_goesBy_34 : decode cX9_goesBy 34 = .ok (.iload_n 2, 1) := by decide +kernel
theorem dX9_goesBy_35 : decode cX9_goesBy 35 = .ok (.aload_n 0, 1) := by decide +kernel
theorem dX9_goesBy_36 : decode cX9_goesBy 36 = .ok (.iload_n 3, 1) := by decide +kernel
theorem dX9_goesBy_37 : decode cX9_goesBy 37 = .ok (.invokevirtual 69, 3) := by decide +kernel
theorem dX9_goesBy_40 : decode cX9_goesBy 40 = .ok (.ifCond .eq 24, 3) := by decide +kernel
theorem dX9_goesBy_43 : decode cX9_goesBy 43 = .ok (.iload 4, 2) := by decide +kernel
theorem dX9_goesBy_45 : decode cX9_goesBy 45 = .ok (.aload_n 0, 1) := by decide +kernel
theorem dX9_goesBy_46 : decode cX9_goesBy 46 = .ok (.aload_n 0, 1) := by decide +kernel
theorem dX9_goesBy_47 : decode cX9_goesBy 47 = .ok (.iload_n 3, 1) := by decide +kernel
theorem dX9_goesBy_48 : decode cX9_goesBy 48 = .ok (.invokevirtual 60, 3) := by decide +kernel
theorem dX9_goesBy_51 : decode cX9_goesBy 51 = .ok (.iconst 0, 1) := by decide +kernel
theorem dX9_goesBy_52 : decode cX9_goesBy 52 = .ok (.invokevirtual 89, 3) := by decide +kernel
theorem dX9_goesBy_55 : decode cX9_goesBy 55 = .ok (.if_icmp .ge 9, 3) := by decide +kernel
theorem dX9_goesBy_58 : decode cX9_goesBy 58 = .ok (.iconst 1, 1) := by decide +kernel
theorem dX9_goesBy_59 : decode cX9_goesBy 59 = .ok (.iload_n 3, 1) := by decide +kernel
theorem dX9_goesBy_60 : decode cX9_goesBy 60 = .ok (.ishl, 1) := by decide +kernel
theorem dX9_goesBy_61 : decode cX9_goesBy 61 = .ok (.goto 4, 3) := by decide +kernel
theorem dX9_goesBy_64 : decode cX9_goesBy 64 = .ok (.iconst 0, 1) := by decide +kernel
theorem dX9_goesBy_65 : decode cX9_goesBy 65 = .ok (.ior, 1) := by decide +kernel
theorem dX9_goesBy_66 : decode cX9_goesBy 66 = .ok (.istore_n 2, 1) := by decide +kernel
theorem dX9_goesBy_67 : decode cX9_goesBy 67 = .ok (.iinc 3 1, 3) := by decide +kernel
theorem dX9_goesBy_70 : decode cX9_goesBy 70 = .ok (.goto (-66), 3) := by decide +kernel
theorem dX9_goesBy_73 : decode cX9_goesBy 73 = .ok (.iconst 0, 1) := by decide +kernel
theorem dX9_goesBy_74 : decode cX9_goesBy 74 = .ok (.istore_n 3, 1) := by decide +kernel
theorem dX9_goesBy_75 : decode cX9_goesBy 75 = .ok (.iload_n 3, 1) := by decide +kernel
theorem dX9_goesBy_76 : decode cX9_goesBy 76 = .ok (.aload_n 0, 1) := by decide +kernel
theorem dX9_goesBy_77 : decode cX9_goesBy 77 = .ok (.getfield 7, 3) := by decide +kernel
theorem dX9_goesBy_80 : decode cX9_goesBy 80 = .ok (.iconst 0, 1) := by decide +kernel
theorem dX9_goesBy_81 : decode cX9_goesBy 81 = .ok (.iaload, 1) := by decide +kernel
theorem dX9_goesBy_82 : decode cX9_goesBy 82 = .ok (.if_icmp .ge 61, 3) := by decide +kernel
theorem dX9_goesBy_85 : decode cX9_goesBy 85 = .ok (.iload_n 2, 1) := by decide +kernel
theorem dX9_goesBy_86 : decode cX9_goesBy 86 = .ok (.iload_n 3, 1) := by decide +kernel
theorem dX9_goesBy_87 : decode cX9_goesBy 87 = .ok (.ishr, 1) := by decide +kernel
theorem dX9_goesBy_88 : decode cX9_goesBy 88 = .ok (.iconst 1, 1) := by decide +kernel
theorem dX9_goesBy_89 : decode cX9_goesBy 89 = .ok (.iand, 1) := by decide +kernel
theorem dX9_goesBy_90 : decode cX9_goesBy 90 = .ok (.iconst 1, 1) := by decide +kernel
theorem dX9_goesBy_91 : decode cX9_goesBy 91 = .ok (.if_icmp .ne 13, 3) := by decide +kernel
theorem dX9_goesBy_94 : decode cX9_goesBy 94 = .ok (.aload_n 0, 1) := by decide +kernel
theorem dX9_goesBy_95 : decode cX9_goesBy 95 = .ok (.iload_n 3, 1) := by decide +kernel
theorem dX9_goesBy_96 : decode cX9_goesBy 96 = .ok (.bipush (-4), 2) := by decide +kernel
theorem dX9_goesBy_98 : decode cX9_goesBy 98 = .ok (.invokevirtual 92, 3) := by decide +kernel
theorem dX9_goesBy_101 : decode cX9_goesBy 101 = .ok (.goto 36, 3) := by decide +kernel
theorem dX9_goesBy_104 : decode cX9_goesBy 104 = .ok (.aload_n 0, 1) := by decide +kernel
theorem dX9_goesBy_105 : decode cX9_goesBy 105 = .ok (.iload_n 3, 1) := by decide +kernel
theorem dX9_goesBy_106 : decode cX9_goesBy 106 = .ok (.invokevirtual 69, 3) := by decide +kernel
theorem dX9_goesBy_109 : decode cX9_goesBy 109 = .ok (.ifCond .eq 28, 3) := by decide +kernel
theorem dX9_goesBy_112 : decode cX9_goesBy 112 = .ok (.aload_n 0, 1) := by decide +kernel
theorem dX9_goesBy_113 : decode cX9_goesBy 113 = .ok (.aload_n 0, 1) := by decide +kernel
theorem dX9_goesBy_114 : decode cX9_goesBy 114 = .ok (.iload_n 3, 1) := by decide +kernel
theorem dX9_goesBy_115 : decode cX9_goesBy 115 = .ok (.invokevirtual 60, 3) := by decide +kernel
theorem dX9_goesBy_118 : decode cX9_goesBy 118 = .ok (.iconst 0, 1) := by decide +kernel
theorem dX9_goesBy_119 : decode cX9_goesBy 119 = .ok (.invokevirtual 89, 3) := by decide +kernel
theorem dX9_goesBy_122 : decode cX9_goesBy 122 = .ok (.ifCond .le 15, 3) := by decide +kernel
theorem dX9_goesBy_125 : decode cX9_goesBy 125 = .ok (.aload_n 0, 1) := by decide +kernel
theorem dX9_goesBy_126 : decode cX9_goesBy 126 = .ok (.iload_n 3, 1) := by decide +kernel
theorem dX9_goesBy_127 : decode cX9_goesBy 127 = .ok (.aload_n 0, 1) := by decide +kernel
theorem dX9_goesBy_128 : decode cX9_goesBy 128 = .ok (.iload_n 3, 1) := by decide +kernel
theorem dX9_goesBy_129 : decode cX9_goesBy 129 = .ok (.invokevirtual 73, 3) := by decide +kernel
theorem dX9_goesBy_132 : decode cX9_goesBy 132 = .ok (.iconst 1, 1) := by decide +kernel
theorem dX9_goesBy_133 : decode cX9_goesBy 133 = .ok (.isub, 1) := by decide +kernel
theorem dX9_goesBy_134 : decode cX9_goesBy 134 = .ok (.invokevirtual 96, 3) := by decide +kernel
theorem dX9_goesBy_137 : decode cX9_goesBy 137 = .ok (.iinc 3 1, 3) := by decide +kernel
theorem dX9_goesBy_140 : decode cX9_goesBy 140 = .ok (.goto (-65), 3) := by decide +kernel
theorem dX9_goesBy_143 : decode cX9_goesBy 143 = .ok (.aload_n 0, 1) := by decide +kernel
theorem dX9_goesBy_144 : decode cX9_goesBy 144 = .ok (.getfield 7, 3) := by decide +kernel
theorem dX9_goesBy_147 : decode cX9_goesBy 147 = .ok (.iconst 1, 1) := by decide +kernel
theorem dX9_goesBy_148 : decode cX9_goesBy 148 = .ok (.dup2, 1) := by decide +kernel
theorem dX9_goesBy_149 : decode cX9_goesBy 149 = .ok (.iaload, 1) := by decide +kernel
theorem dX9_goesBy_150 : decode cX9_goesBy 150 = .ok (.iconst 1, 1) := by decide +kernel
theorem dX9_goesBy_151 : decode cX9_goesBy 151 = .ok (.iadd, 1) := by decide +kernel
theorem dX9_goesBy_152 : decode cX9_goesBy 152 = .ok (.iastore, 1) := by decide +kernel
theorem dX9_goesBy_153 : decode cX9_goesBy 153 = .ok (.return_, 1) := by decide +kernel
theorem dX9_goesOn_0 : decode cX9_goesOn 0 = .ok (.iconst 0, 1) := by decide +kernel
theorem dX9_goesOn_1 : decode cX9_goesOn 1 = .ok (.istore_n 2, 1) := by decide +kernel
theorem dX9_goesOn_2 : decode cX9_goesOn 2 = .ok (.iload_n 2, 1) := by decide +kernel
theorem dX9_goesOn_3 : decode cX9_goesOn 3 = .ok (.iload_n 1, 1) := by decide +kernel
theorem dX9_goesOn_4 : decode cX9_goesOn 4 = .ok (.if_icmp .ge 14, 3) := by decide +kernel
theorem dX9_goesOn_7 : decode cX9_goesOn 7 = .ok (.aload_n 0, 1) := by decide +kernel
theorem dX9_goesOn_8 : decode cX9_goesOn 8 = .ok (.iconst 0, 1) := by decide +kernel
theorem dX9_goesOn_9 : decode cX9_goesOn 9 = .ok (.invokevirtual 99, 3) := by decide +kernel
theorem dX9_goesOn_12 : decode cX9_goesOn 12 = .ok (.iinc 2 1, 3) := by decide +kernel
theorem dX9_goesOn_15 : decode cX9_goesOn 15 = .ok (.goto (-13), 3) := by decide +kernel
theorem dX9_goesOn_18 : decode cX9_goesOn 18 = .ok (.return_, 1) := by decide +kernel
theorem dX9_guard_0 : decode cX9_guard 0 = .ok (.iload_n 1, 1) := by decide +kernel
theorem dX9_guard_1 : decode cX9_guard 1 = .ok (.i2l, 1) := by decide +kernel
theorem dX9_guard_2 : decode cX9_guard 2 = .ok (.lconst 0, 1) := by decide +kernel
theorem dX9_guard_3 : decode cX9_guard 3 = .ok (.ldc2_w 128, 3) := by decide +kernel
theorem dX9_guard_6 : decode cX9_guard 6 = .ok (.invokestatic 50, 3) := by decide +kernel
theorem dX9_guard_9 : decode cX9_guard 9 = .ok (.ifCond .eq 13, 3) := by decide +kernel
theorem dX9_guard_12 : decode cX9_guard 12 = .ok (.iload_n 2, 1) := by decide +kernel
theorem dX9_guard_13 : decode cX9_guard 13 = .ok (.i2l, 1) := by decide +kernel
theorem dX9_guard_14 : decode cX9_guard 14 = .ok (.lconst 0, 1) := by decide +kernel
theorem dX9_guard_15 : decode cX9_guard 15 = .ok (.lconst 1, 1) := by decide +kernel
theorem dX9_guard_16 : decode cX9_guard 16 = .ok (.invokestatic 50, 3) := by decide +kernel
theorem dX9_guard_19 : decode cX9_guard 19 = .ok (.ifCond .ne 5, 3) := by decide +kernel
theorem dX9_guard_22 : decode cX9_guard 22 = .ok (.iconst (-1), 1) := by decide +kernel
theorem dX9_guard_23 : decode cX9_guard 23 = .ok (.ireturn, 1) := by decide +kernel
theorem dX9_guard_24 : decode cX9_guard 24 = .ok (.aload_n 0, 1) := by decide +kernel
theorem dX9_guard_25 : decode cX9_guard 25 = .ok (.invokevirtual 82, 3) := by decide +kernel
theorem dX9_guard_28 : decode cX9_guard 28 = .ok (.istore_n 3, 1) := by decide +kernel
theorem dX9_guard_29 : decode cX9_guard 29 = .ok (.iload_n 3, 1) := by decide +kernel
theorem dX9_guard_30 : decode cX9_guard 30 = .ok (.istore 4, 2) := by decide +kernel
theorem dX9_guard_32 : decode cX9_guard 32 = .ok (.iconst 0, 1) := by decide +kernel
theorem dX9_guard_33 : decode cX9_guard 33 = .ok (.istore 5, 2) := by decide +kernel
theorem dX9_guard_35 : decode cX9_guard 35 = .ok (.iload 5, 2) := by decide +kernel
theorem dX9_guard_37 : decode cX9_guard 37 = .ok (.bipush 64, 2) := by decide +kernel
theorem dX9_guard_39 : decode cX9_guard 39 = .ok (.if_icmp .ge 69, 3) := by decide +kernel
theorem dX9_guard_42 : decode cX9_guard 42 = .ok (.iload 5, 2) := by decide +kernel
theorem dX9_guard_44 : decode cX9_guard 44 = .ok (.iload_n 3, 1) := by decide +kernel
theorem dX9_guard_45 : decode cX9_guard 45 = .ok (.iconst (-1), 1) := by decide +kernel
theorem dX9_guard_46 : decode cX9_guard 46 = .ok (.ixor, 1) := by decide +kernel
theorem dX9_guard_47 : decode cX9_guard 47 = .ok (.iand, 1) := by decide +kernel
theorem dX9_guard_48 : decode cX9_guard 48 = .ok (.ifCond .ne 37, 3) := by decide +kernel
theorem dX9_guard_51 : decode cX9_guard 51 = .ok (.iload 5, 2) := by decide +kernel
theorem dX9_guard_53 : decode cX9_guard 53 = .ok (.invokestatic 79, 3) := by decide +kernel
theorem dX9_guard_56 : decode cX9_guard 56 = .ok (.iload 4, 2) := by decide +kernel
theorem dX9_guard_58 : decode cX9_guard 58 = .ok (.invokestatic 79, 3) := by decide +kernel
theorem dX9_guard_61 : decode cX9_guard 61 = .ok (.if_icmp .ge 24, 3) := by decide +kernel
theorem dX9_guard_64 : decode cX9_guard 64 = .ok (.aload_n 0, 1) := by decide +kernel
theorem dX9_guard_65 : decode cX9_guard 65 = .ok (.iload 5, 2) := by decide +kernel
theorem dX9_guard_67 : decode cX9_guard 67 = .ok (.iload_n 1, 1) := by decide +kernel
theorem dX9_guard_68 : decode cX9_guard 68 = .ok (.invokevirtual 130, 3) := by decide +kernel
theorem dX9_guard_71 : decode cX9_guard 71 = .ok (.aload_n 0, 1) := by decide +kernel
theorem dX9_guard_72 : decode cX9_guard 72 = .ok (.bipush 63, 2) := by decide +kernel
theorem dX9_guard_74 : decode cX9_guard 74 = .ok (.iload_n 1, 1) := by decide +kernel
theorem dX9_guard_75 : decode cX9_guard 75 = .ok (.invokevirtual 130, 3) := by decide +kernel
theorem dX9_guard_78 : decode cX9_guard 78 = .ok (.if_icmp .ne 7, 3) := by decide +kernel
theorem dX9_guard_81 : decode cX9_guard 81 = .ok (.iconst 1, 1) := by decide +kernel
theorem dX9_guard_82 : decode cX9_guard 82 = .ok (.goto 4, 3) := by decide +kernel
theorem dX9_guard_85 : decode cX9_guard 85 = .ok (.iconst 0, 1) := by decide +kernel
theorem dX9_guard_86 : decode cX9_guard 86 = .ok (.istore 6, 2) := by decide +kernel
theorem dX9_guard_88 : decode cX9_guard 88 = .ok (.iload 6, 2) := by decide +kernel
theorem dX9_guard_90 : decode cX9_guard 90 = .ok (.ifCond .eq 8, 3) := by decide +kernel
theorem dX9_guard_93 : decode cX9_guard 93 = .ok (.iload 5, 2) := by decide +kernel
theorem dX9_guard_95 : decode cX9_guard 95 = .ok (.goto 5, 3) := by decide +kernel
theorem dX9_guard_98 : decode cX9_guard 98 = .ok (.iload 4, 2) := by decide +kernel
theorem dX9_guard_100 : decode cX9_guard 100 = .ok (.istore 4, 2) := by decide +kernel
theorem dX9_guard_102 : decode cX9_guard 102 = .ok (.iinc 5 1, 3) := by decide +kernel
theorem dX9_guard_105 : decode cX9_guard 105 = .ok (.goto (-70), 3) := by decide +kernel
theorem dX9_guard_108 : decode cX9_guard 108 = .ok (.iload_n 2, 1) := by decide +kernel
theorem dX9_guard_109 : decode cX9_guard 109 = .ok (.ifCond .ne 11, 3) := by decide +kernel
theorem dX9_guard_112 : decode cX9_guard 112 = .ok (.iload 4, 2) := by decide +kernel
theorem dX9_guard_114 : decode cX9_guard 114 = .ok (.invokestatic 79, 3) := by decide +kernel
theorem dX9_guard_117 : decode cX9_guard 117 = .ok (.goto 5, 3) := by decide +kernel
theorem dX9_guard_120 : decode cX9_guard 120 = .ok (.iload 4, 2) := by decide +kernel
theorem dX9_guard_122 : decode cX9_guard 122 = .ok (.ireturn, 1) := by decide +kernel
