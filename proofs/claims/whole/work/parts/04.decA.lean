theorem dX0_init_0 : decode cX0_init 0 = .ok (.aload_n 0, 1) := by decide +kernel
theorem dX0_init_1 : decode cX0_init 1 = .ok (.invokespecial 3, 3) := by decide +kernel
theorem dX0_init_4 : decode cX0_init 4 = .ok (.aload_n 0, 1) := by decide +kernel
theorem dX0_init_5 : decode cX0_init 5 = .ok (.bipush 6, 2) := by decide +kernel
theorem dX0_init_7 : decode cX0_init 7 = .ok (.newarray .int, 2) := by decide +kernel
theorem dX0_init_9 : decode cX0_init 9 = .ok (.putfield 9, 3) := by decide +kernel
theorem dX0_init_12 : decode cX0_init 12 = .ok (.aload_n 0, 1) := by decide +kernel
theorem dX0_init_13 : decode cX0_init 13 = .ok (.bipush 6, 2) := by decide +kernel
theorem dX0_init_15 : decode cX0_init 15 = .ok (.newarray .int, 2) := by decide +kernel
theorem dX0_init_17 : decode cX0_init 17 = .ok (.putfield 15, 3) := by decide +kernel
theorem dX0_init_20 : decode cX0_init 20 = .ok (.aload_n 0, 1) := by decide +kernel
theorem dX0_init_21 : decode cX0_init 21 = .ok (.iconst 1, 1) := by decide +kernel
theorem dX0_init_22 : decode cX0_init 22 = .ok (.putfield 18, 3) := by decide +kernel
theorem dX0_init_25 : decode cX0_init 25 = .ok (.return_, 1) := by decide +kernel
theorem dX0_takeMoment_0 : decode cX0_takeMoment 0 = .ok (.aload_n 1, 1) := by decide +kernel
theorem dX0_takeMoment_1 : decode cX0_takeMoment 1 = .ok (.getfield 9, 3) := by decide +kernel
theorem dX0_takeMoment_4 : decode cX0_takeMoment 4 = .ok (.iconst 0, 1) := by decide +kernel
theorem dX0_takeMoment_5 : decode cX0_takeMoment 5 = .ok (.aload_n 0, 1) := by decide +kernel
theorem dX0_takeMoment_6 : decode cX0_takeMoment 6 = .ok (.getfield 9, 3) := by decide +kernel
theorem dX0_takeMoment_9 : decode cX0_takeMoment 9 = .ok (.iconst 0, 1) := by decide +kernel
theorem dX0_takeMoment_10 : decode cX0_takeMoment 10 = .ok (.bipush 6, 2) := by decide +kernel
theorem dX0_takeMoment_12 : decode cX0_takeMoment 12 = .ok (.invokestatic 22, 3) := by decide +kernel
theorem dX0_takeMoment_15 : decode cX0_takeMoment 15 = .ok (.aload_n 1, 1) := by decide +kernel
theorem dX0_takeMoment_16 : decode cX0_takeMoment 16 = .ok (.getfield 15, 3) := by decide +kernel
theorem dX0_takeMoment_19 : decode cX0_takeMoment 19 = .ok (.iconst 0, 1) := by decide +kernel
theorem dX0_takeMoment_20 : decode cX0_takeMoment 20 = .ok (.aload_n 0, 1) := by decide +kernel
theorem dX0_takeMoment_21 : decode cX0_takeMoment 21 = .ok (.getfield 15, 3) := by decide +kernel
theorem dX0_takeMoment_24 : decode cX0_takeMoment 24 = .ok (.iconst 0, 1) := by decide +kernel
theorem dX0_takeMoment_25 : decode cX0_takeMoment 25 = .ok (.bipush 6, 2) := by decide +kernel
theorem dX0_takeMoment_27 : decode cX0_takeMoment 27 = .ok (.invokestatic 22, 3) := by decide +kernel
theorem dX0_takeMoment_30 : decode cX0_takeMoment 30 = .ok (.aload_n 0, 1) := by decide +kernel
theorem dX0_takeMoment_31 : decode cX0_takeMoment 31 = .ok (.aload_n 1, 1) := by decide +kernel
theorem dX0_takeMoment_32 : decode cX0_takeMoment 32 = .ok (.getfield 28, 3) := by decide +kernel
theorem dX0_takeMoment_35 : decode cX0_takeMoment 35 = .ok (.putfield 28, 3) := by decide +kernel
theorem dX0_takeMoment_38 : decode cX0_takeMoment 38 = .ok (.aload_n 0, 1) := by decide +kernel
theorem dX0_takeMoment_39 : decode cX0_takeMoment 39 = .ok (.aload_n 1, 1) := by decide +kernel
theorem dX0_takeMoment_40 : decode cX0_takeMoment 40 = .ok (.getfield 18, 3) := by decide +kernel
theorem dX0_takeMoment_43 : decode cX0_takeMoment 43 = .ok (.putfield 18, 3) := by decide +kernel
theorem dX0_takeMoment_46 : decode cX0_takeMoment 46 = .ok (.return_, 1) := by decide +kernel
theorem dX1_init_0 : decode cX1_init 0 = .ok (.aload_n 0, 1) := by decide +kernel
theorem dX1_init_1 : decode cX1_init 1 = .ok (.invokespecial 3, 3) := by decide +kernel
theorem dX1_init_4 : decode cX1_init 4 = .ok (.aload_n 0, 1) := by decide +kernel
theorem dX1_init_5 : decode cX1_init 5 = .ok (.new 9, 3) := by decide +kernel
theorem dX1_init_8 : decode cX1_init 8 = .ok (.dup, 1) := by decide +kernel
theorem dX1_init_9 : decode cX1_init 9 = .ok (.invokespecial 11, 3) := by decide +kernel
theorem dX1_init_12 : decode cX1_init 12 = .ok (.putfield 12, 3) := by decide +kernel
theorem dX1_init_15 : decode cX1_init 15 = .ok (.return_, 1) := by decide +kernel
theorem dX1_behind_0 : decode cX1_behind 0 = .ok (.aload_n 0, 1) := by decide +kernel
theorem dX1_behind_1 : decode cX1_behind 1 = .ok (.getfield 12, 3) := by decide +kernel
theorem dX1_behind_4 : decode cX1_behind 4 = .ok (.aload_n 1, 1) := by decide +kernel
theorem dX1_behind_5 : decode cX1_behind 5 = .ok (.invokevirtual 18, 3) := by decide +kernel
theorem dX1_behind_8 : decode cX1_behind 8 = .ok (.aload_n 0, 1) := by decide +kernel
theorem dX1_behind_9 : decode cX1_behind 9 = .ok (.getfield 12, 3) := by decide +kernel
theorem dX1_behind_12 : decode cX1_behind 12 = .ok (.iload_n 2, 1) := by decide +kernel
theorem dX1_behind_13 : decode cX1_behind 13 = .ok (.invokevirtual 22, 3) := by decide +kernel
theorem dX1_behind_16 : decode cX1_behind 16 = .ok (.aload_n 0, 1) := by decide +kernel
theorem dX1_behind_17 : decode cX1_behind 17 = .ok (.getfield 12, 3) := by decide +kernel
theorem dX1_behind_20 : decode cX1_behind 20 = .ok (.areturn, 1) := by decide +kernel
theorem dX1_firstFallOf_0 : decode cX1_firstFallOf 0 = .ok (.aload_n 0, 1) := by decide +kernel
theorem dX1_firstFallOf_1 : decode cX1_firstFallOf 1 = .ok (.getfield 12, 3) := by decide +kernel
theorem dX1_firstFallOf_4 : decode cX1_firstFallOf 4 = .ok (.aload_n 1, 1) := by decide +kernel
theorem dX1_firstFallOf_5 : decode cX1_firstFallOf 5 = .ok (.invokevirtual 18, 3) := by decide +kernel
theorem dX1_firstFallOf_8 : decode cX1_firstFallOf 8 = .ok (.iconst 0, 1) := by decide +kernel
theorem dX1_firstFallOf_9 : decode cX1_firstFallOf 9 = .ok (.istore_n 3, 1) := by decide +kernel
theorem dX1_firstFallOf_10 : decode cX1_firstFallOf 10 = .ok (.iload_n 3, 1) := by decide +kernel
theorem dX1_firstFallOf_11 : decode cX1_firstFallOf 11 = .ok (.bipush 60, 2) := by decide +kernel
theorem dX1_firstFallOf_13 : decode cX1_firstFallOf 13 = .ok (.if_icmp .gt 29, 3) := by decide +kernel
theorem dX1_firstFallOf_16 : decode cX1_firstFallOf 16 = .ok (.aload_n 0, 1) := by decide +kernel
theorem dX1_firstFallOf_17 : decode cX1_firstFallOf 17 = .ok (.getfield 12, 3) := by decide +kernel
theorem dX1_firstFallOf_20 : decode cX1_firstFallOf 20 = .ok (.iload_n 2, 1) := by decide +kernel
theorem dX1_firstFallOf_21 : decode cX1_firstFallOf 21 = .ok (.invokevirtual 26, 3) := by decide +kernel
theorem dX1_firstFallOf_24 : decode cX1_firstFallOf 24 = .ok (.ifCond .ne 5, 3) := by decide +kernel
theorem dX1_firstFallOf_27 : decode cX1_firstFallOf 27 = .ok (.iload_n 3, 1) := by decide +kernel
theorem dX1_firstFallOf_28 : decode cX1_firstFallOf 28 = .ok (.ireturn, 1) := by decide +kernel
theorem dX1_firstFallOf_29 : decode cX1_firstFallOf 29 = .ok (.aload_n 0, 1) := by decide +kernel
theorem dX1_firstFallOf_30 : decode cX1_firstFallOf 30 = .ok (.getfield 12, 3) := by decide +kernel
theorem dX1_firstFallOf_33 : decode cX1_firstFallOf 33 = .ok (.invokevirtual 30, 3) := by decide +kernel
theorem dX1_firstFallOf_36 : decode cX1_firstFallOf 36 = .ok (.iinc 3 1, 3) := by decide +kernel
theorem dX1_firstFallOf_39 : decode cX1_firstFallOf 39 = .ok (.goto (-29), 3) := by decide +kernel
theorem dX1_firstFallOf_42 : decode cX1_firstFallOf 42 = .ok (.bipush (-4), 2) := by decide +kernel
theorem dX1_firstFallOf_44 : decode cX1_firstFallOf 44 = .ok (.ireturn, 1) := by decide +kernel
theorem dX1_firstAlone_0 : decode cX1_firstAlone 0 = .ok (.aload_n 0, 1) := by decide +kernel
theorem dX1_firstAlone_1 : decode cX1_firstAlone 1 = .ok (.getfield 12, 3) := by decide +kernel
theorem dX1_firstAlone_4 : decode cX1_firstAlone 4 = .ok (.aload_n 1, 1) := by decide +kernel
theorem dX1_firstAlone_5 : decode cX1_firstAlone 5 = .ok (.invokevirtual 18, 3) := by decide +kernel
theorem dX1_firstAlone_8 : decode cX1_firstAlone 8 = .ok (.iconst 0, 1) := by decide +kernel
theorem dX1_firstAlone_9 : decode cX1_firstAlone 9 = .ok (.istore_n 2, 1) := by decide +kernel
theorem dX1_firstAlone_10 : decode cX1_firstAlone 10 = .ok (.iload_n 2, 1) := by decide +kernel
theorem dX1_firstAlone_11 : decode cX1_firstAlone 11 = .ok (.bipush 60, 2) := by decide +kernel
theorem dX1_firstAlone_13 : decode cX1_firstAlone 13 = .ok (.if_icmp .gt 29, 3) := by decide +kernel
theorem dX1_firstAlone_16 : decode cX1_firstAlone 16 = .ok (.aload_n 0, 1) := by decide +kernel
theorem dX1_firstAlone_17 : decode cX1_firstAlone 17 = .ok (.getfield 12, 3) := by decide +kernel
theorem dX1_firstAlone_20 : decode cX1_firstAlone 20 = .ok (.invokevirtual 33, 3) := by decide +kernel
theorem dX1_firstAlone_23 : decode cX1_firstAlone 23 = .ok (.iconst 1, 1) := by decide +kernel
theorem dX1_firstAlone_24 : decode cX1_firstAlone 24 = .ok (.if_icmp .gt 5, 3) := by decide +kernel
theorem dX1_firstAlone_27 : decode cX1_firstAlone 27 = .ok (.iload_n 2, 1) := by decide +kernel
theorem dX1_firstAlone_28 : decode cX1_firstAlone 28 = .ok (.ireturn, 1) := by decide +kernel
theorem dX1_firstAlone_29 : decode cX1_firstAlone 29 = .ok (.aload_n 0, 1) := by decide +kernel
theorem dX1_firstAlone_30 : decode cX1_firstAlone 30 = .ok (.getfield 12, 3) := by decide +kernel
theorem dX1_firstAlone_33 : decode cX1_firstAlone 33 = .ok (.invokevirtual 30, 3) := by decide +kernel
theorem dX1_firstAlone_36 : decode cX1_firstAlone 36 = .ok (.iinc 2 1, 3) := by decide +kernel
theorem dX1_firstAlone_39 : decode cX1_firstAlone 39 = .ok (.goto (-29), 3) := by decide +kernel
theorem dX1_firstAlone_42 : decode cX1_firstAlone 42 = .ok (.bipush (-4), 2) := by decide +kernel
theorem dX1_firstAlone_44 : decode cX1_firstAlone 44 = .ok (.ireturn, 1) := by decide +kernel
theorem dX1_beginChoice_0 : decode cX1_beginChoice 0 = .ok (.aload_n 0, 1) := by decide +kernel
theorem dX1_beginChoice_1 : decode cX1_beginChoice 1 = .ok (.bipush (-4), 2) := by decide +kernel
theorem dX1_beginChoice_3 : decode cX1_beginChoice 3 = .ok (.putfield 37, 3) := by decide +kernel
theorem dX1_beginChoice_6 : decode cX1_beginChoice 6 = .ok (.aload_n 0, 1) := by decide +kernel
theorem dX1_beginChoice_7 : decode cX1_beginChoice 7 = .ok (.bipush (-4), 2) := by decide +kernel
theorem dX1_beginChoice_9 : decode cX1_beginChoice 9 = .ok (.putfield 41, 3) := by decide +kernel
theorem dX1_beginChoice_12 : decode cX1_beginChoice 12 = .ok (.return_, 1) := by decide +kernel
theorem dX1_offer_0 : decode cX1_offer 0 = .ok (.iload_n 2, 1) := by decide +kernel
theorem dX1_offer_1 : decode cX1_offer 1 = .ok (.aload_n 0, 1) := by decide +kernel
theorem dX1_offer_2 : decode cX1_offer 2 = .ok (.getfield 41, 3) := by decide +kernel
theorem dX1_offer_5 : decode cX1_offer 5 = .ok (.if_icmp .le 13, 3) := by decide +kernel
theorem dX1_offer_8 : decode cX1_offer 8 = .ok (.aload_n 0, 1) := by decide +kernel
theorem dX1_offer_9 : decode cX1_offer 9 = .ok (.iload_n 1, 1) := by decide +kernel
theorem dX1_offer_10 : decode cX1_offer 10 = .ok (.putfield 37, 3) := by decide +kernel
theorem dX1_offer_13 : decode cX1_offer 13 = .ok (.aload_n 0, 1) := by decide +kernel
theorem dX1_offer_14 : decode cX1_offer 14 = .ok (.iload_n 2, 1) := by decide +kernel
theorem dX1_offer_15 : decode cX1_offer 15 = .ok (.putfield 41, 3) := by decide +kernel
theorem dX1_offer_18 : decode cX1_offer 18 = .ok (.return_, 1) := by decide +kernel
theorem dX1_mayBeAt_0 : decode cX1_mayBeAt 0 = .ok (.aload_n 0, 1) := by decide +kernel
theorem dX1_mayBeAt_1 : decode cX1_mayBeAt 1 = .ok (.iload_n 2, 1) := by decide +kernel
theorem dX1_mayBeAt_2 : decode cX1_mayBeAt 2 = .ok (.invokevirtual 44, 3) := by decide +kernel
theorem dX1_mayBeAt_5 : decode cX1_mayBeAt 5 = .ok (.istore_n 3, 1) := by decide +kernel
theorem dX1_mayBeAt_6 : decode cX1_mayBeAt 6 = .ok (.iload_n 3, 1) := by decide +kernel
theorem dX1_mayBeAt_7 : decode cX1_mayBeAt 7 = .ok (.bipush (-4), 2) := by decide +kernel
theorem dX1_mayBeAt_9 : decode cX1_mayBeAt 9 = .ok (.if_icmp .eq 8, 3) := by decide +kernel
theorem dX1_mayBeAt_12 : decode cX1_mayBeAt 12 = .ok (.iload_n 3, 1) := by decide +kernel
theorem dX1_mayBeAt_13 : decode cX1_mayBeAt 13 = .ok (.iload_n 1, 1) := by decide +kernel
theorem dX1_mayBeAt_14 : decode cX1_mayBeAt 14 = .ok (.if_icmp .ne 7, 3) := by decide +kernel
theorem dX1_mayBeAt_17 : decode cX1_mayBeAt 17 = .ok (.iconst 1, 1) := by decide +kernel
theorem dX1_mayBeAt_18 : decode cX1_mayBeAt 18 = .ok (.goto 4, 3) := by decide +kernel
theorem dX1_mayBeAt_21 : decode cX1_mayBeAt 21 = .ok (.iconst 0, 1) := by decide +kernel
theorem dX1_mayBeAt_22 : decode cX1_mayBeAt 22 = .ok (.ireturn, 1) := by decide +kernel
theorem dX1_tryPost_0 : decode cX1_tryPost 0 = .ok (.aload_n 0, 1) := by decide +kernel
theorem dX1_tryPost_1 : decode cX1_tryPost 1 = .ok (.getfield 12, 3) := by decide +kernel
theorem dX1_tryPost_4 : decode cX1_tryPost 4 = .ok (.aload_n 1, 1) := by decide +kernel
theorem dX1_tryPost_5 : decode cX1_tryPost 5 = .ok (.invokevirtual 18, 3) := by decide +kernel
theorem dX1_tryPost_8 : decode cX1_tryPost 8 = .ok (.aload_n 0, 1) := by decide +kernel
theorem dX1_tryPost_9 : decode cX1_tryPost 9 = .ok (.getfield 12, 3) := by decide +kernel
theorem dX1_tryPost_12 : decode cX1_tryPost 12 = .ok (.getfield 48, 3) := by decide +kernel
theorem dX1_tryPost_15 : decode cX1_tryPost 15 = .ok (.iload_n 2, 1) := by decide +kernel
theorem dX1_tryPost_16 : decode cX1_tryPost 16 = .ok (.iload_n 3, 1) := by decide +kernel
theorem dX1_tryPost_17 : decode cX1_tryPost 17 = .ok (.iastore, 1) := by decide +kernel
theorem dX1_tryPost_18 : decode cX1_tryPost 18 = .ok (.aload_n 0, 1) := by decide +kernel
theorem dX1_tryPost_19 : decode cX1_tryPost 19 = .ok (.getfield 12, 3) := by decide +kernel
theorem dX1_tryPost_22 : decode cX1_tryPost 22 = .ok (.iload 4, 2) := by decide +kernel
theorem dX1_tryPost_24 : decode cX1_tryPost 24 = .ok (.invokevirtual 22, 3) := by decide +kernel
theorem dX1_tryPost_27 : decode cX1_tryPost 27 = .ok (.return_, 1) := by decide +kernel
theorem dX1_choosePost_0 : decode cX1_choosePost 0 = .ok (.aload_n 0, 1) := by decide +kernel
theorem dX1_choosePost_1 : decode cX1_choosePost 1 = .ok (.invokevirtual 52, 3) := by decide +kernel
theorem dX1_choosePost_4 : decode cX1_choosePost 4 = .ok (.iconst 0, 1) := by decide +kernel
theorem dX1_choosePost_5 : decode cX1_choosePost 5 = .ok (.istore 4, 2) := by decide +kernel
theorem dX1_choosePost_7 : decode cX1_choosePost 7 = .ok (.iload 4, 2) := by decide +kernel
theorem dX1_choosePost_9 : decode cX1_choosePost 9 = .ok (.bipush 12, 2) := by decide +kernel
theorem dX1_choosePost_11 : decode cX1_choosePost 11 = .ok (.if_icmp .ge 41, 3) := by decide +kernel
theorem dX1_choosePost_14 : decode cX1_choosePost 14 = .ok (.aload_n 1, 1) := by decide +kernel
theorem dX1_choosePost_15 : decode cX1_choosePost 15 = .ok (.iload_n 2, 1) := by decide +kernel
theorem dX1_choosePost_16 : decode cX1_choosePost 16 = .ok (.iload 4, 2) := by decide +kernel
theorem dX1_choosePost_18 : decode cX1_choosePost 18 = .ok (.invokestatic 55, 3) := by decide +kernel
theorem dX1_choosePost_21 : decode cX1_choosePost 21 = .ok (.ifCond .eq 25, 3) := by decide +kernel
theorem dX1_choosePost_24 : decode cX1_choosePost 24 = .ok (.aload_n 0, 1) := by decide +kernel
theorem dX1_choosePost_25 : decode cX1_choosePost 25 = .ok (.aload_n 1, 1) := by decide +kernel
theorem dX1_choosePost_26 : decode cX1_choosePost 26 = .ok (.iload_n 2, 1) := by decide +kernel
theorem dX1_choosePost_27 : decode cX1_choosePost 27 = .ok (.iload 4, 2) := by decide +kernel
theorem dX1_choosePost_29 : decode cX1_choosePost 29 = .ok (.iload_n 3, 1) := by decide +kernel
theorem dX1_choosePost_30 : decode cX1_choosePost 30 = .ok (.invokevirtual 59, 3) := by decide +kernel
theorem dX1_choosePost_33 : decode cX1_choosePost 33 = .ok (.aload_n 0, 1) := by decide +kernel
theorem dX1_choosePost_34 : decode cX1_choosePost 34 = .ok (.iload 4, 2) := by decide +kernel
theorem dX1_choosePost_36 : decode cX1_choosePost 36 = .ok (.aload_n 0, 1) := by decide +kernel
theorem dX1_choosePost_37 : decode cX1_choosePost 37 = .ok (.getfield 12, 3) := by decide +kernel
theorem dX1_choosePost_40 : decode cX1_choosePost 40 = .ok (.invokevirtual 33, 3) := by decide +kernel
theorem dX1_choosePost_43 : decode cX1_choosePost 43 = .ok (.invokevirtual 63, 3) := by decide +kernel
theorem dX1_choosePost_46 : decode cX1_choosePost 46 = .ok (.iinc 4 1, 3) := by decide +kernel
theorem dX1_choosePost_49 : decode cX1_choosePost 49 = .ok (.goto (-42), 3) := by decide +kernel
theorem dX1_choosePost_52 : decode cX1_choosePost 52 = .ok (.return_, 1) := by decide +kernel
theorem dX1_safeInches_0 : decode cX1_safeInches 0 = .ok (.iconst 0, 1) := by decide +kernel
theorem dX1_safeInches_1 : decode cX1_safeInches 1 = .ok (.istore 4, 2) := by decide +kernel
theorem dX1_safeInches_3 : decode cX1_safeInches 3 = .ok (.iconst 0, 1) := by decide +kernel
theorem dX1_safeInches_4 : decode cX1_safeInches 4 = .ok (.istore 5, 2) := by decide +kernel
theorem dX1_safeInches_6 : decode cX1_safeInches 6 = .ok (.iload 5, 2) := by decide +kernel
theorem dX1_safeInches_8 : decode cX1_safeInches 8 = .ok (.bipush 12, 2) := by decide +kernel
theorem dX1_safeInches_10 : decode cX1_safeInches 10 = .ok (.if_icmp .ge 48, 3) := by decide +kernel
theorem dX1_safeInches_13 : decode cX1_safeInches 13 = .ok (.aload_n 1, 1) := by decide +kernel
theorem dX1_safeInches_14 : decode cX1_safeInches 14 = .ok (.iload_n 2, 1) := by decide +kernel
theorem dX1_safeInches_15 : decode cX1_safeInches 15 = .ok (.iload 5, 2) := by decide +kernel
theorem dX1_safeInches_17 : decode cX1_safeInches 17 = .ok (.invokestatic 55, 3) := by decide +kernel
theorem dX1_safeInches_20 : decode cX1_safeInches 20 = .ok (.ifCond .eq 32, 3) := by decide +kernel
theorem dX1_safeInches_23 : decode cX1_safeInches 23 = .ok (.aload_n 0, 1) := by decide +kernel
theorem dX1_safeInches_24 : decode cX1_safeInches 24 = .ok (.aload_n 1, 1) := by decide +kernel
theorem dX1_safeInches_25 : decode cX1_safeInches 25 = .ok (.iload_n 2, 1) := by decide +kernel
theorem dX1_safeInches_26 : decode cX1_safeInches 26 = .ok (.iload 5, 2) := by decide +kernel
theorem dX1_safeInches_28 : decode cX1_safeInches 28 = .ok (.iload_n 3, 1) := by decide +kernel
theorem dX1_safeInches_29 : decode cX1_safeInches 29 = .ok (.invokevirtual 59, 3) := by decide +kernel
theorem dX1_safeInches_32 : decode cX1_safeInches 32 = .ok (.aload_n 0, 1) := by decide +kernel
theorem dX1_safeInches_33 : decode cX1_safeInches 33 = .ok (.getfield 12, 3) := by decide +kernel
theorem dX1_safeInches_36 : decode cX1_safeInches 36 = .ok (.iload_n 2, 1) := by decide +kernel
theorem dX1_safeInches_37 : decode cX1_safeInches 37 = .ok (.invokevirtual 26, 3) := by decide +kernel
theorem dX1_safeInches_40 : decode cX1_safeInches 40 = .ok (.ifCond .eq 12, 3) := by decide +kernel
theorem dX1_safeInches_43 : decode cX1_safeInches 43 = .ok (.iload 4, 2) := by decide +kernel
theorem dX1_safeInches_45 : decode cX1_safeInches 45 = .ok (.iconst 1, 1) := by decide +kernel
theorem dX1_safeInches_46 : decode cX1_safeInches 46 = .ok (.iload 5, 2) := by decide +kernel
theorem dX1_safeInches_48 : decode cX1_safeInches 48 = .ok (.ishl, 1) := by decide +kernel
theorem dX1_safeInches_49 : decode cX1_safeInches 49 = .ok (.ior, 1) := by decide +kernel
theorem dX1_safeInches_50 : decode cX1_safeInches 50 = .ok (.istore 4, 2) := by decide +kernel
theorem dX1_safeInches_52 : decode cX1_safeInches 52 = .ok (.iinc 5 1, 3) := by decide +kernel
theorem dX1_safeInches_55 : decode cX1_safeInches 55 = .ok (.goto (-49), 3) := by decide +kernel
theorem dX1_safeInches_58 : decode cX1_safeInches 58 = .ok (.iload 4, 2) := by decide +kernel
theorem dX1_safeInches_60 : decode cX1_safeInches 60 = .ok (.ireturn, 1) := by decide +kernel
theorem dX1_chooseChange_0 : decode cX1_chooseChange 0 = .ok (.aload_n 0, 1) := by decide +kernel
theorem dX1_chooseChange_1 : decode cX1_chooseChange 1 = .ok (.invokevirtual 52, 3) := by decide +kernel
theorem dX1_chooseChange_4 : decode cX1_chooseChange 4 = .ok (.iconst 0, 1) := by decide +kernel
theorem dX1_chooseChange_5 : decode cX1_chooseChange 5 = .ok (.istore_n 3, 1) := by decide +kernel
theorem dX1_chooseChange_6 : decode cX1_chooseChange 6 = .ok (.iload_n 3, 1) := by decide +kernel
theorem dX1_chooseChange_7 : decode cX1_chooseChange 7 = .ok (.aload_n 1, 1) := by decide +kernel
theorem dX1_chooseChange_8 : decode cX1_chooseChange 8 = .ok (.getfield 67, 3) := by decide +kernel
theorem dX1_chooseChange_11 : decode cX1_chooseChange 11 = .ok (.if_icmp .ge 112, 3) := by decide +kernel
theorem dX1_chooseChange_14 : decode cX1_chooseChange 14 = .ok (.iload_n 3, 1) := by decide +kernel
theorem dX1_chooseChange_15 : decode cX1_chooseChange 15 = .ok (.iconst 1, 1) := by decide +kernel
theorem dX1_chooseChange_16 : decode cX1_chooseChange 16 = .ok (.iadd, 1) := by decide +kernel
theorem dX1_chooseChange_17 : decode cX1_chooseChange 17 = .ok (.istore 4, 2) := by decide +kernel
theorem dX1_chooseChange_19 : decode cX1_chooseChange 19 = .ok (.iload 4, 2) := by decide +kernel
theorem dX1_chooseChange_21 : decode cX1_chooseChange 21 = .ok (.aload_n 1, 1) := by decide +kernel
theorem dX1_chooseChange_22 : decode cX1_chooseChange 22 = .ok (.getfield 67, 3) := by decide +kernel
theorem dX1_chooseChange_25 : decode cX1_chooseChange 25 = .ok (.if_icmp .ge 92, 3) := by decide +kernel
theorem dX1_chooseChange_28 : decode cX1_chooseChange 28 = .ok (.aload_n 1, 1) := by decide +kernel
theorem dX1_chooseChange_29 : decode cX1_chooseChange 29 = .ok (.iload_n 3, 1) := by decide +kernel
theorem dX1_chooseChange_30 : decode cX1_chooseChange 30 = .ok (.invokevirtual 26, 3) := by decide +kernel
theorem dX1_chooseChange_33 : decode cX1_chooseChange 33 = .ok (.ifCond .eq 78, 3) := by decide +kernel
theorem dX1_chooseChange_36 : decode cX1_chooseChange 36 = .ok (.aload_n 1, 1) := by decide +kernel
theorem dX1_chooseChange_37 : decode cX1_chooseChange 37 = .ok (.iload 4, 2) := by decide +kernel
theorem dX1_chooseChange_39 : decode cX1_chooseChange 39 = .ok (.invokevirtual 26, 3) := by decide +kernel
theorem dX1_chooseChange_42 : decode cX1_chooseChange 42 = .ok (.ifCond .eq 69, 3) := by decide +kernel
theorem dX1_chooseChange_45 : decode cX1_chooseChange 45 = .ok (.aload_n 0, 1) := by decide +kernel
theorem dX1_chooseChange_46 : decode cX1_chooseChange 46 = .ok (.getfield 12, 3) := by decide +kernel
theorem dX1_chooseChange_49 : decode cX1_chooseChange 49 = .ok (.aload_n 1, 1) := by decide +kernel
theorem dX1_chooseChange_50 : decode cX1_chooseChange 50 = .ok (.invokevirtual 18, 3) := by decide +kernel
theorem dX1_chooseChange_53 : decode cX1_chooseChange 53 = .ok (.aload_n 0, 1) := by decide +kernel
theorem dX1_chooseChange_54 : decode cX1_chooseChange 54 = .ok (.getfield 12, 3) := by decide +kernel
theorem dX1_chooseChange_57 : decode cX1_chooseChange 57 = .ok (.getfield 48, 3) := by decide +kernel
theorem dX1_chooseChange_60 : decode cX1_chooseChange 60 = .ok (.iload_n 3, 1) := by decide +kernel
theorem dX1_chooseChange_61 : decode cX1_chooseChange 61 = .ok (.aload_n 1, 1) := by decide +kernel
theorem dX1_chooseChange_62 : decode cX1_chooseChange 62 = .ok (.getfield 48, 3) := by decide +kernel
theorem dX1_chooseChange_65 : decode cX1_chooseChange 65 = .ok (.iload 4, 2) := by decide +kernel
theorem dX1_chooseChange_67 : decode cX1_chooseChange 67 = .ok (.iaload, 1) := by decide +kernel
theorem dX1_chooseChange_68 : decode cX1_chooseChange 68 = .ok (.iastore, 1) := by decide +kernel
theorem dX1_chooseChange_69 : decode cX1_chooseChange 69 = .ok (.aload_n 0, 1) := by decide +kernel
theorem dX1_chooseChange_70 : decode cX1_chooseChange 70 = .ok (.getfield 12, 3) := by decide +kernel
theorem dX1_chooseChange_73 : decode cX1_chooseChange 73 = .ok (.getfield 48, 3) := by decide +kernel
theorem dX1_chooseChange_76 : decode cX1_chooseChange 76 = .ok (.iload 4, 2) := by decide +kernel
theorem dX1_chooseChange_78 : decode cX1_chooseChange 78 = .ok (.aload_n 1, 1) := by decide +kernel
theorem dX1_chooseChange_79 : decode cX1_chooseChange 79 = .ok (.getfield 48, 3) := by decide +kernel
theorem dX1_chooseChange_82 : decode cX1_chooseChange 82 = .ok (.iload_n 3, 1) := by decide +kernel
theorem dX1_chooseChange_83 : decode cX1_chooseChange 83 = .ok (.iaload, 1) := by decide +kernel
theorem dX1_chooseChange_84 : decode cX1_chooseChange 84 = .ok (.iastore, 1) := by decide +kernel
theorem dX1_chooseChange_85 : decode cX1_chooseChange 85 = .ok (.aload_n 0, 1) := by decide +kernel
theorem dX1_chooseChange_86 : decode cX1_chooseChange 86 = .ok (.getfield 12, 3) := by decide +kernel
theorem dX1_chooseChange_89 : decode cX1_chooseChange 89 = .ok (.iload_n 2, 1) := by decide +kernel
theorem dX1_chooseChange_90 : decode cX1_chooseChange 90 = .ok (.invokevirtual 22, 3) := by decide +kernel
theorem dX1_chooseChange_93 : decode cX1_chooseChange 93 = .ok (.aload_n 0, 1) := by decide +kernel
theorem dX1_chooseChange_94 : decode cX1_chooseChange 94 = .ok (.bipush 10, 2) := by decide +kernel
theorem dX1_chooseChange_96 : decode cX1_chooseChange 96 = .ok (.iload_n 3, 1) := by decide +kernel
theorem dX1_chooseChange_97 : decode cX1_chooseChange 97 = .ok (.imul, 1) := by decide +kernel
theorem dX1_chooseChange_98 : decode cX1_chooseChange 98 = .ok (.iload 4, 2) := by decide +kernel
theorem dX1_chooseChange_100 : decode cX1_chooseChange 100 = .ok (.iadd, 1) := by decide +kernel
theorem dX1_chooseChange_101 : decode cX1_chooseChange 101 = .ok (.aload_n 0, 1) := by decide +kernel
theorem dX1_chooseChange_102 : decode cX1_chooseChange 102 = .ok (.getfield 12, 3) := by decide +kernel
theorem dX1_chooseChange_105 : decode cX1_chooseChange 105 = .ok (.invokevirtual 33, 3) := by decide +kernel
theorem dX1_chooseChange_108 : decode cX1_chooseChange 108 = .ok (.invokevirtual 63, 3) := by decide +kernel
theorem dX1_chooseChange_111 : decode cX1_chooseChange 111 = .ok (.iinc 4 1, 3) := by decide +kernel
theorem dX1_chooseChange_114 : decode cX1_chooseChange 114 = .ok (.goto (-95), 3) := by decide +kernel
theorem dX1_chooseChange_117 : decode cX1_chooseChange 117 = .ok (.iinc 3 1, 3) := by decide +kernel
theorem dX1_chooseChange_120 : decode cX1_chooseChange 120 = .ok (.goto (-114), 3) := by decide +kernel
theorem dX1_chooseChange_123 : decode cX1_chooseChange 123 = .ok (.return_, 1) := by decide +kernel
theorem dX1_fewestGuards_0 : decode cX1_fewestGuards 0 = .ok (.aload_n 1, 1) := by decide +kernel
theorem dX1_fewestGuards_1 : decode cX1_fewestGuards 1 = .ok (.invokevirtual 70, 3) := by decide +kernel
theorem dX1_fewestGuards_4 : decode cX1_fewestGuards 4 = .ok (.istore_n 3, 1) := by decide +kernel
theorem dX1_fewestGuards_5 : decode cX1_fewestGuards 5 = .ok (.aload_n 1, 1) := by decide +kernel
theorem dX1_fewestGuards_6 : decode cX1_fewestGuards 6 = .ok (.iload_n 3, 1) := by decide +kernel
theorem dX1_fewestGuards_7 : decode cX1_fewestGuards 7 = .ok (.iload_n 2, 1) := by decide +kernel
theorem dX1_fewestGuards_8 : decode cX1_fewestGuards 8 = .ok (.invokevirtual 73, 3) := by decide +kernel
theorem dX1_fewestGuards_11 : decode cX1_fewestGuards 11 = .ok (.istore 4, 2) := by decide +kernel
theorem dX1_fewestGuards_13 : decode cX1_fewestGuards 13 = .ok (.iload_n 3, 1) := by decide +kernel
theorem dX1_fewestGuards_14 : decode cX1_fewestGuards 14 = .ok (.istore 5, 2) := by decide +kernel
theorem dX1_fewestGuards_16 : decode cX1_fewestGuards 16 = .ok (.iconst 0, 1) := by decide +kernel
theorem dX1_fewestGuards_17 : decode cX1_fewestGuards 17 = .ok (.istore 6, 2) := by decide +kernel
theorem dX1_fewestGuards_19 : decode cX1_fewestGuards 19 = .ok (.iload 6, 2) := by decide +kernel
theorem dX1_fewestGuards_21 : decode cX1_fewestGuards 21 = .ok (.iload_n 3, 1) := by decide +kernel
theorem dX1_fewestGuards_22 : decode cX1_fewestGuards 22 = .ok (.if_icmp .gt 71, 3) := by decide +kernel
theorem dX1_fewestGuards_25 : decode cX1_fewestGuards 25 = .ok (.iload 6, 2) := by decide +kernel
theorem dX1_fewestGuards_27 : decode cX1_fewestGuards 27 = .ok (.iload_n 3, 1) := by decide +kernel
theorem dX1_fewestGuards_28 : decode cX1_fewestGuards 28 = .ok (.iconst (-1), 1) := by decide +kernel
theorem dX1_fewestGuards_29 : decode cX1_fewestGuards 29 = .ok (.ixor, 1) := by decide +kernel
theorem dX1_fewestGuards_30 : decode cX1_fewestGuards 30 = .ok (.iand, 1) := by decide +kernel
theorem dX1_fewestGuards_31 : decode cX1_fewestGuards 31 = .ok (.ifCond .ne 7, 3) := by decide +kernel
theorem dX1_fewestGuards_34 : decode cX1_fewestGuards 34 = .ok (.iconst 1, 1) := by decide +kernel
theorem dX1_fewestGuards_35 : decode cX1_fewestGuards 35 = .ok (.goto 4, 3) := by decide +kernel
theorem dX1_fewestGuards_38 : decode cX1_fewestGuards 38 = .ok (.iconst 0, 1) := by decide +kernel
theorem dX1_fewestGuards_39 : decode cX1_fewestGuards 39 = .ok (.istore 7, 2) := by decide +kernel
theorem dX1_fewestGuards_41 : decode cX1_fewestGuards 41 = .ok (.iload 6, 2) := by decide +kernel
theorem dX1_fewestGuards_43 : decode cX1_fewestGuards 43 = .ok (.invokestatic 77, 3) := by decide +kernel
theorem dX1_fewestGuards_46 : decode cX1_fewestGuards 46 = .ok (.iload 5, 2) := by decide +kernel
theorem dX1_fewestGuards_48 : decode cX1_fewestGuards 48 = .ok (.invokestatic 77, 3) := by decide +kernel
theorem dX1_fewestGuards_51 : decode cX1_fewestGuards 51 = .ok (.if_icmp .ge 7, 3) := by decide +kernel
theorem dX1_fewestGuards_54 : decode cX1_fewestGuards 54 = .ok (.iconst 1, 1) := by decide +kernel
theorem dX1_fewestGuards_55 : decode cX1_fewestGuards 55 = .ok (.goto 4, 3) := by decide +kernel
theorem dX1_fewestGuards_58 : decode cX1_fewestGuards 58 = .ok (.iconst 0, 1) := by decide +kernel
theorem dX1_fewestGuards_59 : decode cX1_fewestGuards 59 = .ok (.istore 8, 2) := by decide +kernel
theorem dX1_fewestGuards_61 : decode cX1_fewestGuards 61 = .ok (.iload 7, 2) := by decide +kernel
theorem dX1_fewestGuards_63 : decode cX1_fewestGuards 63 = .ok (.ifCond .eq 24, 3) := by decide +kernel
theorem dX1_fewestGuards_66 : decode cX1_fewestGuards 66 = .ok (.iload 8, 2) := by decide +kernel
theorem dX1_fewestGuards_68 : decode cX1_fewestGuards 68 = .ok (.ifCond .eq 19, 3) := by decide +kernel
theorem dX1_fewestGuards_71 : decode cX1_fewestGuards 71 = .ok (.aload_n 1, 1) := by decide +kernel
theorem dX1_fewestGuards_72 : decode cX1_fewestGuards 72 = .ok (.iload 6, 2) := by decide +kernel
theorem dX1_fewestGuards_74 : decode cX1_fewestGuards 74 = .ok (.iload_n 2, 1) := by decide +kernel
theorem dX1_fewestGuards_75 : decode cX1_fewestGuards 75 = .ok (.invokevirtual 73, 3) := by decide +kernel
theorem dX1_fewestGuards_78 : decode cX1_fewestGuards 78 = .ok (.iload 4, 2) := by decide +kernel
theorem dX1_fewestGuards_80 : decode cX1_fewestGuards 80 = .ok (.if_icmp .ne 7, 3) := by decide +kernel
theorem dX1_fewestGuards_83 : decode cX1_fewestGuards 83 = .ok (.iload 6, 2) := by decide +kernel
theorem dX1_fewestGuards_85 : decode cX1_fewestGuards 85 = .ok (.istore 5, 2) := by decide +kernel
theorem dX1_fewestGuards_87 : decode cX1_fewestGuards 87 = .ok (.iinc 6 1, 3) := by decide +kernel
theorem dX1_fewestGuards_90 : decode cX1_fewestGuards 90 = .ok (.goto (-71), 3) := by decide +kernel
theorem dX1_fewestGuards_93 : decode cX1_fewestGuards 93 = .ok (.iload 5, 2) := by decide +kernel
theorem dX1_fewestGuards_95 : decode cX1_fewestGuards 95 = .ok (.ireturn, 1) := by decide +kernel
theorem dX1_greatestCalm_0 : decode cX1_greatestCalm 0 = .ok (.aload_n 1, 1) := by decide +kernel
theorem dX1_greatestCalm_1 : decode cX1_greatestCalm 1 = .ok (.invokevirtual 70, 3) := by decide +kernel
theorem dX1_greatestCalm_4 : decode cX1_greatestCalm 4 = .ok (.istore_n 3, 1) := by decide +kernel
theorem dX1_greatestCalm_5 : decode cX1_greatestCalm 5 = .ok (.bipush 12, 2) := by decide +kernel
theorem dX1_greatestCalm_7 : decode cX1_greatestCalm 7 = .ok (.istore 4, 2) := by decide +kernel
theorem dX1_greatestCalm_9 : decode cX1_greatestCalm 9 = .ok (.iload 4, 2) := by decide +kernel
theorem dX1_greatestCalm_11 : decode cX1_greatestCalm 11 = .ok (.ifCond .le 48, 3) := by decide +kernel
theorem dX1_greatestCalm_14 : decode cX1_greatestCalm 14 = .ok (.aload_n 0, 1) := by decide +kernel
theorem dX1_greatestCalm_15 : decode cX1_greatestCalm 15 = .ok (.getfield 12, 3) := by decide +kernel
theorem dX1_greatestCalm_18 : decode cX1_greatestCalm 18 = .ok (.aload_n 1, 1) := by decide +kernel
theorem dX1_greatestCalm_19 : decode cX1_greatestCalm 19 = .ok (.invokevirtual 18, 3) := by decide +kernel
theorem dX1_greatestCalm_22 : decode cX1_greatestCalm 22 = .ok (.aload_n 0, 1) := by decide +kernel
theorem dX1_greatestCalm_23 : decode cX1_greatestCalm 23 = .ok (.getfield 12, 3) := by decide +kernel
theorem dX1_greatestCalm_26 : decode cX1_greatestCalm 26 = .ok (.iload 4, 2) := by decide +kernel
theorem dX1_greatestCalm_28 : decode cX1_greatestCalm 28 = .ok (.putfield 82, 3) := by decide +kernel
theorem dX1_greatestCalm_31 : decode cX1_greatestCalm 31 = .ok (.aload_n 0, 1) := by decide +kernel
theorem dX1_greatestCalm_32 : decode cX1_greatestCalm 32 = .ok (.getfield 12, 3) := by decide +kernel
theorem dX1_greatestCalm_35 : decode cX1_greatestCalm 35 = .ok (.iload_n 2, 1) := by decide +kernel
theorem dX1_greatestCalm_36 : decode cX1_greatestCalm 36 = .ok (.invokevirtual 22, 3) := by decide +kernel
theorem dX1_greatestCalm_39 : decode cX1_greatestCalm 39 = .ok (.aload_n 0, 1) := by decide +kernel
theorem dX1_greatestCalm_40 : decode cX1_greatestCalm 40 = .ok (.getfield 12, 3) := by decide +kernel
theorem dX1_greatestCalm_43 : decode cX1_greatestCalm 43 = .ok (.invokevirtual 70, 3) := by decide +kernel
theorem dX1_greatestCalm_46 : decode cX1_greatestCalm 46 = .ok (.iload_n 3, 1) := by decide +kernel
theorem dX1_greatestCalm_47 : decode cX1_greatestCalm 47 = .ok (.if_icmp .ne 6, 3) := by decide +kernel
theorem dX1_greatestCalm_50 : decode cX1_greatestCalm 50 = .ok (.iload 4, 2) := by decide +kernel
theorem dX1_greatestCalm_52 : decode cX1_greatestCalm 52 = .ok (.ireturn, 1) := by decide +kernel
theorem dX1_greatestCalm_53 : decode cX1_greatestCalm 53 = .ok (.iinc 4 (-1), 3) := by decide +kernel
theorem dX1_greatestCalm_56 : decode cX1_greatestCalm 56 = .ok (.goto (-47), 3) := by decide +kernel
theorem dX1_greatestCalm_59 : decode cX1_greatestCalm 59 = .ok (.iconst 0, 1) := by decide +kernel
theorem dX1_greatestCalm_60 : decode cX1_greatestCalm 60 = .ok (.ireturn, 1) := by decide +kernel
theorem dX1_wearsAs_0 : decode cX1_wearsAs 0 = .ok (.iconst 0, 1) := by decide +kernel
theorem dX1_wearsAs_1 : decode cX1_wearsAs 1 = .ok (.istore_n 3, 1) := by decide +kernel
theorem dX1_wearsAs_2 : decode cX1_wearsAs 2 = .ok (.iload_n 3, 1) := by decide +kernel
theorem dX1_wearsAs_3 : decode cX1_wearsAs 3 = .ok (.aload_n 2, 1) := by decide +kernel
theorem dX1_wearsAs_4 : decode cX1_wearsAs 4 = .ok (.getfield 85, 3) := by decide +kernel
theorem dX1_wearsAs_7 : decode cX1_wearsAs 7 = .ok (.if_icmp .ge 43, 3) := by decide +kernel
theorem dX1_wearsAs_10 : decode cX1_wearsAs 10 = .ok (.aload_n 0, 1) := by decide +kernel
theorem dX1_wearsAs_11 : decode cX1_wearsAs 11 = .ok (.getfield 12, 3) := by decide +kernel
theorem dX1_wearsAs_14 : decode cX1_wearsAs 14 = .ok (.invokevirtual 30, 3) := by decide +kernel
theorem dX1_wearsAs_17 : decode cX1_wearsAs 17 = .ok (.aload_n 2, 1) := by decide +kernel
theorem dX1_wearsAs_18 : decode cX1_wearsAs 18 = .ok (.getfield 90, 3) := by decide +kernel
theorem dX1_wearsAs_21 : decode cX1_wearsAs 21 = .ok (.aload_n 2, 1) := by decide +kernel
theorem dX1_wearsAs_22 : decode cX1_wearsAs 22 = .ok (.getfield 94, 3) := by decide +kernel
theorem dX1_wearsAs_25 : decode cX1_wearsAs 25 = .ok (.iload_n 3, 1) := by decide +kernel
theorem dX1_wearsAs_26 : decode cX1_wearsAs 26 = .ok (.iadd, 1) := by decide +kernel
theorem dX1_wearsAs_27 : decode cX1_wearsAs 27 = .ok (.laload, 1) := by decide +kernel
theorem dX1_wearsAs_28 : decode cX1_wearsAs 28 = .ok (.aload_n 0, 1) := by decide +kernel
theorem dX1_wearsAs_29 : decode cX1_wearsAs 29 = .ok (.getfield 12, 3) := by decide +kernel
theorem dX1_wearsAs_32 : decode cX1_wearsAs 32 = .ok (.getfield 97, 3) := by decide +kernel
theorem dX1_wearsAs_35 : decode cX1_wearsAs 35 = .ok (.iload_n 1, 1) := by decide +kernel
theorem dX1_wearsAs_36 : decode cX1_wearsAs 36 = .ok (.iaload, 1) := by decide +kernel
theorem dX1_wearsAs_37 : decode cX1_wearsAs 37 = .ok (.i2l, 1) := by decide +kernel
theorem dX1_wearsAs_38 : decode cX1_wearsAs 38 = .ok (.lcmp, 1) := by decide +kernel
theorem dX1_wearsAs_39 : decode cX1_wearsAs 39 = .ok (.ifCond .eq 5, 3) := by decide +kernel
theorem dX1_wearsAs_42 : decode cX1_wearsAs 42 = .ok (.iconst 0, 1) := by decide +kernel
theorem dX1_wearsAs_43 : decode cX1_wearsAs 43 = .ok (.ireturn, 1) := by decide +kernel
theorem dX1_wearsAs_44 : decode cX1_wearsAs 44 = .ok (.iinc 3 1, 3) := by decide +kernel
theorem dX1_wearsAs_47 : decode cX1_wearsAs 47 = .ok (.goto (-45), 3) := by decide +kernel
theorem dX1_wearsAs_50 : decode cX1_wearsAs 50 = .ok (.iconst 1, 1) := by decide +kernel
theorem dX1_wearsAs_51 : decode cX1_wearsAs 51 = .ok (.ireturn, 1) := by decide +kernel
theorem dX1_kindsWorn_0 : decode cX1_kindsWorn 0 = .ok (.iconst 0, 1) := by decide +kernel
theorem dX1_kindsWorn_1 : decode cX1_kindsWorn 1 = .ok (.istore 4, 2) := by decide +kernel
theorem dX1_kindsWorn_3 : decode cX1_kindsWorn 3 = .ok (.iconst 0, 1) := by decide +kernel
theorem dX1_kindsWorn_4 : decode cX1_kindsWorn 4 = .ok (.istore 5, 2) := by decide +kernel
theorem dX1_kindsWorn_6 : decode cX1_kindsWorn 6 = .ok (.iload 5, 2) := by decide +kernel
theorem dX1_kindsWorn_8 : decode cX1_kindsWorn 8 = .ok (.iconst 4, 1) := by decide +kernel
theorem dX1_kindsWorn_9 : decode cX1_kindsWorn 9 = .ok (.if_icmp .gt 50, 3) := by decide +kernel
theorem dX1_kindsWorn_12 : decode cX1_kindsWorn 12 = .ok (.aload_n 0, 1) := by decide +kernel
theorem dX1_kindsWorn_13 : decode cX1_kindsWorn 13 = .ok (.getfield 12, 3) := by decide +kernel
theorem dX1_kindsWorn_16 : decode cX1_kindsWorn 16 = .ok (.aload_n 1, 1) := by decide +kernel
theorem dX1_kindsWorn_17 : decode cX1_kindsWorn 17 = .ok (.invokevirtual 18, 3) := by decide +kernel
theorem dX1_kindsWorn_20 : decode cX1_kindsWorn 20 = .ok (.aload_n 0, 1) := by decide +kernel
theorem dX1_kindsWorn_21 : decode cX1_kindsWorn 21 = .ok (.getfield 12, 3) := by decide +kernel
theorem dX1_kindsWorn_24 : decode cX1_kindsWorn 24 = .ok (.getfield 100, 3) := by decide +kernel
theorem dX1_kindsWorn_27 : decode cX1_kindsWorn 27 = .ok (.iload_n 2, 1) := by decide +kernel
theorem dX1_kindsWorn_28 : decode cX1_kindsWorn 28 = .ok (.iload 5, 2) := by decide +kernel
theorem dX1_kindsWorn_30 : decode cX1_kindsWorn 30 = .ok (.iastore, 1) := by decide +kernel
theorem dX1_kindsWorn_31 : decode cX1_kindsWorn 31 = .ok (.iload 4, 2) := by decide +kernel
theorem dX1_kindsWorn_33 : decode cX1_kindsWorn 33 = .ok (.aload_n 0, 1) := by decide +kernel
theorem dX1_kindsWorn_34 : decode cX1_kindsWorn 34 = .ok (.iload_n 2, 1) := by decide +kernel
theorem dX1_kindsWorn_35 : decode cX1_kindsWorn 35 = .ok (.aload_n 3, 1) := by decide +kernel
theorem dX1_kindsWorn_36 : decode cX1_kindsWorn 36 = .ok (.invokevirtual 103, 3) := by decide +kernel
theorem dX1_kindsWorn_39 : decode cX1_kindsWorn 39 = .ok (.ifCond .eq 10, 3) := by decide +kernel
theorem dX1_kindsWorn_42 : decode cX1_kindsWorn 42 = .ok (.iconst 1, 1) := by decide +kernel
theorem dX1_kindsWorn_43 : decode cX1_kindsWorn 43 = .ok (.iload 5, 2) := by decide +kernel
theorem dX1_kindsWorn_45 : decode cX1_kindsWorn 45 = .ok (.ishl, 1) := by decide +kernel
theorem dX1_kindsWorn_46 : decode cX1_kindsWorn 46 = .ok (.goto 4, 3) := by decide +kernel
theorem dX1_kindsWorn_49 : decode cX1_kindsWorn 49 = .ok (.iconst 0, 1) := by decide +kernel
theorem dX1_kindsWorn_50 : decode cX1_kindsWorn 50 = .ok (.ior, 1) := by decide +kernel
theorem dX1_kindsWorn_51 : decode cX1_kindsWorn 51 = .ok (.istore 4, 2) := by decide +kernel
theorem dX1_kindsWorn_53 : decode cX1_kindsWorn 53 = .ok (.iinc 5 1, 3) := by decide +kernel
theorem dX1_kindsWorn_56 : decode cX1_kindsWorn 56 = .ok (.goto (-50), 3) := by decide +kernel
theorem dX1_kindsWorn_59 : decode cX1_kindsWorn 59 = .ok (.iload 4, 2) := by decide +kernel
theorem dX1_kindsWorn_61 : decode cX1_kindsWorn 61 = .ok (.ireturn, 1) := by decide +kernel
theorem dX1_paintsWorn_0 : decode cX1_paintsWorn 0 = .ok (.iconst 0, 1) := by decide +kernel
theorem dX1_paintsWorn_1 : decode cX1_paintsWorn 1 = .ok (.istore 4, 2) := by decide +kernel
theorem dX1_paintsWorn_3 : decode cX1_paintsWorn 3 = .ok (.iconst 0, 1) := by decide +kernel
theorem dX1_paintsWorn_4 : decode cX1_paintsWorn 4 = .ok (.istore 5, 2) := by decide +kernel
theorem dX1_paintsWorn_6 : decode cX1_paintsWorn 6 = .ok (.iload 5, 2) := by decide +kernel
theorem dX1_paintsWorn_8 : decode cX1_paintsWorn 8 = .ok (.bipush 9, 2) := by decide +kernel
theorem dX1_paintsWorn_10 : decode cX1_paintsWorn 10 = .ok (.if_icmp .gt 50, 3) := by decide +kernel
theorem dX1_paintsWorn_13 : decode cX1_paintsWorn 13 = .ok (.aload_n 0, 1) := by decide +kernel
theorem dX1_paintsWorn_14 : decode cX1_paintsWorn 14 = .ok (.getfield 12, 3) := by decide +kernel
theorem dX1_paintsWorn_17 : decode cX1_paintsWorn 17 = .ok (.aload_n 1, 1) := by decide +kernel
theorem dX1_paintsWorn_18 : decode cX1_paintsWorn 18 = .ok (.invokevirtual 18, 3) := by decide +kernel
theorem dX1_paintsWorn_21 : decode cX1_paintsWorn 21 = .ok (.aload_n 0, 1) := by decide +kernel
theorem dX1_paintsWorn_22 : decode cX1_paintsWorn 22 = .ok (.getfield 12, 3) := by decide +kernel
theorem dX1_paintsWorn_25 : decode cX1_paintsWorn 25 = .ok (.getfield 97, 3) := by decide +kernel
theorem dX1_paintsWorn_28 : decode cX1_paintsWorn 28 = .ok (.iload_n 2, 1) := by decide +kernel
theorem dX1_paintsWorn_29 : decode cX1_paintsWorn 29 = .ok (.iload 5, 2) := by decide +kernel
theorem dX1_paintsWorn_31 : decode cX1_paintsWorn 31 = .ok (.iastore, 1) := by decide +kernel
theorem dX1_paintsWorn_32 : decode cX1_paintsWorn 32 = .ok (.iload 4, 2) := by decide +kernel
theorem dX1_paintsWorn_34 : decode cX1_paintsWorn 34 = .ok (.aload_n 0, 1) := by decide +kernel
theorem dX1_paintsWorn_35 : decode cX1_paintsWorn 35 = .ok (.iload_n 2, 1) := by decide +kernel
theorem dX1_paintsWorn_36 : decode cX1_paintsWorn 36 = .ok (.aload_n 3, 1) := by decide +kernel
theorem dX1_paintsWorn_37 : decode cX1_paintsWorn 37 = .ok (.invokevirtual 103, 3) := by decide +kernel
theorem dX1_paintsWorn_40 : decode cX1_paintsWorn 40 = .ok (.ifCond .eq 10, 3) := by decide +kernel
theorem dX1_paintsWorn_43 : decode cX1_paintsWorn 43 = .ok (.iconst 1, 1) := by decide +kernel
theorem dX1_paintsWorn_44 : decode cX1_paintsWorn 44 = .ok (.iload 5, 2) := by decide +kernel
theorem dX1_paintsWorn_46 : decode cX1_paintsWorn 46 = .ok (.ishl, 1) := by decide +kernel
theorem dX1_paintsWorn_47 : decode cX1_paintsWorn 47 = .ok (.goto 4, 3) := by decide +kernel
theorem dX1_paintsWorn_50 : decode cX1_paintsWorn 50 = .ok (.iconst 0, 1) := by decide +kernel
theorem dX1_paintsWorn_51 : decode cX1_paintsWorn 51 = .ok (.ior, 1) := by decide +kernel
theorem dX1_paintsWorn_52 : decode cX1_paintsWorn 52 = .ok (.istore 4, 2) := by decide +kernel
theorem dX1_paintsWorn_54 : decode cX1_paintsWorn 54 = .ok (.iinc 5 1, 3) := by decide +kernel
theorem dX1_paintsWorn_57 : decode cX1_paintsWorn 57 = .ok (.goto (-51), 3) := by decide +kernel
theorem dX1_paintsWorn_60 : decode cX1_paintsWorn 60 = .ok (.iload 4, 2) := by decide +kernel
theorem dX1_paintsWorn_62 : decode cX1_paintsWorn 62 = .ok (.ireturn, 1) := by decide +kernel
theorem dX1_heightsWorn_0 : decode cX1_heightsWorn 0 = .ok (.iconst 0, 1) := by decide +kernel
theorem dX1_heightsWorn_1 : decode cX1_heightsWorn 1 = .ok (.istore 4, 2) := by decide +kernel
theorem dX1_heightsWorn_3 : decode cX1_heightsWorn 3 = .ok (.iconst 0, 1) := by decide +kernel
theorem dX1_heightsWorn_4 : decode cX1_heightsWorn 4 = .ok (.istore 5, 2) := by decide +kernel
theorem dX1_heightsWorn_6 : decode cX1_heightsWorn 6 = .ok (.iload 5, 2) := by decide +kernel
theorem dX1_heightsWorn_8 : decode cX1_heightsWorn 8 = .ok (.bipush 12, 2) := by decide +kernel
theorem dX1_heightsWorn_10 : decode cX1_heightsWorn 10 = .ok (.if_icmp .gt 48, 3) := by decide +kernel
theorem dX1_heightsWorn_13 : decode cX1_heightsWorn 13 = .ok (.aload_n 0, 1) := by decide +kernel
theorem dX1_heightsWorn_14 : decode cX1_heightsWorn 14 = .ok (.getfield 12, 3) := by decide +kernel
theorem dX1_heightsWorn_17 : decode cX1_heightsWorn 17 = .ok (.aload_n 1, 1) := by decide +kernel
theorem dX1_heightsWorn_18 : decode cX1_heightsWorn 18 = .ok (.invokevirtual 18, 3) := by decide +kernel
theorem dX1_heightsWorn_21 : decode cX1_heightsWorn 21 = .ok (.aload_n 0, 1) := by decide +kernel
theorem dX1_heightsWorn_22 : decode cX1_heightsWorn 22 = .ok (.getfield 12, 3) := by decide +kernel
theorem dX1_heightsWorn_25 : decode cX1_heightsWorn 25 = .ok (.iload 5, 2) := by decide +kernel
theorem dX1_heightsWorn_27 : decode cX1_heightsWorn 27 = .ok (.putfield 82, 3) := by decide +kernel
theorem dX1_heightsWorn_30 : decode cX1_heightsWorn 30 = .ok (.iload 4, 2) := by decide +kernel
theorem dX1_heightsWorn_32 : decode cX1_heightsWorn 32 = .ok (.aload_n 0, 1) := by decide +kernel
theorem dX1_heightsWorn_33 : decode cX1_heightsWorn 33 = .ok (.iload_n 2, 1) := by decide +kernel
theorem dX1_heightsWorn_34 : decode cX1_heightsWorn 34 = .ok (.aload_n 3, 1) := by decide +kernel
theorem dX1_heightsWorn_35 : decode cX1_heightsWorn 35 = .ok (.invokevirtual 103, 3) := by decide +kernel
theorem dX1_heightsWorn_38 : decode cX1_heightsWorn 38 = .ok (.ifCond .eq 10, 3) := by decide +kernel
theorem dX1_heightsWorn_41 : decode cX1_heightsWorn 41 = .ok (.iconst 1, 1) := by decide +kernel
theorem dX1_heightsWorn_42 : decode cX1_heightsWorn 42 = .ok (.iload 5, 2) := by decide +kernel
theorem dX1_heightsWorn_44 : decode cX1_heightsWorn 44 = .ok (.ishl, 1) := by decide +kernel
theorem dX1_heightsWorn_45 : decode cX1_heightsWorn 45 = .ok (.goto 4, 3) := by decide +kernel
theorem dX1_heightsWorn_48 : decode cX1_heightsWorn 48 = .ok (.iconst 0, 1) := by decide +kernel
theorem dX1_heightsWorn_49 : decode cX1_heightsWorn 49 = .ok (.ior, 1) := by decide +kernel
theorem dX1_heightsWorn_50 : decode cX1_heightsWorn 50 = .ok (.istore 4, 2) := by decide +kernel
theorem dX1_heightsWorn_52 : decode cX1_heightsWorn 52 = .ok (.iinc 5 1, 3) := by decide +kernel
theorem dX1_heightsWorn_55 : decode cX1_heightsWorn 55 = .ok (.goto (-49), 3) := by decide +kernel
theorem dX1_heightsWorn_58 : decode cX1_heightsWorn 58 = .ok (.iload 4, 2) := by decide +kernel
theorem dX1_heightsWorn_60 : decode cX1_heightsWorn 60 = .ok (.ireturn, 1) := by decide +kernel
theorem dX1_filmPaint_0 : decode cX1_filmPaint 0 = .ok (.aload_n 0, 1) := by decide +kernel
theorem dX1_filmPaint_1 : decode cX1_filmPaint 1 = .ok (.getfield 12, 3) := by decide +kernel
theorem dX1_filmPaint_4 : decode cX1_filmPaint 4 = .ok (.aload_n 1, 1) := by decide +kernel
theorem dX1_filmPaint_5 : decode cX1_filmPaint 5 = .ok (.invokevirtual 18, 3) := by decide +kernel
theorem dX1_filmPaint_8 : decode cX1_filmPaint 8 = .ok (.iconst 0, 1) := by decide +kernel
theorem dX1_filmPaint_9 : decode cX1_filmPaint 9 = .ok (.istore 4, 2) := by decide +kernel
theorem dX1_filmPaint_11 : decode cX1_filmPaint 11 = .ok (.iload 4, 2) := by decide +kernel
theorem dX1_filmPaint_13 : decode cX1_filmPaint 13 = .ok (.aload_n 3, 1) := by decide +kernel
theorem dX1_filmPaint_14 : decode cX1_filmPaint 14 = .ok (.getfield 85, 3) := by decide +kernel
theorem dX1_filmPaint_17 : decode cX1_filmPaint 17 = .ok (.if_icmp .ge 37, 3) := by decide +kernel
theorem dX1_filmPaint_20 : decode cX1_filmPaint 20 = .ok (.aload_n 0, 1) := by decide +kernel
theorem dX1_filmPaint_21 : decode cX1_filmPaint 21 = .ok (.getfield 12, 3) := by decide +kernel
theorem dX1_filmPaint_24 : decode cX1_filmPaint 24 = .ok (.invokevirtual 30, 3) := by decide +kernel
theorem dX1_filmPaint_27 : decode cX1_filmPaint 27 = .ok (.aload_n 3, 1) := by decide +kernel
theorem dX1_filmPaint_28 : decode cX1_filmPaint 28 = .ok (.aload_n 3, 1) := by decide +kernel
theorem dX1_filmPaint_29 : decode cX1_filmPaint 29 = .ok (.getfield 94, 3) := by decide +kernel
theorem dX1_filmPaint_32 : decode cX1_filmPaint 32 = .ok (.iload 4, 2) := by decide +kernel
theorem dX1_filmPaint_34 : decode cX1_filmPaint 34 = .ok (.iadd, 1) := by decide +kernel
theorem dX1_filmPaint_35 : decode cX1_filmPaint 35 = .ok (.aload_n 0, 1) := by decide +kernel
theorem dX1_filmPaint_36 : decode cX1_filmPaint 36 = .ok (.getfield 12, 3) := by decide +kernel
theorem dX1_filmPaint_39 : decode cX1_filmPaint 39 = .ok (.getfield 97, 3) := by decide +kernel
theorem dX1_filmPaint_42 : decode cX1_filmPaint 42 = .ok (.iload_n 2, 1) := by decide +kernel
theorem dX1_filmPaint_43 : decode cX1_filmPaint 43 = .ok (.iaload, 1) := by decide +kernel
theorem dX1_filmPaint_44 : decode cX1_filmPaint 44 = .ok (.i2l, 1) := by decide +kernel
theorem dX1_filmPaint_45 : decode cX1_filmPaint 45 = .ok (.invokevirtual 107, 3) := by decide +kernel
theorem dX1_filmPaint_48 : decode cX1_filmPaint 48 = .ok (.iinc 4 1, 3) := by decide +kernel
theorem dX1_filmPaint_51 : decode cX1_filmPaint 51 = .ok (.goto (-40), 3) := by decide +kernel
theorem dX1_filmPaint_54 : decode cX1_filmPaint 54 = .ok (.return_, 1) := by decide +kernel
theorem dX2_init_0 : decode cX2_init 0 = .ok (.aload_n 0, 1) := by decide +kernel
theorem dX2_init_1 : decode cX2_init 1 = .ok (.invokespecial 3, 3) := by decide +kernel
theorem dX2_init_4 : decode cX2_init 4 = .ok (.aload_n 0, 1) := by decide +kernel
theorem dX2_init_5 : decode cX2_init 5 = .ok (.new 9, 3) := by decide +kernel
theorem dX2_init_8 : decode cX2_init 8 = .ok (.dup, 1) := by decide +kernel
theorem dX2_init_9 : decode cX2_init 9 = .ok (.invokespecial 11, 3) := by decide +kernel
theorem dX2_init_12 : decode cX2_init 12 = .ok (.putfield 12, 3) := by decide +kernel
theorem dX2_init_15 : decode cX2_init 15 = .ok (.aload_n 0, 1) := by decide +kernel
theorem dX2_init_16 : decode cX2_init 16 = .ok (.new 9, 3) := by decide +kernel
theorem dX2_init_19 : decode cX2_init 19 = .ok (.dup, 1) := by decide +kernel
theorem dX2_init_20 : decode cX2_init 20 = .ok (.invokespecial 11, 3) := by decide +kernel
theorem dX2_init_23 : decode cX2_init 23 = .ok (.putfield 18, 3) := by decide +kernel
theorem dX2_init_26 : decode cX2_init 26 = .ok (.aload_n 0, 1) := by decide +kernel
theorem dX2_init_27 : decode cX2_init 27 = .ok (.bipush 6, 2) := by decide +kernel
theorem dX2_init_29 : decode cX2_init 29 = .ok (.newarray .int, 2) := by decide +kernel
theorem dX2_init_31 : decode cX2_init 31 = .ok (.putfield 21, 3) := by decide +kernel
theorem dX2_init_34 : decode cX2_init 34 = .ok (.aload_n 0, 1) := by decide +kernel
theorem dX2_init_35 : decode cX2_init 35 = .ok (.bipush 6, 2) := by decide +kernel
theorem dX2_init_37 : decode cX2_init 37 = .ok (.newarray .int, 2) := by decide +kernel
theorem dX2_init_39 : decode cX2_init 39 = .ok (.putfield 25, 3) := by decide +kernel
theorem dX2_init_42 : decode cX2_init 42 = .ok (.aload_n 0, 1) := by decide +kernel
theorem dX2_init_43 : decode cX2_init 43 = .ok (.iconst (-1), 1) := by decide +kernel
theorem dX2_init_44 : decode cX2_init 44 = .ok (.putfield 28, 3) := by decide +kernel
theorem dX2_init_47 : decode cX2_init 47 = .ok (.return_, 1) := by decide +kernel
theorem dX2_part_0 : decode cX2_part 0 = .ok (.iload_n 2, 1) := by decide +kernel
theorem dX2_part_1 : decode cX2_part 1 = .ok (.aload_n 0, 1) := by decide +kernel
theorem dX2_part_2 : decode cX2_part 2 = .ok (.getfield 28, 3) := by decide +kernel
theorem dX2_part_5 : decode cX2_part 5 = .ok (.if_icmp .ne 23, 3) := by decide +kernel
theorem dX2_part_8 : decode cX2_part 8 = .ok (.iload_n 3, 1) := by decide +kernel
theorem dX2_part_9 : decode cX2_part 9 = .ok (.aload_n 0, 1) := by decide +kernel
theorem dX2_part_10 : decode cX2_part 10 = .ok (.getfield 32, 3) := by decide +kernel
theorem dX2_part_13 : decode cX2_part 13 = .ok (.if_icmp .ne 15, 3) := by decide +kernel
theorem dX2_part_16 : decode cX2_part 16 = .ok (.aload_n 0, 1) := by decide +kernel
theorem dX2_part_17 : decode cX2_part 17 = .ok (.getfield 12, 3) := by decide +kernel
theorem dX2_part_20 : decode cX2_part 20 = .ok (.aload_n 1, 1) := by decide +kernel
theorem dX2_part_21 : decode cX2_part 21 = .ok (.invokevirtual 35, 3) := by decide +kernel
theorem dX2_part_24 : decode cX2_part 24 = .ok (.ifCond .eq 4, 3) := by decide +kernel
theorem dX2_part_27 : decode cX2_part 27 = .ok (.return_, 1) := by decide +kernel
theorem dX2_part_28 : decode cX2_part 28 = .ok (.aload_n 0, 1) := by decide +kernel
theorem dX2_part_29 : decode cX2_part 29 = .ok (.getfield 12, 3) := by decide +kernel
theorem dX2_part_32 : decode cX2_part 32 = .ok (.aload_n 1, 1) := by decide +kernel
theorem dX2_part_33 : decode cX2_part 33 = .ok (.invokevirtual 39, 3) := by decide +kernel
theorem dX2_part_36 : decode cX2_part 36 = .ok (.aload_n 0, 1) := by decide +kernel
theorem dX2_part_37 : decode cX2_part 37 = .ok (.iload_n 2, 1) := by decide +kernel
theorem dX2_part_38 : decode cX2_part 38 = .ok (.putfield 28, 3) := by decide +kernel
theorem dX2_part_41 : decode cX2_part 41 = .ok (.aload_n 0, 1) := by decide +kernel
theorem dX2_part_42 : decode cX2_part 42 = .ok (.iload_n 3, 1) := by decide +kernel
theorem dX2_part_43 : decode cX2_part 43 = .ok (.putfield 32, 3) := by decide +kernel
theorem dX2_part_46 : decode cX2_part 46 = .ok (.aload_n 0, 1) := by decide +kernel
theorem dX2_part_47 : decode cX2_part 47 = .ok (.iconst (-1), 1) := by decide +kernel
theorem dX2_part_48 : decode cX2_part 48 = .ok (.putfield 43, 3) := by decide +kernel
theorem dX2_part_51 : decode cX2_part 51 = .ok (.aload_n 0, 1) := by decide +kernel
theorem dX2_part_52 : decode cX2_part 52 = .ok (.iconst (-1), 1) := by decide +kernel
theorem dX2_part_53 : decode cX2_part 53 = .ok (.putfield 46, 3) := by decide +kernel
theorem dX2_part_56 : decode cX2_part 56 = .ok (.aload_n 0, 1) := by decide +kernel
theorem dX2_part_57 : decode cX2_part 57 = .ok (.iload_n 2, 1) := by decide +kernel
theorem dX2_part_58 : decode cX2_part 58 = .ok (.invokevirtual 49, 3) := by decide +kernel
theorem dX2_part_61 : decode cX2_part 61 = .ok (.iconst 1, 1) := by decide +kernel
theorem dX2_part_62 : decode cX2_part 62 = .ok (.istore 4, 2) := by decide +kernel
theorem dX2_part_64 : decode cX2_part 64 = .ok (.iconst 0, 1) := by decide +kernel
theorem dX2_part_65 : decode cX2_part 65 = .ok (.istore 5, 2) := by decide +kernel
theorem dX2_part_67 : decode cX2_part 67 = .ok (.iload 5, 2) := by decide +kernel
theorem dX2_part_69 : decode cX2_part 69 = .ok (.sipush 1287, 3) := by decide +kernel
theorem dX2_part_72 : decode cX2_part 72 = .ok (.if_icmp .ge 24, 3) := by decide +kernel
theorem dX2_part_75 : decode cX2_part 75 = .ok (.iload 4, 2) := by decide +kernel
theorem dX2_part_77 : decode cX2_part 77 = .ok (.ifCond .eq 19, 3) := by decide +kernel
theorem dX2_part_80 : decode cX2_part 80 = .ok (.aload_n 0, 1) := by decide +kernel
theorem dX2_part_81 : decode cX2_part 81 = .ok (.invokevirtual 53, 3) := by decide +kernel
theorem dX2_part_84 : decode cX2_part 84 = .ok (.aload_n 0, 1) := by decide +kernel
theorem dX2_part_85 : decode cX2_part 85 = .ok (.invokevirtual 56, 3) := by decide +kernel
theorem dX2_part_88 : decode cX2_part 88 = .ok (.istore 4, 2) := by decide +kernel
theorem dX2_part_90 : decode cX2_part 90 = .ok (.iinc 5 1, 3) := by decide +kernel
theorem dX2_part_93 : decode cX2_part 93 = .ok (.goto (-26), 3) := by decide +kernel
theorem dX2_part_96 : decode cX2_part 96 = .ok (.return_, 1) := by decide +kernel
theorem dX2_beginShares_0 : decode cX2_beginShares 0 = .ok (.aload_n 0, 1) := by decide +kernel
theorem dX2_beginShares_1 : decode cX2_beginShares 1 = .ok (.getfield 21, 3) := by decide +kernel
theorem dX2_beginShares_4 : decode cX2_beginShares 4 = .ok (.iconst 0, 1) := by decide +kernel
theorem dX2_beginShares_5 : decode cX2_beginShares 5 = .ok (.invokestatic 60, 3) := by decide +kernel
theorem dX2_beginShares_8 : decode cX2_beginShares 8 = .ok (.aload_n 0, 1) := by decide +kernel
theorem dX2_beginShares_9 : decode cX2_beginShares 9 = .ok (.getfield 21, 3) := by decide +kernel
theorem dX2_beginShares_12 : decode cX2_beginShares 12 = .ok (.aload_n 0, 1) := by decide +kernel
theorem dX2_beginShares_13 : decode cX2_beginShares 13 = .ok (.getfield 12, 3) := by decide +kernel
theorem dX2_beginShares_16 : decode cX2_beginShares 16 = .ok (.getfield 66, 3) := by decide +kernel
theorem dX2_beginShares_19 : decode cX2_beginShares 19 = .ok (.iconst 1, 1) := by decide +kernel
theorem dX2_beginShares_20 : decode cX2_beginShares 20 = .ok (.isub, 1) := by decide +kernel
theorem dX2_beginShares_21 : decode cX2_beginShares 21 = .ok (.iload_n 1, 1) := by decide +kernel
theorem dX2_beginShares_22 : decode cX2_beginShares 22 = .ok (.iastore, 1) := by decide +kernel
theorem dX2_beginShares_23 : decode cX2_beginShares 23 = .ok (.return_, 1) := by decide +kernel
theorem dX2_nextShares_0 : decode cX2_nextShares 0 = .ok (.aload_n 0, 1) := by decide +kernel
theorem dX2_nextShares_1 : decode cX2_nextShares 1 = .ok (.getfield 12, 3) := by decide +kernel
theorem dX2_nextShares_4 : decode cX2_nextShares 4 = .ok (.getfield 66, 3) := by decide +kernel
theorem dX2_nextShares_7 : decode cX2_nextShares 7 = .ok (.iconst 1, 1) := by decide +kernel
theorem dX2_nextShares_8 : decode cX2_nextShares 8 = .ok (.isub, 1) := by decide +kernel
theorem dX2_nextShares_9 : decode cX2_nextShares 9 = .ok (.istore_n 1, 1) := by decide +kernel
theorem dX2_nextShares_10 : decode cX2_nextShares 10 = .ok (.iload_n 1, 1) := by decide +kernel
theorem dX2_nextShares_11 : decode cX2_nextShares 11 = .ok (.iconst 1, 1) := by decide +kernel
theorem dX2_nextShares_12 : decode cX2_nextShares 12 = .ok (.isub, 1) := by decide +kernel
theorem dX2_nextShares_13 : decode cX2_nextShares 13 = .ok (.istore_n 2, 1) := by decide +kernel
theorem dX2_nextShares_14 : decode cX2_nextShares 14 = .ok (.aload_n 0, 1) := by decide +kernel
theorem dX2_nextShares_15 : decode cX2_nextShares 15 = .ok (.getfield 21, 3) := by decide +kernel
theorem dX2_nextShares_18 : decode cX2_nextShares 18 = .ok (.iload_n 1, 1) := by decide +kernel
theorem dX2_nextShares_19 : decode cX2_nextShares 19 = .ok (.iaload, 1) := by decide +kernel
theorem dX2_nextShares_20 : decode cX2_nextShares 20 = .ok (.istore_n 3, 1) := by decide +kernel
theorem dX2_nextShares_21 : decode cX2_nextShares 21 = .ok (.iload_n 2, 1) := by decide +kernel
theorem dX2_nextShares_22 : decode cX2_nextShares 22 = .ok (.ifCond .lt 27, 3) := by decide +kernel
theorem dX2_nextShares_25 : decode cX2_nextShares 25 = .ok (.iload_n 3, 1) := by decide +kernel
theorem dX2_nextShares_26 : decode cX2_nextShares 26 = .ok (.ifCond .ne 23, 3) := by decide +kernel
theorem dX2_nextShares_29 : decode cX2_nextShares 29 = .ok (.aload_n 0, 1) := by decide +kernel
theorem dX2_nextShares_30 : decode cX2_nextShares 30 = .ok (.getfield 21, 3) := by decide +kernel
theorem dX2_nextShares_33 : decode cX2_nextShares 33 = .ok (.iload_n 2, 1) := by decide +kernel
theorem dX2_nextShares_34 : decode cX2_nextShares 34 = .ok (.iaload, 1) := by decide +kernel
theorem dX2_nextShares_35 : decode cX2_nextShares 35 = .ok (.istore_n 3, 1) := by decide +kernel
theorem dX2_nextShares_36 : decode cX2_nextShares 36 = .ok (.aload_n 0, 1) := by decide +kernel
theorem dX2_nextShares_37 : decode cX2_nextShares 37 = .ok (.getfield 21, 3) := by decide +kernel
theorem dX2_nextShares_40 : decode cX2_nextShares 40 = .ok (.iload_n 2, 1) := by decide +kernel
theorem dX2_nextShares_41 : decode cX2_nextShares 41 = .ok (.iconst 0, 1) := by decide +kernel
theorem dX2_nextShares_42 : decode cX2_nextShares 42 = .ok (.iastore, 1) := by decide +kernel
theorem dX2_nextShares_43 : decode cX2_nextShares 43 = .ok (.iinc 2 (-1), 3) := by decide +kernel
theorem dX2_nextShares_46 : decode cX2_nextShares 46 = .ok (.goto (-25), 3) := by decide +kernel
theorem dX2_nextShares_49 : decode cX2_nextShares 49 = .ok (.iload_n 2, 1) := by decide +kernel
theorem dX2_nextShares_50 : decode cX2_nextShares 50 = .ok (.ifCond .ge 5, 3) := by decide +kernel
theorem dX2_nextShares_53 : decode cX2_nextShares 53 = .ok (.iconst 0, 1) := by decide +kernel
theorem dX2_nextShares_54 : decode cX2_nextShares 54 = .ok (.ireturn, 1) := by decide +kernel
theorem dX2_nextShares_55 : decode cX2_nextShares 55 = .ok (.aload_n 0, 1) := by decide +kernel
theorem dX2_nextShares_56 : decode cX2_nextShares 56 = .ok (.getfield 21, 3) := by decide +kernel
theorem dX2_nextShares_59 : decode cX2_nextShares 59 = .ok (.iload_n 2, 1) := by decide +kernel
theorem dX2_nextShares_60 : decode cX2_nextShares 60 = .ok (.dup2, 1) := by decide +kernel
theorem dX2_nextShares_61 : decode cX2_nextShares 61 = .ok (.iaload, 1) := by decide +kernel
theorem dX2_nextShares_62 : decode cX2_nextShares 62 = .ok (.iconst 1, 1) := by decide +kernel
theorem dX2_nextShares_63 : decode cX2_nextShares 63 = .ok (.iadd, 1) := by decide +kernel
theorem dX2_nextShares_64 : decode cX2_nextShares 64 = .ok (.iastore, 1) := by decide +kernel
theorem dX2_nextShares_65 : decode cX2_nextShares 65 = .ok (.aload_n 0, 1) := by decide +kernel
theorem dX2_nextShares_66 : decode cX2_nextShares 66 = .ok (.getfield 21, 3) := by decide +kernel
theorem dX2_nextShares_69 : decode cX2_nextShares 69 = .ok (.iload_n 1, 1) := by decide +kernel
theorem dX2_nextShares_70 : decode cX2_nextShares 70 = .ok (.iload_n 3, 1) := by decide +kernel
theorem dX2_nextShares_71 : decode cX2_nextShares 71 = .ok (.iconst 1, 1) := by decide +kernel
theorem dX2_nextShares_72 : decode cX2_nextShares 72 = .ok (.isub, 1) := by decide +kernel
theorem dX2_nextShares_73 : decode cX2_nextShares 73 = .ok (.iastore, 1) := by decide +kernel
theorem dX2_nextShares_74 : decode cX2_nextShares 74 = .ok (.iconst 1, 1) := by decide +kernel
theorem dX2_nextShares_75 : decode cX2_nextShares 75 = .ok (.ireturn, 1) := by decide +kernel
theorem dX2_tryShares_0 : decode cX2_tryShares 0 = .ok (.aload_n 0, 1) := by decide +kernel
theorem dX2_tryShares_1 : decode cX2_tryShares 1 = .ok (.getfield 18, 3) := by decide +kernel
theorem dX2_tryShares_4 : decode cX2_tryShares 4 = .ok (.aload_n 0, 1) := by decide +kernel
theorem dX2_tryShares_5 : decode cX2_tryShares 5 = .ok (.getfield 12, 3) := by decide +kernel
theorem dX2_tryShares_8 : decode cX2_tryShares 8 = .ok (.invokevirtual 39, 3) := by decide +kernel
theorem dX2_tryShares_11 : decode cX2_tryShares 11 = .ok (.iconst 0, 1) := by decide +kernel
theorem dX2_tryShares_12 : decode cX2_tryShares 12 = .ok (.istore_n 1, 1) := by decide +kernel
theorem dX2_tryShares_13 : decode cX2_tryShares 13 = .ok (.iload_n 1, 1) := by decide +kernel
theorem dX2_tryShares_14 : decode cX2_tryShares 14 = .ok (.aload_n 0, 1) := by decide +kernel
theorem dX2_tryShares_15 : decode cX2_tryShares 15 = .ok (.getfield 12, 3) := by decide +kernel
theorem dX2_tryShares_18 : decode cX2_tryShares 18 = .ok (.getfield 66, 3) := by decide +kernel
theorem dX2_tryShares_21 : decode cX2_tryShares 21 = .ok (.if_icmp .ge 23, 3) := by decide +kernel
theorem dX2_tryShares_24 : decode cX2_tryShares 24 = .ok (.aload_n 0, 1) := by decide +kernel
theorem dX2_tryShares_25 : decode cX2_tryShares 25 = .ok (.getfield 18, 3) := by decide +kernel
theorem dX2_tryShares_28 : decode cX2_tryShares 28 = .ok (.iload_n 1, 1) := by decide +kernel
theorem dX2_tryShares_29 : decode cX2_tryShares 29 = .ok (.aload_n 0, 1) := by decide +kernel
theorem dX2_tryShares_30 : decode cX2_tryShares 30 = .ok (.getfield 21, 3) := by decide +kernel
theorem dX2_tryShares_33 : decode cX2_tryShares 33 = .ok (.iload_n 1, 1) := by decide +kernel
theorem dX2_tryShares_34 : decode cX2_tryShares 34 = .ok (.iaload, 1) := by decide +kernel
theorem dX2_tryShares_35 : decode cX2_tryShares 35 = .ok (.invokevirtual 69, 3) := by decide +kernel
theorem dX2_tryShares_38 : decode cX2_tryShares 38 = .ok (.iinc 1 1, 3) := by decide +kernel
theorem dX2_tryShares_41 : decode cX2_tryShares 41 = .ok (.goto (-28), 3) := by decide +kernel
theorem dX2_tryShares_44 : decode cX2_tryShares 44 = .ok (.aload_n 0, 1) := by decide +kernel
theorem dX2_tryShares_45 : decode cX2_tryShares 45 = .ok (.getfield 18, 3) := by decide +kernel
theorem dX2_tryShares_48 : decode cX2_tryShares 48 = .ok (.aload_n 0, 1) := by decide +kernel
theorem dX2_tryShares_49 : decode cX2_tryShares 49 = .ok (.getfield 32, 3) := by decide +kernel
theorem dX2_tryShares_52 : decode cX2_tryShares 52 = .ok (.aload_n 0, 1) := by decide +kernel
theorem dX2_tryShares_53 : decode cX2_tryShares 53 = .ok (.getfield 43, 3) := by decide +kernel
theorem dX2_tryShares_56 : decode cX2_tryShares 56 = .ok (.invokevirtual 73, 3) := by decide +kernel
theorem dX2_tryShares_59 : decode cX2_tryShares 59 = .ok (.istore_n 1, 1) := by decide +kernel
theorem dX2_tryShares_60 : decode cX2_tryShares 60 = .ok (.aload_n 0, 1) := by decide +kernel
theorem dX2_tryShares_61 : decode cX2_tryShares 61 = .ok (.getfield 18, 3) := by decide +kernel
theorem dX2_tryShares_64 : decode cX2_tryShares 64 = .ok (.invokevirtual 77, 3) := by decide +kernel
theorem dX2_tryShares_67 : decode cX2_tryShares 67 = .ok (.istore_n 2, 1) := by decide +kernel
theorem dX2_tryShares_68 : decode cX2_tryShares 68 = .ok (.iload_n 1, 1) := by decide +kernel
theorem dX2_tryShares_69 : decode cX2_tryShares 69 = .ok (.aload_n 0, 1) := by decide +kernel
theorem dX2_tryShares_70 : decode cX2_tryShares 70 = .ok (.getfield 43, 3) := by decide +kernel
theorem dX2_tryShares_73 : decode cX2_tryShares 73 = .ok (.if_icmp .gt 19, 3) := by decide +kernel
theorem dX2_tryShares_76 : decode cX2_tryShares 76 = .ok (.iload_n 1, 1) := by decide +kernel
theorem dX2_tryShares_77 : decode cX2_tryShares 77 = .ok (.aload_n 0, 1) := by decide +kernel
theorem dX2_tryShares_78 : decode cX2_tryShares 78 = .ok (.getfield 43, 3) := by decide +kernel
theorem dX2_tryShares_81 : decode cX2_tryShares 81 = .ok (.if_icmp .ne 36, 3) := by decide +kernel
theorem dX2_tryShares_84 : decode cX2_tryShares 84 = .ok (.iload_n 2, 1) := by decide +kernel
theorem dX2_tryShares_85 : decode cX2_tryShares 85 = .ok (.aload_n 0, 1) := by decide +kernel
theorem dX2_tryShares_86 : decode cX2_tryShares 86 = .ok (.getfield 46, 3) := by decide +kernel
theorem dX2_tryShares_89 : decode cX2_tryShares 89 = .ok (.if_icmp .le 28, 3) := by decide +kernel
theorem dX2_tryShares_92 : decode cX2_tryShares 92 = .ok (.aload_n 0, 1) := by decide +kernel
theorem dX2_tryShares_93 : decode cX2_tryShares 93 = .ok (.iload_n 1, 1) := by decide +kernel
theorem dX2_tryShares_94 : decode cX2_tryShares 94 = .ok (.putfield 43, 3) := by decide +kernel
theorem dX2_tryShares_97 : decode cX2_tryShares 97 = .ok (.aload_n 0, 1) := by decide +kernel
theorem dX2_tryShares_98 : decode cX2_tryShares 98 = .ok (.iload_n 2, 1) := by decide +kernel
theorem dX2_tryShares_99 : decode cX2_tryShares 99 = .ok (.putfield 46, 3) := by decide +kernel
theorem dX2_tryShares_102 : decode cX2_tryShares 102 = .ok (.aload_n 0, 1) := by decide +kernel
theorem dX2_tryShares_103 : decode cX2_tryShares 103 = .ok (.getfield 21, 3) := by decide +kernel
theorem dX2_tryShares_106 : decode cX2_tryShares 106 = .ok (.iconst 0, 1) := by decide +kernel
theorem dX2_tryShares_107 : decode cX2_tryShares 107 = .ok (.aload_n 0, 1) := by decide +kernel
theorem dX2_tryShares_108 : decode cX2_tryShares 108 = .ok (.getfield 25, 3) := by decide +kernel
theorem dX2_tryShares_111 : decode cX2_tryShares 111 = .ok (.iconst 0, 1) := by decide +kernel
theorem dX2_tryShares_112 : decode cX2_tryShares 112 = .ok (.bipush 6, 2) := by decide +kernel
theorem dX2_tryShares_114 : decode cX2_tryShares 114 = .ok (.invokestatic 81, 3) := by decide +kernel
theorem dX2_tryShares_117 : decode cX2_tryShares 117 = .ok (.return_, 1) := by decide +kernel
theorem dX3_init_0 : decode cX3_init 0 = .ok (.aload_n 0, 1) := by decide +kernel
theorem dX3_init_1 : decode cX3_init 1 = .ok (.invokespecial 3, 3) := by decide +kernel
theorem dX3_init_4 : decode cX3_init 4 = .ok (.aload_n 0, 1) := by decide +kernel
theorem dX3_init_5 : decode cX3_init 5 = .ok (.bipush 6, 2) := by decide +kernel
theorem dX3_init_7 : decode cX3_init 7 = .ok (.newarray .int, 2) := by decide +kernel
theorem dX3_init_9 : decode cX3_init 9 = .ok (.putfield 9, 3) := by decide +kernel
theorem dX3_init_12 : decode cX3_init 12 = .ok (.aload_n 0, 1) := by decide +kernel
theorem dX3_init_13 : decode cX3_init 13 = .ok (.iconst 1, 1) := by decide +kernel
theorem dX3_init_14 : decode cX3_init 14 = .ok (.putfield 15, 3) := by decide +kernel
theorem dX3_init_17 : decode cX3_init 17 = .ok (.aload_n 0, 1) := by decide +kernel
theorem dX3_init_18 : decode cX3_init 18 = .ok (.iconst 5, 1) := by decide +kernel
theorem dX3_init_19 : decode cX3_init 19 = .ok (.putfield 19, 3) := by decide +kernel
theorem dX3_init_22 : decode cX3_init 22 = .ok (.return_, 1) := by decide +kernel
theorem dX3_takeAll_0 : decode cX3_takeAll 0 = .ok (.aload_n 0, 1) := by decide +kernel
theorem dX3_takeAll_1 : decode cX3_takeAll 1 = .ok (.aload_n 1, 1) := by decide +kernel
theorem dX3_takeAll_2 : decode cX3_takeAll 2 = .ok (.invokevirtual 22, 3) := by decide +kernel
theorem dX3_takeAll_5 : decode cX3_takeAll 5 = .ok (.aload_n 1, 1) := by decide +kernel
theorem dX3_takeAll_6 : decode cX3_takeAll 6 = .ok (.getfield 9, 3) := by decide +kernel
theorem dX3_takeAll_9 : decode cX3_takeAll 9 = .ok (.iconst 0, 1) := by decide +kernel
theorem dX3_takeAll_10 : decode cX3_takeAll 10 = .ok (.aload_n 0, 1) := by decide +kernel
theorem dX3_takeAll_11 : decode cX3_takeAll 11 = .ok (.getfield 9, 3) := by decide +kernel
theorem dX3_takeAll_14 : decode cX3_takeAll 14 = .ok (.iconst 0, 1) := by decide +kernel
theorem dX3_takeAll_15 : decode cX3_takeAll 15 = .ok (.bipush 6, 2) := by decide +kernel
theorem dX3_takeAll_17 : decode cX3_takeAll 17 = .ok (.invokestatic 26, 3) := by decide +kernel
theorem dX3_takeAll_20 : decode cX3_takeAll 20 = .ok (.aload_n 0, 1) := by decide +kernel
theorem dX3_takeAll_21 : decode cX3_takeAll 21 = .ok (.aload_n 1, 1) := by decide +kernel
theorem dX3_takeAll_22 : decode cX3_takeAll 22 = .ok (.getfield 32, 3) := by decide +kernel
theorem dX3_takeAll_25 : decode cX3_takeAll 25 = .ok (.putfield 32, 3) := by decide +kernel
theorem dX3_takeAll_28 : decode cX3_takeAll 28 = .ok (.aload_n 0, 1) := by decide +kernel
theorem dX3_takeAll_29 : decode cX3_takeAll 29 = .ok (.aload_n 1, 1) := by decide +kernel
theorem dX3_takeAll_30 : decode cX3_takeAll 30 = .ok (.getfield 35, 3) := by decide +kernel
theorem dX3_takeAll_33 : decode cX3_takeAll 33 = .ok (.putfield 35, 3) := by decide +kernel
theorem dX3_takeAll_36 : decode cX3_takeAll 36 = .ok (.aload_n 0, 1) := by decide +kernel
theorem dX3_takeAll_37 : decode cX3_takeAll 37 = .ok (.aload_n 1, 1) := by decide +kernel
theorem dX3_takeAll_38 : decode cX3_takeAll 38 = .ok (.getfield 15, 3) := by decide +kernel
theorem dX3_takeAll_41 : decode cX3_takeAll 41 = .ok (.putfield 15, 3) := by decide +kernel
theorem dX3_takeAll_44 : decode cX3_takeAll 44 = .ok (.aload_n 0, 1) := by decide +kernel
theorem dX3_takeAll_45 : decode cX3_takeAll 45 = .ok (.aload_n 1, 1) := by decide +kernel
theorem dX3_takeAll_46 : decode cX3_takeAll 46 = .ok (.getfield 19, 3) := by decide +kernel
theorem dX3_takeAll_49 : decode cX3_takeAll 49 = .ok (.putfield 19, 3) := by decide +kernel
theorem dX3_takeAll_52 : decode cX3_takeAll 52 = .ok (.return_, 1) := by decide +kernel
theorem dX3_isLike_0 : decode cX3_isLike 0 = .ok (.aload_n 0, 1) := by decide +kernel
theorem dX3_isLike_1 : decode cX3_isLike 1 = .ok (.getfield 32, 3) := by decide +kernel
theorem dX3_isLike_4 : decode cX3_isLike 4 = .ok (.aload_n 1, 1) := by decide +kernel
theorem dX3_isLike_5 : decode cX3_isLike 5 = .ok (.getfield 32, 3) := by decide +kernel
theorem dX3_isLike_8 : decode cX3_isLike 8 = .ok (.if_icmp .ne 47, 3) := by decide +kernel
theorem dX3_isLike_11 : decode cX3_isLike 11 = .ok (.aload_n 0, 1) := by decide +kernel
theorem dX3_isLike_12 : decode cX3_isLike 12 = .ok (.getfield 38, 3) := by decide +kernel
theorem dX3_isLike_15 : decode cX3_isLike 15 = .ok (.aload_n 1, 1) := by decide +kernel
theorem dX3_isLike_16 : decode cX3_isLike 16 = .ok (.getfield 38, 3) := by decide +kernel
theorem dX3_isLike_19 : decode cX3_isLike 19 = .ok (.if_icmp .ne 36, 3) := by decide +kernel
theorem dX3_isLike_22 : decode cX3_isLike 22 = .ok (.aload_n 0, 1) := by decide +kernel
theorem dX3_isLike_23 : decode cX3_isLike 23 = .ok (.getfield 35, 3) := by decide +kernel
theorem dX3_isLike_26 : decode cX3_isLike 26 = .ok (.aload_n 1, 1) := by decide +kernel
theorem dX3_isLike_27 : decode cX3_isLike 27 = .ok (.getfield 35, 3) := by decide +kernel
theorem dX3_isLike_30 : decode cX3_isLike 30 = .ok (.if_icmp .ne 25, 3) := by decide +kernel
theorem dX3_isLike_33 : decode cX3_isLike 33 = .ok (.aload_n 0, 1) := by decide +kernel
theorem dX3_isLike_34 : decode cX3_isLike 34 = .ok (.getfield 15, 3) := by decide +kernel
theorem dX3_isLike_37 : decode cX3_isLike 37 = .ok (.aload_n 1, 1) := by decide +kernel
theorem dX3_isLike_38 : decode cX3_isLike 38 = .ok (.getfield 15, 3) := by decide +kernel
theorem dX3_isLike_41 : decode cX3_isLike 41 = .ok (.if_icmp .ne 14, 3) := by decide +kernel
theorem dX3_isLike_44 : decode cX3_isLike 44 = .ok (.aload_n 0, 1) := by decide +kernel
theorem dX3_isLike_45 : decode cX3_isLike 45 = .ok (.getfield 19, 3) := by decide +kernel
theorem dX3_isLike_48 : decode cX3_isLike 48 = .ok (.aload_n 1, 1) := by decide +kernel
theorem dX3_isLike_49 : decode cX3_isLike 49 = .ok (.getfield 19, 3) := by decide +kernel
theorem dX3_isLike_52 : decode cX3_isLike 52 = .ok (.if_icmp .eq 5, 3) := by decide +kernel
theorem dX3_isLike_55 : decode cX3_isLike 55 = .ok (.iconst 0, 1) := by decide +kernel
theorem dX3_isLike_56 : decode cX3_isLike 56 = .ok (.ireturn, 1) := by decide +kernel
theorem dX3_isLike_57 : decode cX3_isLike 57 = .ok (.iconst 0, 1) := by decide +kernel
theorem dX3_isLike_58 : decode cX3_isLike 58 = .ok (.istore_n 2, 1) := by decide +kernel
theorem dX3_isLike_59 : decode cX3_isLike 59 = .ok (.iload_n 2, 1) := by decide +kernel
theorem dX3_isLike_60 : decode cX3_isLike 60 = .ok (.aload_n 0, 1) := by decide +kernel
theorem dX3_isLike_61 : decode cX3_isLike 61 = .ok (.getfield 32, 3) := by decide +kernel
theorem dX3_isLike_64 : decode cX3_isLike 64 = .ok (.if_icmp .ge 56, 3) := by decide +kernel
theorem dX3_isLike_67 : decode cX3_isLike 67 = .ok (.aload_n 0, 1) := by decide +kernel
theorem dX3_isLike_68 : decode cX3_isLike 68 = .ok (.getfield 9, 3) := by decide +kernel
theorem dX3_isLike_71 : decode cX3_isLike 71 = .ok (.iload_n 2, 1) := by decide +kernel
theorem dX3_isLike_72 : decode cX3_isLike 72 = .ok (.iaload, 1) := by decide +kernel
theorem dX3_isLike_73 : decode cX3_isLike 73 = .ok (.aload_n 1, 1) := by decide +kernel
theorem dX3_isLike_74 : decode cX3_isLike 74 = .ok (.getfield 9, 3) := by decide +kernel
theorem dX3_isLike_77 : decode cX3_isLike 77 = .ok (.iload_n 2, 1) := by decide +kernel
theorem dX3_isLike_78 : decode cX3_isLike 78 = .ok (.iaload, 1) := by decide +kernel
theorem dX3_isLike_79 : decode cX3_isLike 79 = .ok (.if_icmp .ne 33, 3) := by decide +kernel
theorem dX3_isLike_82 : decode cX3_isLike 82 = .ok (.aload_n 0, 1) := by decide +kernel
theorem dX3_isLike_83 : decode cX3_isLike 83 = .ok (.getfield 41, 3) := by decide +kernel
theorem dX3_isLike_86 : decode cX3_isLike 86 = .ok (.iload_n 2, 1) := by decide +kernel
theorem dX3_isLike_87 : decode cX3_isLike 87 = .ok (.iaload, 1) := by decide +kernel
theorem dX3_isLike_88 : decode cX3_isLike 88 = .ok (.aload_n 1, 1) := by decide +kernel
theorem dX3_isLike_89 : decode cX3_isLike 89 = .ok (.getfield 41, 3) := by decide +kernel
theorem dX3_isLike_92 : decode cX3_isLike 92 = .ok (.iload_n 2, 1) := by decide +kernel
theorem dX3_isLike_93 : decode cX3_isLike 93 = .ok (.iaload, 1) := by decide +kernel
theorem dX3_isLike_94 : decode cX3_isLike 94 = .ok (.if_icmp .ne 18, 3) := by decide +kernel
theorem dX3_isLike_97 : decode cX3_isLike 97 = .ok (.aload_n 0, 1) := by decide +kernel
theorem dX3_isLike_98 : decode cX3_isLike 98 = .ok (.getfield 44, 3) := by decide +kernel
theorem dX3_isLike_101 : decode cX3_isLike 101 = .ok (.iload_n 2, 1) := by decide +kernel
theorem dX3_isLike_102 : decode cX3_isLike 102 = .ok (.iaload, 1) := by decide +kernel
theorem dX3_isLike_103 : decode cX3_isLike 103 = .ok (.aload_n 1, 1) := by decide +kernel
theorem dX3_isLike_104 : decode cX3_isLike 104 = .ok (.getfield 44, 3) := by decide +kernel
theorem dX3_isLike_107 : decode cX3_isLike 107 = .ok (.iload_n 2, 1) := by decide +kernel
theorem dX3_isLike_108 : decode cX3_isLike 108 = .ok (.iaload, 1) := by decide +kernel
theorem dX3_isLike_109 : decode cX3_isLike 109 = .ok (.if_icmp .eq 5, 3) := by decide +kernel
theorem dX3_isLike_112 : decode cX3_isLike 112 = .ok (.iconst 0, 1) := by decide +kernel
theorem dX3_isLike_113 : decode cX3_isLike 113 = .ok (.ireturn, 1) := by decide +kernel
theorem dX3_isLike_114 : decode cX3_isLike 114 = .ok (.iinc 2 1, 3) := by decide +kernel
theorem dX3_isLike_117 : decode cX3_isLike 117 = .ok (.goto (-58), 3) := by decide +kernel
theorem dX3_isLike_120 : decode cX3_isLike 120 = .ok (.iconst 1, 1) := by decide +kernel
theorem dX3_isLike_121 : decode cX3_isLike 121 = .ok (.ireturn, 1) := by decide +kernel
theorem dX3_enlist_0 : decode cX3_enlist 0 = .ok (.aload_n 0, 1) := by decide +kernel
theorem dX3_enlist_1 : decode cX3_enlist 1 = .ok (.getfield 9, 3) := by decide +kernel
theorem dX3_enlist_4 : decode cX3_enlist 4 = .ok (.aload_n 0, 1) := by decide +kernel
theorem dX3_enlist_5 : decode cX3_enlist 5 = .ok (.getfield 32, 3) := by decide +kernel
theorem dX3_enlist_8 : decode cX3_enlist 8 = .ok (.iload_n 1, 1) := by decide +kernel
theorem dX3_enlist_9 : decode cX3_enlist 9 = .ok (.iastore, 1) := by decide +kernel
theorem dX3_enlist_10 : decode cX3_enlist 10 = .ok (.aload_n 0, 1) := by decide +kernel
theorem dX3_enlist_11 : decode cX3_enlist 11 = .ok (.getfield 41, 3) := by decide +kernel
theorem dX3_enlist_14 : decode cX3_enlist 14 = .ok (.aload_n 0, 1) := by decide +kernel
theorem dX3_enlist_15 : decode cX3_enlist 15 = .ok (.getfield 32, 3) := by decide +kernel
theorem dX3_enlist_18 : decode cX3_enlist 18 = .ok (.iload_n 2, 1) := by decide +kernel
theorem dX3_enlist_19 : decode cX3_enlist 19 = .ok (.iastore, 1) := by decide +kernel
theorem dX3_enlist_20 : decode cX3_enlist 20 = .ok (.aload_n 0, 1) := by decide +kernel
theorem dX3_enlist_21 : decode cX3_enlist 21 = .ok (.getfield 44, 3) := by decide +kernel
theorem dX3_enlist_24 : decode cX3_enlist 24 = .ok (.aload_n 0, 1) := by decide +kernel
theorem dX3_enlist_25 : decode cX3_enlist 25 = .ok (.getfield 32, 3) := by decide +kernel
theorem dX3_enlist_28 : decode cX3_enlist 28 = .ok (.iload_n 3, 1) := by decide +kernel
theorem dX3_enlist_29 : decode cX3_enlist 29 = .ok (.iastore, 1) := by decide +kernel
theorem dX3_enlist_30 : decode cX3_enlist 30 = .ok (.aload_n 0, 1) := by decide +kernel
theorem dX3_enlist_31 : decode cX3_enlist 31 = .ok (.dup, 1) := by decide +kernel
theorem dX3_enlist_32 : decode cX3_enlist 32 = .ok (.getfield 32, 3) := by decide +kernel
theorem dX3_enlist_35 : decode cX3_enlist 35 = .ok (.iconst 1, 1) := by decide +kernel
theorem dX3_enlist_36 : decode cX3_enlist 36 = .ok (.iadd, 1) := by decide +kernel
theorem dX3_enlist_37 : decode cX3_enlist 37 = .ok (.putfield 32, 3) := by decide +kernel
theorem dX3_enlist_40 : decode cX3_enlist 40 = .ok (.return_, 1) := by decide +kernel
theorem dX3_stands_0 : decode cX3_stands 0 = .ok (.aload_n 0, 1) := by decide +kernel
theorem dX3_stands_1 : decode cX3_stands 1 = .ok (.getfield 44, 3) := by decide +kernel
theorem dX3_stands_4 : decode cX3_stands 4 = .ok (.iload_n 1, 1) := by decide +kernel
theorem dX3_stands_5 : decode cX3_stands 5 = .ok (.iaload, 1) := by decide +kernel
theorem dX3_stands_6 : decode cX3_stands 6 = .ok (.iconst (-1), 1) := by decide +kernel
theorem dX3_stands_7 : decode cX3_stands 7 = .ok (.if_icmp .eq 7, 3) := by decide +kernel
theorem dX3_stands_10 : decode cX3_stands 10 = .ok (.iconst 1, 1) := by decide +kernel
theorem dX3_stands_11 : decode cX3_stands 11 = .ok (.goto 4, 3) := by decide +kernel
theorem dX3_stands_14 : decode cX3_stands 14 = .ok (.iconst 0, 1) := by decide +kernel
theorem dX3_stands_15 : decode cX3_stands 15 = .ok (.ireturn, 1) := by decide +kernel
theorem dX3_whoStands_0 : decode cX3_whoStands 0 = .ok (.iconst 0, 1) := by decide +kernel
theorem dX3_whoStands_1 : decode cX3_whoStands 1 = .ok (.istore_n 1, 1) := by decide +kernel
theorem dX3_whoStands_2 : decode cX3_whoStands 2 = .ok (.iconst 0, 1) := by decide +kernel
theorem dX3_whoStands_3 : decode cX3_whoStands 3 = .ok (.istore_n 2, 1) := by decide +kernel
theorem dX3_whoStands_4 : decode cX3_whoStands 4 = .ok (.iload_n 2, 1) := by decide +kernel
theorem dX3_whoStands_5 : decode cX3_whoStands 5 = .ok (.aload_n 0, 1) := by decide +kernel
theorem dX3_whoStands_6 : decode cX3_whoStands 6 = .ok (.getfield 32, 3) := by decide +kernel
theorem dX3_whoStands_9 : decode cX3_whoStands 9 = .ok (.if_icmp .ge 23, 3) := by decide +kernel
theorem dX3_whoStands_12 : decode cX3_whoStands 12 = .ok (.aload_n 0, 1) := by decide +kernel
theorem dX3_whoStands_13 : decode cX3_whoStands 13 = .ok (.iload_n 2, 1) := by decide +kernel
theorem dX3_whoStands_14 : decode cX3_whoStands 14 = .ok (.invokevirtual 47, 3) := by decide +kernel
theorem dX3_whoStands_17 : decode cX3_whoStands 17 = .ok (.ifCond .eq 9, 3) := by decide +kernel
theorem dX3_whoStands_20 : decode cX3_whoStands 20 = .ok (.iload_n 1, 1) := by decide +kernel
theorem dX3_whoStands_21 : decode cX3_whoStands 21 = .ok (.iconst 1, 1) := by decide +kernel
theorem dX3_whoStands_22 : decode cX3_whoStands 22 = .ok (.iload_n 2, 1) := by decide +kernel
theorem dX3_whoStands_23 : decode cX3_whoStands 23 = .ok (.ishl, 1) := by decide +kernel
theorem dX3_whoStands_24 : decode cX3_whoStands 24 = .ok (.ior, 1) := by decide +kernel
theorem dX3_whoStands_25 : decode cX3_whoStands 25 = .ok (.istore_n 1, 1) := by decide +kernel
theorem dX3_whoStands_26 : decode cX3_whoStands 26 = .ok (.iinc 2 1, 3) := by decide +kernel
theorem dX3_whoStands_29 : decode cX3_whoStands 29 = .ok (.goto (-25), 3) := by decide +kernel
theorem dX3_whoStands_32 : decode cX3_whoStands 32 = .ok (.iload_n 1, 1) := by decide +kernel
theorem dX3_whoStands_33 : decode cX3_whoStands 33 = .ok (.ireturn, 1) := by decide +kernel
theorem dX3_howManyStand_0 : decode cX3_howManyStand 0 = .ok (.aload_n 0, 1) := by decide +kernel
theorem dX3_howManyStand_1 : decode cX3_howManyStand 1 = .ok (.invokevirtual 51, 3) := by decide +kernel
theorem dX3_howManyStand_4 : decode cX3_howManyStand 4 = .ok (.invokestatic 55, 3) := by decide +kernel
theorem dX3_howManyStand_7 : decode cX3_howManyStand 7 = .ok (.ireturn, 1) := by decide +kernel
theorem dX3_inchesTaken_0 : decode cX3_inchesTaken 0 = .ok (.iconst 0, 1) := by decide +kernel
theorem dX3_inchesTaken_1 : decode cX3_inchesTaken 1 = .ok (.istore_n 1, 1) := by decide +kernel
theorem dX3_inchesTaken_2 : decode cX3_inchesTaken 2 = .ok (.iconst 0, 1) := by decide +kernel
theorem dX3_inchesTaken_3 : decode cX3_inchesTaken 3 = .ok (.istore_n 2, 1) := by decide +kernel
theorem dX3_inchesTaken_4 : decode cX3_inchesTaken 4 = .ok (.iload_n 2, 1) := by decide +kernel
theorem dX3_inchesTaken_5 : decode cX3_inchesTaken 5 = .ok (.aload_n 0, 1) := by decide +kernel
theorem dX3_inchesTaken_6 : decode cX3_inchesTaken 6 = .ok (.getfield 32, 3) := by decide +kernel
theorem dX3_inchesTaken_9 : decode cX3_inchesTaken 9 = .ok (.if_icmp .ge 28, 3) := by decide +kernel
theorem dX3_inchesTaken_12 : decode cX3_inchesTaken 12 = .ok (.aload_n 0, 1) := by decide +kernel
theorem dX3_inchesTaken_13 : decode cX3_inchesTaken 13 = .ok (.iload_n 2, 1) := by decide +kernel
theorem dX3_inchesTaken_14 : decode cX3_inchesTaken 14 = .ok (.invokevirtual 47, 3) := by decide +kernel
theorem dX3_inchesTaken_17 : decode cX3_inchesTaken 17 = .ok (.ifCond .eq 14, 3) := by decide +kernel
theorem dX3_inchesTaken_20 : decode cX3_inchesTaken 20 = .ok (.iload_n 1, 1) := by decide +kernel
theorem dX3_inchesTaken_21 : decode cX3_inchesTaken 21 = .ok (.iconst 1, 1) := by decide +kernel
theorem dX3_inchesTaken_22 : decode cX3_inchesTaken 22 = .ok (.aload_n 0, 1) := by decide +kernel
theorem dX3_inchesTaken_23 : decode cX3_inchesTaken 23 = .ok (.getfield 44, 3) := by decide +kernel
theorem dX3_inchesTaken_26 : decode cX3_inchesTaken 26 = .ok (.iload_n 2, 1) := by decide +kernel
theorem dX3_inchesTaken_27 : decode cX3_inchesTaken 27 = .ok (.iaload, 1) := by decide +kernel
theorem dX3_inchesTaken_28 : decode cX3_inchesTaken 28 = .ok (.ishl, 1) := by decide +kernel
theorem dX3_inchesTaken_29 : decode cX3_inchesTaken 29 = .ok (.ior, 1) := by decide +kernel
theorem dX3_inchesTaken_30 : decode cX3_inchesTaken 30 = .ok (.istore_n 1, 1) := by decide +kernel
theorem dX3_inchesTaken_31 : decode cX3_inchesTaken 31 = .ok (.iinc 2 1, 3) := by decide +kernel
theorem dX3_inchesTaken_34 : decode cX3_inchesTaken 34 = .ok (.goto (-30), 3) := by decide +kernel
theorem dX3_inchesTaken_37 : decode cX3_inchesTaken 37 = .ok (.iload_n 1, 1) := by decide +kernel
theorem dX3_inchesTaken_38 : decode cX3_inchesTaken 38 = .ok (.ireturn, 1) := by decide +kernel
theorem dX3_paintTogether_0 : decode cX3_paintTogether 0 = .ok (.iconst 0, 1) := by decide +kernel
theorem dX3_paintTogether_1 : decode cX3_paintTogether 1 = .ok (.istore_n 1, 1) := by decide +kernel
theorem dX3_paintTogether_2 : decode cX3_paintTogether 2 = .ok (.iconst 0, 1) := by decide +kernel
theorem dX3_paintTogether_3 : decode cX3_paintTogether 3 = .ok (.istore_n 2, 1) := by decide +kernel
theorem dX3_paintTogether_4 : decode cX3_paintTogether 4 = .ok (.iload_n 2, 1) := by decide +kernel
theorem dX3_paintTogether_5 : decode cX3_paintTogether 5 = .ok (.aload_n 0, 1) := by decide +kernel
theorem dX3_paintTogether_6 : decode cX3_paintTogether 6 = .ok (.getfield 32, 3) := by decide +kernel
theorem dX3_paintTogether_9 : decode cX3_paintTogether 9 = .ok (.if_icmp .ge 18, 3) := by decide +kernel
theorem dX3_paintTogether_12 : decode cX3_paintTogether 12 = .ok (.iload_n 1, 1) := by decide +kernel
theorem dX3_paintTogether_13 : decode cX3_paintTogether 13 = .ok (.aload_n 0, 1) := by decide +kernel
theorem dX3_paintTogether_14 : decode cX3_paintTogether 14 = .ok (.getfield 41, 3) := by decide +kernel
theorem dX3_paintTogether_17 : decode cX3_paintTogether 17 = .ok (.iload_n 2, 1) := by decide +kernel
theorem dX3_paintTogether_18 : decode cX3_paintTogether 18 = .ok (.iaload, 1) := by decide +kernel
theorem dX3_paintTogether_19 : decode cX3_paintTogether 19 = .ok (.iadd, 1) := by decide +kernel
theorem dX3_paintTogether_20 : decode cX3_paintTogether 20 = .ok (.istore_n 1, 1) := by decide +kernel
theorem dX3_paintTogether_21 : decode cX3_paintTogether 21 = .ok (.iinc 2 1, 3) := by decide +kernel
theorem dX3_paintTogether_24 : decode cX3_paintTogether 24 = .ok (.goto (-20), 3) := by decide +kernel
theorem dX3_paintTogether_27 : decode cX3_paintTogether 27 = .ok (.iload_n 1, 1) := by decide +kernel
theorem dX3_paintTogether_28 : decode cX3_paintTogether 28 = .ok (.ireturn, 1) := by decide +kernel
theorem dX3_paintOfStanding_0 : decode cX3_paintOfStanding 0 = .ok (.iconst 0, 1) := by decide +kernel
theorem dX3_paintOfStanding_1 : decode cX3_paintOfStanding 1 = .ok (.istore_n 1, 1) := by decide +kernel
theorem dX3_paintOfStanding_2 : decode cX3_paintOfStanding 2 = .ok (.iconst 0, 1) := by decide +kernel
theorem dX3_paintOfStanding_3 : decode cX3_paintOfStanding 3 = .ok (.istore_n 2, 1) := by decide +kernel
theorem dX3_paintOfStanding_4 : decode cX3_paintOfStanding 4 = .ok (.iload_n 2, 1) := by decide +kernel
theorem dX3_paintOfStanding_5 : decode cX3_paintOfStanding 5 = .ok (.aload_n 0, 1) := by decide +kernel
theorem dX3_paintOfStanding_6 : decode cX3_paintOfStanding 6 = .ok (.getfield 32, 3) := by decide +kernel
theorem dX3_paintOfStanding_9 : decode cX3_paintOfStanding 9 = .ok (.if_icmp .ge 26, 3) := by decide +kernel
theorem dX3_paintOfStanding_12 : decode cX3_paintOfStanding 12 = .ok (.aload_n 0, 1) := by decide +kernel
theorem dX3_paintOfStanding_13 : decode cX3_paintOfStanding 13 = .ok (.iload_n 2, 1) := by decide +kernel
theorem dX3_paintOfStanding_14 : decode cX3_paintOfStanding 14 = .ok (.invokevirtual 47, 3) := by decide +kernel
theorem dX3_paintOfStanding_17 : decode cX3_paintOfStanding 17 = .ok (.ifCond .eq 12, 3) := by decide +kernel
theorem dX3_paintOfStanding_20 : decode cX3_paintOfStanding 20 = .ok (.iload_n 1, 1) := by decide +kernel
theorem dX3_paintOfStanding_21 : decode cX3_paintOfStanding 21 = .ok (.aload_n 0, 1) := by decide +kernel
theorem dX3_paintOfStanding_22 : decode cX3_paintOfStanding 22 = .ok (.getfield 41, 3) := by decide +kernel
theorem dX3_paintOfStanding_25 : decode cX3_paintOfStanding 25 = .ok (.iload_n 2, 1) := by decide +kernel
theorem dX3_paintOfStanding_26 : decode cX3_paintOfStanding 26 = .ok (.iaload, 1) := by decide +kernel
theorem dX3_paintOfStanding_27 : decode cX3_paintOfStanding 27 = .ok (.iadd, 1) := by decide +kernel
theorem dX3_paintOfStanding_28 : decode cX3_paintOfStanding 28 = .ok (.istore_n 1, 1) := by decide +kernel
theorem dX3_paintOfStanding_29 : decode cX3_paintOfStanding 29 = .ok (.iinc 2 1, 3) := by decide +kernel
theorem dX3_paintOfStanding_32 : decode cX3_paintOfStanding 32 = .ok (.goto (-28), 3) := by decide +kernel
theorem dX3_paintOfStanding_35 : decode cX3_paintOfStanding 35 = .ok (.iload_n 1, 1) := by decide +kernel
theorem dX3_paintOfStanding_36 : decode cX3_paintOfStanding 36 = .ok (.ireturn, 1) := by decide +kernel
theorem dX3_addPaint_0 : decode cX3_addPaint 0 = .ok (.aload_n 0, 1) := by decide +kernel
theorem dX3_addPaint_1 : decode cX3_addPaint 1 = .ok (.getfield 41, 3) := by decide +kernel
theorem dX3_addPaint_4 : decode cX3_addPaint 4 = .ok (.iload_n 1, 1) := by decide +kernel
theorem dX3_addPaint_5 : decode cX3_addPaint 5 = .ok (.bipush 9, 2) := by decide +kernel
theorem dX3_addPaint_7 : decode cX3_addPaint 7 = .ok (.aload_n 0, 1) := by decide +kernel
theorem dX3_addPaint_8 : decode cX3_addPaint 8 = .ok (.getfield 41, 3) := by decide +kernel
theorem dX3_addPaint_11 : decode cX3_addPaint 11 = .ok (.iload_n 1, 1) := by decide +kernel
theorem dX3_addPaint_12 : decode cX3_addPaint 12 = .ok (.iaload, 1) := by decide +kernel
theorem dX3_addPaint_13 : decode cX3_addPaint 13 = .ok (.iload_n 2, 1) := by decide +kernel
theorem dX3_addPaint_14 : decode cX3_addPaint 14 = .ok (.iadd, 1) := by decide +kernel
theorem dX3_addPaint_15 : decode cX3_addPaint 15 = .ok (.invokestatic 61, 3) := by decide +kernel
theorem dX3_addPaint_18 : decode cX3_addPaint 18 = .ok (.iastore, 1) := by decide +kernel
theorem dX3_addPaint_19 : decode cX3_addPaint 19 = .ok (.return_, 1) := by decide +kernel
theorem dX3_whoIsAt_0 : decode cX3_whoIsAt 0 = .ok (.iconst 0, 1) := by decide +kernel
theorem dX3_whoIsAt_1 : decode cX3_whoIsAt 1 = .ok (.istore_n 2, 1) := by decide +kernel
theorem dX3_whoIsAt_2 : decode cX3_whoIsAt 2 = .ok (.iload_n 2, 1) := by decide +kernel
theorem dX3_whoIsAt_3 : decode cX3_whoIsAt 3 = .ok (.aload_n 0, 1) := by decide +kernel
theorem dX3_whoIsAt_4 : decode cX3_whoIsAt 4 = .ok (.getfield 32, 3) := by decide +kernel
theorem dX3_whoIsAt_7 : decode cX3_whoIsAt 7 = .ok (.if_icmp .ge 21, 3) := by decide +kernel
theorem dX3_whoIsAt_10 : decode cX3_whoIsAt 10 = .ok (.aload_n 0, 1) := by decide +kernel
theorem dX3_whoIsAt_11 : decode cX3_whoIsAt 11 = .ok (.getfield 44, 3) := by decide +kernel
theorem dX3_whoIsAt_14 : decode cX3_whoIsAt 14 = .ok (.iload_n 2, 1) := by decide +kernel
theorem dX3_whoIsAt_15 : decode cX3_whoIsAt 15 = .ok (.iaload, 1) := by decide +kernel
theorem dX3_whoIsAt_16 : decode cX3_whoIsAt 16 = .ok (.iload_n 1, 1) := by decide +kernel
theorem dX3_whoIsAt_17 : decode cX3_whoIsAt 17 = .ok (.if_icmp .ne 5, 3) := by decide +kernel
theorem dX3_whoIsAt_20 : decode cX3_whoIsAt 20 = .ok (.iload_n 2, 1) := by decide +kernel
theorem dX3_whoIsAt_21 : decode cX3_whoIsAt 21 = .ok (.ireturn, 1) := by decide +kernel
theorem dX3_whoIsAt_22 : decode cX3_whoIsAt 22 = .ok (.iinc 2 1, 3) := by decide +kernel
theorem dX3_whoIsAt_25 : decode cX3_whoIsAt 25 = .ok (.goto (-23), 3) := by decide +kernel
theorem dX3_whoIsAt_28 : decode cX3_whoIsAt 28 = .ok (.bipush (-4), 2) := by decide +kernel
theorem dX3_whoIsAt_30 : decode cX3_whoIsAt 30 = .ok (.ireturn, 1) := by decide +kernel
theorem dX3_whoIsNextTo_0 : decode cX3_whoIsNextTo 0 = .ok (.iconst 0, 1) := by decide +kernel
theorem dX3_whoIsNextTo_1 : decode cX3_whoIsNextTo 1 = .ok (.istore_n 2, 1) := by decide +kernel
theorem dX3_whoIsNextTo_2 : decode cX3_whoIsNextTo 2 = .ok (.aload_n 0, 1) := by decide +kernel
theorem dX3_whoIsNextTo_3 : decode cX3_whoIsNextTo 3 = .ok (.iload_n 1, 1) := by decide +kernel
theorem dX3_whoIsNextTo_4 : decode cX3_whoIsNextTo 4 = .ok (.invokevirtual 47, 3) := by decide +kernel
theorem dX3_whoIsNextTo_7 : decode cX3_whoIsNextTo 7 = .ok (.ifCond .eq 53, 3) := by decide +kernel
theorem dX3_whoIsNextTo_10 : decode cX3_whoIsNextTo 10 = .ok (.iconst 0, 1) := by decide +kernel
theorem dX3_whoIsNextTo_11 : decode cX3_whoIsNextTo 11 = .ok (.istore_n 3, 1) := by decide +kernel
theorem dX3_whoIsNextTo_12 : decode cX3_whoIsNextTo 12 = .ok (.iload_n 3, 1) := by decide +kernel
theorem dX3_whoIsNextTo_13 : decode cX3_whoIsNextTo 13 = .ok (.aload_n 0, 1) := by decide +kernel
theorem dX3_whoIsNextTo_14 : decode cX3_whoIsNextTo 14 = .ok (.getfield 32, 3) := by decide +kernel
theorem dX3_whoIsNextTo_17 : decode cX3_whoIsNextTo 17 = .ok (.if_icmp .ge 43, 3) := by decide +kernel
theorem dX3_whoIsNextTo_20 : decode cX3_whoIsNextTo 20 = .ok (.aload_n 0, 1) := by decide +kernel
theorem dX3_whoIsNextTo_21 : decode cX3_whoIsNextTo 21 = .ok (.iload_n 3, 1) := by decide +kernel
theorem dX3_whoIsNextTo_22 : decode cX3_whoIsNextTo 22 = .ok (.invokevirtual 47, 3) := by decide +kernel
theorem dX3_whoIsNextTo_25 : decode cX3_whoIsNextTo 25 = .ok (.ifCond .eq 29, 3) := by decide +kernel
theorem dX3_whoIsNextTo_28 : decode cX3_whoIsNextTo 28 = .ok (.aload_n 0, 1) := by decide +kernel
theorem dX3_whoIsNextTo_29 : decode cX3_whoIsNextTo 29 = .ok (.getfield 44, 3) := by decide +kernel
theorem dX3_whoIsNextTo_32 : decode cX3_whoIsNextTo 32 = .ok (.iload_n 3, 1) := by decide +kernel
theorem dX3_whoIsNextTo_33 : decode cX3_whoIsNextTo 33 = .ok (.iaload, 1) := by decide +kernel
theorem dX3_whoIsNextTo_34 : decode cX3_whoIsNextTo 34 = .ok (.aload_n 0, 1) := by decide +kernel
theorem dX3_whoIsNextTo_35 : decode cX3_whoIsNextTo 35 = .ok (.getfield 44, 3) := by decide +kernel
theorem dX3_whoIsNextTo_38 : decode cX3_whoIsNextTo 38 = .ok (.iload_n 1, 1) := by decide +kernel
theorem dX3_whoIsNextTo_39 : decode cX3_whoIsNextTo 39 = .ok (.iaload, 1) := by decide +kernel
theorem dX3_whoIsNextTo_40 : decode cX3_whoIsNextTo 40 = .ok (.isub, 1) := by decide +kernel
theorem dX3_whoIsNextTo_41 : decode cX3_whoIsNextTo 41 = .ok (.invokestatic 67, 3) := by decide +kernel
theorem dX3_whoIsNextTo_44 : decode cX3_whoIsNextTo 44 = .ok (.iconst 1, 1) := by decide +kernel
theorem dX3_whoIsNextTo_45 : decode cX3_whoIsNextTo 45 = .ok (.if_icmp .ne 9, 3) := by decide +kernel
theorem dX3_whoIsNextTo_48 : decode cX3_whoIsNextTo 48 = .ok (.iload_n 2, 1) := by decide +kernel
theorem dX3_whoIsNextTo_49 : decode cX3_whoIsNextTo 49 = .ok (.iconst 1, 1) := by decide +kernel
theorem dX3_whoIsNextTo_50 : decode cX3_whoIsNextTo 50 = .ok (.iload_n 3, 1) := by decide +kernel
theorem dX3_whoIsNextTo_51 : decode cX3_whoIsNextTo 51 = .ok (.ishl, 1) := by decide +kernel
theorem dX3_whoIsNextTo_52 : decode cX3_whoIsNextTo 52 = .ok (.ior, 1) := by decide +kernel
theorem dX3_whoIsNextTo_53 : decode cX3_whoIsNextTo 53 = .ok (.istore_n 2, 1) := by decide +kernel
theorem dX3_whoIsNextTo_54 : decode cX3_whoIsNextTo 54 = .ok (.iinc 3 1, 3) := by decide +kernel
theorem dX3_whoIsNextTo_57 : decode cX3_whoIsNextTo 57 = .ok (.goto (-45), 3) := by decide +kernel
theorem dX3_whoIsNextTo_60 : decode cX3_whoIsNextTo 60 = .ok (.iload_n 2, 1) := by decide +kernel
theorem dX3_whoIsNextTo_61 : decode cX3_whoIsNextTo 61 = .ok (.ireturn, 1) := by decide +kernel
theorem dX3_heldBy_0 : decode cX3_heldBy 0 = .ok (.iconst 0, 1) := by decide +kernel
theorem dX3_heldBy_1 : decode cX3_heldBy 1 = .ok (.istore_n 3, 1) := by decide +kernel
theorem dX3_heldBy_2 : decode cX3_heldBy 2 = .ok (.iconst 0, 1) := by decide +kernel
theorem dX3_heldBy_3 : decode cX3_heldBy 3 = .ok (.istore 4, 2) := by decide +kernel
theorem dX3_heldBy_5 : decode cX3_heldBy 5 = .ok (.iload 4, 2) := by decide +kernel
theorem dX3_heldBy_7 : decode cX3_heldBy 7 = .ok (.aload_n 0, 1) := by decide +kernel
theorem dX3_heldBy_8 : decode cX3_heldBy 8 = .ok (.getfield 32, 3) := by decide +kernel
theorem dX3_heldBy_11 : decode cX3_heldBy 11 = .ok (.if_icmp .ge 49, 3) := by decide +kernel
theorem dX3_heldBy_14 : decode cX3_heldBy 14 = .ok (.iload_n 1, 1) := by decide +kernel
theorem dX3_heldBy_15 : decode cX3_heldBy 15 = .ok (.iload 4, 2) := by decide +kernel
theorem dX3_heldBy_17 : decode cX3_heldBy 17 = .ok (.ishr, 1) := by decide +kernel
theorem dX3_heldBy_18 : decode cX3_heldBy 18 = .ok (.iconst 1, 1) := by decide +kernel
theorem dX3_heldBy_19 : decode cX3_heldBy 19 = .ok (.iand, 1) := by decide +kernel
theorem dX3_heldBy_20 : decode cX3_heldBy 20 = .ok (.ifCond .eq 34, 3) := by decide +kernel
theorem dX3_heldBy_23 : decode cX3_heldBy 23 = .ok (.aload_n 0, 1) := by decide +kernel
theorem dX3_heldBy_24 : decode cX3_heldBy 24 = .ok (.iload 4, 2) := by decide +kernel
theorem dX3_heldBy_26 : decode cX3_heldBy 26 = .ok (.invokevirtual 47, 3) := by decide +kernel
theorem dX3_heldBy_29 : decode cX3_heldBy 29 = .ok (.ifCond .eq 25, 3) := by decide +kernel
theorem dX3_heldBy_32 : decode cX3_heldBy 32 = .ok (.iload_n 3, 1) := by decide +kernel
theorem dX3_heldBy_33 : decode cX3_heldBy 33 = .ok (.iconst 1, 1) := by decide +kernel
theorem dX3_heldBy_34 : decode cX3_heldBy 34 = .ok (.iconst 2, 1) := by decide +kernel
theorem dX3_heldBy_35 : decode cX3_heldBy 35 = .ok (.iload_n 2, 1) := by decide +kernel
theorem dX3_heldBy_36 : decode cX3_heldBy 36 = .ok (.imul, 1) := by decide +kernel
theorem dX3_heldBy_37 : decode cX3_heldBy 37 = .ok (.iconst 1, 1) := by decide +kernel
theorem dX3_heldBy_38 : decode cX3_heldBy 38 = .ok (.iadd, 1) := by decide +kernel
theorem dX3_heldBy_39 : decode cX3_heldBy 39 = .ok (.ishl, 1) := by decide +kernel
theorem dX3_heldBy_40 : decode cX3_heldBy 40 = .ok (.iconst 1, 1) := by decide +kernel
theorem dX3_heldBy_41 : decode cX3_heldBy 41 = .ok (.isub, 1) := by decide +kernel
theorem dX3_heldBy_42 : decode cX3_heldBy 42 = .ok (.aload_n 0, 1) := by decide +kernel
theorem dX3_heldBy_43 : decode cX3_heldBy 43 = .ok (.getfield 44, 3) := by decide +kernel
theorem dX3_heldBy_46 : decode cX3_heldBy 46 = .ok (.iload 4, 2) := by decide +kernel
theorem dX3_heldBy_48 : decode cX3_heldBy 48 = .ok (.iaload, 1) := by decide +kernel
theorem dX3_heldBy_49 : decode cX3_heldBy 49 = .ok (.ishl, 1) := by decide +kernel
theorem dX3_heldBy_50 : decode cX3_heldBy 50 = .ok (.iload_n 2, 1) := by decide +kernel
theorem dX3_heldBy_51 : decode cX3_heldBy 51 = .ok (.ishr, 1) := by decide +kernel
theorem dX3_heldBy_52 : decode cX3_heldBy 52 = .ok (.ior, 1) := by decide +kernel
theorem dX3_heldBy_53 : decode cX3_heldBy 53 = .ok (.istore_n 3, 1) := by decide +kernel
theorem dX3_heldBy_54 : decode cX3_heldBy 54 = .ok (.iinc 4 1, 3) := by decide +kernel
theorem dX3_heldBy_57 : decode cX3_heldBy 57 = .ok (.goto (-52), 3) := by decide +kernel
theorem dX3_heldBy_60 : decode cX3_heldBy 60 = .ok (.iload_n 3, 1) := by decide +kernel
theorem dX3_heldBy_61 : decode cX3_heldBy 61 = .ok (.sipush 4095, 3) := by decide +kernel
theorem dX3_heldBy_64 : decode cX3_heldBy 64 = .ok (.iand, 1) := by decide +kernel
theorem dX3_heldBy_65 : decode cX3_heldBy 65 = .ok (.ireturn, 1) := by decide +kernel
theorem dX3_crestBehind_0 : decode cX3_crestBehind 0 = .ok (.aload_n 0, 1) := by decide +kernel
theorem dX3_crestBehind_1 : decode cX3_crestBehind 1 = .ok (.getfield 35, 3) := by decide +kernel
theorem dX3_crestBehind_4 : decode cX3_crestBehind 4 = .ok (.aload_n 0, 1) := by decide +kernel
theorem dX3_crestBehind_5 : decode cX3_crestBehind 5 = .ok (.getfield 38, 3) := by decide +kernel
theorem dX3_crestBehind_8 : decode cX3_crestBehind 8 = .ok (.iload_n 1, 1) := by decide +kernel
theorem dX3_crestBehind_9 : decode cX3_crestBehind 9 = .ok (.iadd, 1) := by decide +kernel
theorem dX3_crestBehind_10 : decode cX3_crestBehind 10 = .ok (.aload_n 0, 1) := by decide +kernel
theorem dX3_crestBehind_11 : decode cX3_crestBehind 11 = .ok (.getfield 15, 3) := by decide +kernel
theorem dX3_crestBehind_14 : decode cX3_crestBehind 14 = .ok (.imul, 1) := by decide +kernel
theorem dX3_crestBehind_15 : decode cX3_crestBehind 15 = .ok (.iadd, 1) := by decide +kernel
theorem dX3_crestBehind_16 : decode cX3_crestBehind 16 = .ok (.bipush 12, 2) := by decide +kernel
theorem dX3_crestBehind_18 : decode cX3_crestBehind 18 = .ok (.irem, 1) := by decide +kernel
theorem dX3_crestBehind_19 : decode cX3_crestBehind 19 = .ok (.ireturn, 1) := by decide +kernel
theorem dX3_highAt_0 : decode cX3_highAt 0 = .ok (.iconst 0, 1) := by decide +kernel
theorem dX3_highAt_1 : decode cX3_highAt 1 = .ok (.aload_n 0, 1) := by decide +kernel
theorem dX3_highAt_2 : decode cX3_highAt 2 = .ok (.getfield 19, 3) := by decide +kernel
theorem dX3_highAt_5 : decode cX3_highAt 5 = .ok (.iload_n 1, 1) := by decide +kernel
theorem dX3_highAt_6 : decode cX3_highAt 6 = .ok (.iload_n 2, 1) := by decide +kernel
theorem dX3_highAt_7 : decode cX3_highAt 7 = .ok (.isub, 1) := by decide +kernel
theorem dX3_highAt_8 : decode cX3_highAt 8 = .ok (.invokestatic 67, 3) := by decide +kernel
theorem dX3_highAt_11 : decode cX3_highAt 11 = .ok (.isub, 1) := by decide +kernel
theorem dX3_highAt_12 : decode cX3_highAt 12 = .ok (.invokestatic 70, 3) := by decide +kernel
theorem dX3_highAt_15 : decode cX3_highAt 15 = .ok (.ireturn, 1) := by decide +kernel
theorem dX3_gripOf_0 : decode cX3_gripOf 0 = .ok (.aload_n 0, 1) := by decide +kernel
theorem dX3_gripOf_1 : decode cX3_gripOf 1 = .ok (.getfield 41, 3) := by decide +kernel
theorem dX3_gripOf_4 : decode cX3_gripOf 4 = .ok (.iload_n 1, 1) := by decide +kernel
theorem dX3_gripOf_5 : decode cX3_gripOf 5 = .ok (.iaload, 1) := by decide +kernel
theorem dX3_gripOf_6 : decode cX3_gripOf 6 = .ok (.iconst 2, 1) := by decide +kernel
theorem dX3_gripOf_7 : decode cX3_gripOf 7 = .ok (.iadd, 1) := by decide +kernel
theorem dX3_gripOf_8 : decode cX3_gripOf 8 = .ok (.istore_n 3, 1) := by decide +kernel
theorem dX3_gripOf_9 : decode cX3_gripOf 9 = .ok (.iconst 1, 1) := by decide +kernel
theorem dX3_gripOf_10 : decode cX3_gripOf 10 = .ok (.aload_n 0, 1) := by decide +kernel
theorem dX3_gripOf_11 : decode cX3_gripOf 11 = .ok (.getfield 44, 3) := by decide +kernel
theorem dX3_gripOf_14 : decode cX3_gripOf 14 = .ok (.iload_n 1, 1) := by decide +kernel
theorem dX3_gripOf_15 : decode cX3_gripOf 15 = .ok (.iaload, 1) := by decide +kernel
theorem dX3_gripOf_16 : decode cX3_gripOf 16 = .ok (.ishl, 1) := by decide +kernel
theorem dX3_gripOf_17 : decode cX3_gripOf 17 = .ok (.istore 4, 2) := by decide +kernel
theorem dX3_gripOf_19 : decode cX3_gripOf 19 = .ok (.iload_n 2, 1) := by decide +kernel
theorem dX3_gripOf_20 : decode cX3_gripOf 20 = .ok (.iload 4, 2) := by decide +kernel
theorem dX3_gripOf_22 : decode cX3_gripOf 22 = .ok (.iconst 1, 1) := by decide +kernel
theorem dX3_gripOf_23 : decode cX3_gripOf 23 = .ok (.ishl, 1) := by decide +kernel
theorem dX3_gripOf_24 : decode cX3_gripOf 24 = .ok (.iload 4, 2) := by decide +kernel
theorem dX3_gripOf_26 : decode cX3_gripOf 26 = .ok (.iconst 1, 1) := by decide +kernel
theorem dX3_gripOf_27 : decode cX3_gripOf 27 = .ok (.ishr, 1) := by decide +kernel
theorem dX3_gripOf_28 : decode cX3_gripOf 28 = .ok (.ior, 1) := by decide +kernel
theorem dX3_gripOf_29 : decode cX3_gripOf 29 = .ok (.iand, 1) := by decide +kernel
theorem dX3_gripOf_30 : decode cX3_gripOf 30 = .ok (.invokestatic 55, 3) := by decide +kernel
theorem dX3_gripOf_33 : decode cX3_gripOf 33 = .ok (.istore 5, 2) := by decide +kernel
theorem dX3_gripOf_35 : decode cX3_gripOf 35 = .ok (.aload_n 0, 1) := by decide +kernel
theorem dX3_gripOf_36 : decode cX3_gripOf 36 = .ok (.getfield 9, 3) := by decide +kernel
theorem dX3_gripOf_39 : decode cX3_gripOf 39 = .ok (.iload_n 1, 1) := by decide +kernel
theorem dX3_gripOf_40 : decode cX3_gripOf 40 = .ok (.iaload, 1) := by decide +kernel
theorem dX3_gripOf_41 : decode cX3_gripOf 41 = .ok (.tableswitch 68 1 4 #[31, 35, 40, 53], 31) := by decide +kernel
theorem dX3_gripOf_72 : decode cX3_gripOf 72 = .ok (.iload_n 3, 1) := by decide +kernel
theorem dX3_gripOf_73 : decode cX3_gripOf 73 = .ok (.iconst 2, 1) := by decide +kernel
theorem dX3_gripOf_74 : decode cX3_gripOf 74 = .ok (.idiv, 1) := by decide +kernel
theorem dX3_gripOf_75 : decode cX3_gripOf 75 = .ok (.ireturn, 1) := by decide +kernel
theorem dX3_gripOf_76 : decode cX3_gripOf 76 = .ok (.iload_n 3, 1) := by decide +kernel
theorem dX3_gripOf_77 : decode cX3_gripOf 77 = .ok (.iload 5, 2) := by decide +kernel
theorem dX3_gripOf_79 : decode cX3_gripOf 79 = .ok (.iadd, 1) := by decide +kernel
theorem dX3_gripOf_80 : decode cX3_gripOf 80 = .ok (.ireturn, 1) := by decide +kernel
theorem dX3_gripOf_81 : decode cX3_gripOf 81 = .ok (.iload_n 3, 1) := by decide +kernel
theorem dX3_gripOf_82 : decode cX3_gripOf 82 = .ok (.iconst 2, 1) := by decide +kernel
theorem dX3_gripOf_83 : decode cX3_gripOf 83 = .ok (.idiv, 1) := by decide +kernel
theorem dX3_gripOf_84 : decode cX3_gripOf 84 = .ok (.aload_n 0, 1) := by decide +kernel
theorem dX3_gripOf_85 : decode cX3_gripOf 85 = .ok (.getfield 38, 3) := by decide +kernel
theorem dX3_gripOf_88 : decode cX3_gripOf 88 = .ok (.iconst 2, 1) := by decide +kernel
theorem dX3_gripOf_89 : decode cX3_gripOf 89 = .ok (.irem, 1) := by decide +kernel
theorem dX3_gripOf_90 : decode cX3_gripOf 90 = .ok (.iconst 3, 1) := by decide +kernel
theorem dX3_gripOf_91 : decode cX3_gripOf 91 = .ok (.imul, 1) := by decide +kernel
theorem dX3_gripOf_92 : decode cX3_gripOf 92 = .ok (.iadd, 1) := by decide +kernel
theorem dX3_gripOf_93 : decode cX3_gripOf 93 = .ok (.ireturn, 1) := by decide +kernel
theorem dX3_gripOf_94 : decode cX3_gripOf 94 = .ok (.iload_n 3, 1) := by decide +kernel
theorem dX3_gripOf_95 : decode cX3_gripOf 95 = .ok (.iload 5, 2) := by decide +kernel
theorem dX3_gripOf_97 : decode cX3_gripOf 97 = .ok (.iadd, 1) := by decide +kernel
theorem dX3_gripOf_98 : decode cX3_gripOf 98 = .ok (.aload_n 0, 1) := by decide +kernel
theorem dX3_gripOf_99 : decode cX3_gripOf 99 = .ok (.getfield 32, 3) := by decide +kernel
theorem dX3_gripOf_102 : decode cX3_gripOf 102 = .ok (.iadd, 1) := by decide +kernel
theorem dX3_gripOf_103 : decode cX3_gripOf 103 = .ok (.iload_n 2, 1) := by decide +kernel
theorem dX3_gripOf_104 : decode cX3_gripOf 104 = .ok (.invokestatic 55, 3) := by decide +kernel
theorem dX3_gripOf_107 : decode cX3_gripOf 107 = .ok (.isub, 1) := by decide +kernel
theorem dX3_gripOf_108 : decode cX3_gripOf 108 = .ok (.ireturn, 1) := by decide +kernel
theorem dX3_gripOf_109 : decode cX3_gripOf 109 = .ok (.iload_n 3, 1) := by decide +kernel
theorem dX3_gripOf_110 : decode cX3_gripOf 110 = .ok (.ireturn, 1) := by decide +kernel
theorem dX3_passNightBy_0 : decode cX3_passNightBy 0 = .ok (.aload_n 0, 1) := by decide +kernel
theorem dX3_passNightBy_1 : decode cX3_passNightBy 1 = .ok (.iconst 0, 1) := by decide +kernel
theorem dX3_passNightBy_2 : decode cX3_passNightBy 2 = .ok (.invokevirtual 73, 3) := by decide +kernel
theorem dX3_passNightBy_5 : decode cX3_passNightBy 5 = .ok (.istore_n 2, 1) := by decide +kernel
theorem dX3_passNightBy_6 : decode cX3_passNightBy 6 = .ok (.iload_n 1, 1) := by decide +kernel
theorem dX3_passNightBy_7 : decode cX3_passNightBy 7 = .ok (.istore_n 3, 1) := by decide +kernel
theorem dX3_passNightBy_8 : decode cX3_passNightBy 8 = .ok (.iconst 0, 1) := by decide +kernel
theorem dX3_passNightBy_9 : decode cX3_passNightBy 9 = .ok (.istore 4, 2) := by decide +kernel
theorem dX3_passNightBy_11 : decode cX3_passNightBy 11 = .ok (.iload 4, 2) := by decide +kernel
theorem dX3_passNightBy_13 : decode cX3_passNightBy 13 = .ok (.aload_n 0, 1) := by decide +kernel
theorem dX3_passNightBy_14 : decode cX3_passNightBy 14 = .ok (.getfield 32, 3) := by decide +kernel
theorem dX3_passNightBy_17 : decode cX3_passNightBy 17 = .ok (.if_icmp .ge 93, 3) := by decide +kernel
theorem dX3_passNightBy_20 : decode cX3_passNightBy 20 = .ok (.aload_n 0, 1) := by decide +kernel
theorem dX3_passNightBy_21 : decode cX3_passNightBy 21 = .ok (.getfield 44, 3) := by decide +kernel
theorem dX3_passNightBy_24 : decode cX3_passNightBy 24 = .ok (.iload 4, 2) := by decide +kernel
theorem dX3_passNightBy_26 : decode cX3_passNightBy 26 = .ok (.iaload, 1) := by decide +kernel
theorem dX3_passNightBy_27 : decode cX3_passNightBy 27 = .ok (.istore 5, 2) := by decide +kernel
theorem dX3_passNightBy_29 : decode cX3_passNightBy 29 = .ok (.iload 5, 2) := by decide +kernel
theorem dX3_passNightBy_31 : decode cX3_passNightBy 31 = .ok (.iconst (-1), 1) := by decide +kernel
theorem dX3_passNightBy_32 : decode cX3_passNightBy 32 = .ok (.if_icmp .ne 7, 3) := by decide +kernel
theorem dX3_passNightBy_35 : decode cX3_passNightBy 35 = .ok (.iconst 0, 1) := by decide +kernel
theorem dX3_passNightBy_36 : decode cX3_passNightBy 36 = .ok (.goto 10, 3) := by decide +kernel
theorem dX3_passNightBy_39 : decode cX3_passNightBy 39 = .ok (.aload_n 0, 1) := by decide +kernel
theorem dX3_passNightBy_40 : decode cX3_passNightBy 40 = .ok (.iload 5, 2) := by decide +kernel
theorem dX3_passNightBy_42 : decode cX3_passNightBy 42 = .ok (.iload_n 2, 1) := by decide +kernel
theorem dX3_passNightBy_43 : decode cX3_passNightBy 43 = .ok (.invokevirtual 76, 3) := by decide +kernel
theorem dX3_passNightBy_46 : decode cX3_passNightBy 46 = .ok (.istore 6, 2) := by decide +kernel
theorem dX3_passNightBy_48 : decode cX3_passNightBy 48 = .ok (.iload 6, 2) := by decide +kernel
theorem dX3_passNightBy_50 : decode cX3_passNightBy 50 = .ok (.ifCond .le 54, 3) := by decide +kernel
theorem dX3_passNightBy_53 : decode cX3_passNightBy 53 = .ok (.aload_n 0, 1) := by decide +kernel
theorem dX3_passNightBy_54 : decode cX3_passNightBy 54 = .ok (.iload 4, 2) := by decide +kernel
theorem dX3_passNightBy_56 : decode cX3_passNightBy 56 = .ok (.iload_n 1, 1) := by decide +kernel
theorem dX3_passNightBy_57 : decode cX3_passNightBy 57 = .ok (.invokevirtual 79, 3) := by decide +kernel
theorem dX3_passNightBy_60 : decode cX3_passNightBy 60 = .ok (.iload 6, 2) := by decide +kernel
theorem dX3_passNightBy_62 : decode cX3_passNightBy 62 = .ok (.if_icmp .ge 21, 3) := by decide +kernel
theorem dX3_passNightBy_65 : decode cX3_passNightBy 65 = .ok (.aload_n 0, 1) := by decide +kernel
theorem dX3_passNightBy_66 : decode cX3_passNightBy 66 = .ok (.getfield 44, 3) := by decide +kernel
theorem dX3_passNightBy_69 : decode cX3_passNightBy 69 = .ok (.iload 4, 2) := by decide +kernel
theorem dX3_passNightBy_71 : decode cX3_passNightBy 71 = .ok (.iconst (-1), 1) := by decide +kernel
theorem dX3_passNightBy_72 : decode cX3_passNightBy 72 = .ok (.iastore, 1) := by decide +kernel
theorem dX3_passNightBy_73 : decode cX3_passNightBy 73 = .ok (.iload_n 3, 1) := by decide +kernel
theorem dX3_passNightBy_74 : decode cX3_passNightBy 74 = .ok (.iconst 1, 1) := by decide +kernel
theorem dX3_passNightBy_75 : decode cX3_passNightBy 75 = .ok (.iload 5, 2) := by decide +kernel
theorem dX3_passNightBy_77 : decode cX3_passNightBy 77 = .ok (.ishl, 1) := by decide +kernel
theorem dX3_passNightBy_78 : decode cX3_passNightBy 78 = .ok (.ixor, 1) := by decide +kernel
theorem dX3_passNightBy_79 : decode cX3_passNightBy 79 = .ok (.istore_n 3, 1) := by decide +kernel
theorem dX3_passNightBy_80 : decode cX3_passNightBy 80 = .ok (.goto 24, 3) := by decide +kernel
theorem dX3_passNightBy_83 : decode cX3_passNightBy 83 = .ok (.aload_n 0, 1) := by decide +kernel
theorem dX3_passNightBy_84 : decode cX3_passNightBy 84 = .ok (.getfield 41, 3) := by decide +kernel
theorem dX3_passNightBy_87 : decode cX3_passNightBy 87 = .ok (.iload 4, 2) := by decide +kernel
theorem dX3_passNightBy_89 : decode cX3_passNightBy 89 = .ok (.iaload, 1) := by decide +kernel
theorem dX3_passNightBy_90 : decode cX3_passNightBy 90 = .ok (.ifCond .le 14, 3) := by decide +kernel
theorem dX3_passNightBy_93 : decode cX3_passNightBy 93 = .ok (.aload_n 0, 1) := by decide +kernel
theorem dX3_passNightBy_94 : decode cX3_passNightBy 94 = .ok (.getfield 41, 3) := by decide +kernel
theorem dX3_passNightBy_97 : decode cX3_passNightBy 97 = .ok (.iload 4, 2) := by decide +kernel
theorem dX3_passNightBy_99 : decode cX3_passNightBy 99 = .ok (.dup2, 1) := by decide +kernel
theorem dX3_passNightBy_100 : decode cX3_passNightBy 100 = .ok (.iaload, 1) := by decide +kernel
theorem dX3_passNightBy_101 : decode cX3_passNightBy 101 = .ok (.iconst 1, 1) := by decide +kernel
theorem dX3_passNightBy_102 : decode cX3_passNightBy 102 = .ok (.isub, 1) := by decide +kernel
theorem dX3_passNightBy_103 : decode cX3_passNightBy 103 = .ok (.iastore, 1) := by decide +kernel
theorem dX3_passNightBy_104 : decode cX3_passNightBy 104 = .ok (.iinc 4 1, 3) := by decide +kernel
theorem dX3_passNightBy_107 : decode cX3_passNightBy 107 = .ok (.goto (-96), 3) := by decide +kernel
theorem dX3_passNightBy_110 : decode cX3_passNightBy 110 = .ok (.aload_n 0, 1) := by decide +kernel
theorem dX3_passNightBy_111 : decode cX3_passNightBy 111 = .ok (.dup, 1) := by decide +kernel
theorem dX3_passNightBy_112 : decode cX3_passNightBy 112 = .ok (.getfield 38, 3) := by decide +kernel
theorem dX3_passNightBy_115 : decode cX3_passNightBy 115 = .ok (.iconst 1, 1) := by decide +kernel
theorem dX3_passNightBy_116 : decode cX3_passNightBy 116 = .ok (.iadd, 1) := by decide +kernel
theorem dX3_passNightBy_117 : decode cX3_passNightBy 117 = .ok (.putfield 38, 3) := by decide +kernel
theorem dX3_passNightBy_120 : decode cX3_passNightBy 120 = .ok (.iload_n 3, 1) := by decide +kernel
theorem dX3_passNightBy_121 : decode cX3_passNightBy 121 = .ok (.ireturn, 1) := by decide +kernel
theorem dX3_passNight_0 : decode cX3_passNight 0 = .ok (.aload_n 0, 1) := by decide +kernel
theorem dX3_passNight_1 : decode cX3_passNight 1 = .ok (.aload_n 0, 1) := by decide +kernel
theorem dX3_passNight_2 : decode cX3_passNight 2 = .ok (.invokevirtual 51, 3) := by decide +kernel
theorem dX3_passNight_5 : decode cX3_passNight 5 = .ok (.invokevirtual 82, 3) := by decide +kernel
theorem dX3_passNight_8 : decode cX3_passNight 8 = .ok (.pop, 1) := by decide +kernel
theorem dX3_passNight_9 : decode cX3_passNight 9 = .ok (.return_, 1) := by decide +kernel
theorem dX3_passSome_0 : decode cX3_passSome 0 = .ok (.aload_n 0, 1) := by decide +kernel
theorem dX3_passSome_1 : decode cX3_passSome 1 = .ok (.iload_n 1, 1) := by decide +kernel
theorem dX3_passSome_2 : decode cX3_passSome 2 = .ok (.iconst 0, 1) := by decide +kernel
theorem dX3_passSome_3 : decode cX3_passSome 3 = .ok (.invokevirtual 85, 3) := by decide +kernel
theorem dX3_passSome_6 : decode cX3_passSome 6 = .ok (.pop, 1) := by decide +kernel
theorem dX3_passSome_7 : decode cX3_passSome 7 = .ok (.return_, 1) := by decide +kernel
theorem dX3_passWhile_0 : decode cX3_passWhile 0 = .ok (.aload_n 0, 1) := by decide +kernel
theorem dX3_passWhile_1 : decode cX3_passWhile 1 = .ok (.invokevirtual 51, 3) := by decide +kernel
theorem dX3_passWhile_4 : decode cX3_passWhile 4 = .ok (.istore_n 3, 1) := by decide +kernel
theorem dX3_passWhile_5 : decode cX3_passWhile 5 = .ok (.iload_n 3, 1) := by decide +kernel
theorem dX3_passWhile_6 : decode cX3_passWhile 6 = .ok (.invokestatic 55, 3) := by decide +kernel
theorem dX3_passWhile_9 : decode cX3_passWhile 9 = .ok (.istore 4, 2) := by decide +kernel
theorem dX3_passWhile_11 : decode cX3_passWhile 11 = .ok (.iconst 0, 1) := by decide +kernel
theorem dX3_passWhile_12 : decode cX3_passWhile 12 = .ok (.istore 5, 2) := by decide +kernel
theorem dX3_passWhile_14 : decode cX3_passWhile 14 = .ok (.iload 5, 2) := by decide +kernel
theorem dX3_passWhile_16 : decode cX3_passWhile 16 = .ok (.iload_n 1, 1) := by decide +kernel
theorem dX3_passWhile_17 : decode cX3_passWhile 17 = .ok (.if_icmp .ge 27, 3) := by decide +kernel
theorem dX3_passWhile_20 : decode cX3_passWhile 20 = .ok (.iload 4, 2) := by decide +kernel
theorem dX3_passWhile_22 : decode cX3_passWhile 22 = .ok (.iload_n 2, 1) := by decide +kernel
theorem dX3_passWhile_23 : decode cX3_passWhile 23 = .ok (.if_icmp .lt 21, 3) := by decide +kernel
theorem dX3_passWhile_26 : decode cX3_passWhile 26 = .ok (.aload_n 0, 1) := by decide +kernel
theorem dX3_passWhile_27 : decode cX3_passWhile 27 = .ok (.iload_n 3, 1) := by decide +kernel
theorem dX3_passWhile_28 : decode cX3_passWhile 28 = .ok (.invokevirtual 82, 3) := by decide +kernel
theorem dX3_passWhile_31 : decode cX3_passWhile 31 = .ok (.istore_n 3, 1) := by decide +kernel
theorem dX3_passWhile_32 : decode cX3_passWhile 32 = .ok (.iload_n 3, 1) := by decide +kernel
theorem dX3_passWhile_33 : decode cX3_passWhile 33 = .ok (.invokestatic 55, 3) := by decide +kernel
theorem dX3_passWhile_36 : decode cX3_passWhile 36 = .ok (.istore 4, 2) := by decide +kernel
theorem dX3_passWhile_38 : decode cX3_passWhile 38 = .ok (.iinc 5 1, 3) := by decide +kernel
theorem dX3_passWhile_41 : decode cX3_passWhile 41 = .ok (.goto (-27), 3) := by decide +kernel
theorem dX3_passWhile_44 : decode cX3_passWhile 44 = .ok (.iload 4, 2) := by decide +kernel
theorem dX3_passWhile_46 : decode cX3_passWhile 46 = .ok (.ireturn, 1) := by decide +kernel
theorem dX3_marchByDraw_0 : decode cX3_marchByDraw 0 = .ok (.aload_n 0, 1) := by decide +kernel
theorem dX3_marchByDraw_1 : decode cX3_marchByDraw 1 = .ok (.aload_n 0, 1) := by decide +kernel
theorem dX3_marchByDraw_2 : decode cX3_marchByDraw 2 = .ok (.getfield 88, 3) := by decide +kernel
theorem dX3_marchByDraw_5 : decode cX3_marchByDraw 5 = .ok (.ldc 91, 2) := by decide +kernel
theorem dX3_marchByDraw_7 : decode cX3_marchByDraw 7 = .ok (.imul, 1) := by decide +kernel
theorem dX3_marchByDraw_8 : decode cX3_marchByDraw 8 = .ok (.sipush 12345, 3) := by decide +kernel
theorem dX3_marchByDraw_11 : decode cX3_marchByDraw 11 = .ok (.iadd, 1) := by decide +kernel
theorem dX3_marchByDraw_12 : decode cX3_marchByDraw 12 = .ok (.ldc 92, 2) := by decide +kernel
theorem dX3_marchByDraw_14 : decode cX3_marchByDraw 14 = .ok (.iand, 1) := by decide +kernel
theorem dX3_marchByDraw_15 : decode cX3_marchByDraw 15 = .ok (.putfield 88, 3) := by decide +kernel
theorem dX3_marchByDraw_18 : decode cX3_marchByDraw 18 = .ok (.aload_n 0, 1) := by decide +kernel
theorem dX3_marchByDraw_19 : decode cX3_marchByDraw 19 = .ok (.getfield 32, 3) := by decide +kernel
theorem dX3_marchByDraw_22 : decode cX3_marchByDraw 22 = .ok (.ifCond .le 53, 3) := by decide +kernel
theorem dX3_marchByDraw_25 : decode cX3_marchByDraw 25 = .ok (.aload_n 0, 1) := by decide +kernel
theorem dX3_marchByDraw_26 : decode cX3_marchByDraw 26 = .ok (.getfield 88, 3) := by decide +kernel
theorem dX3_marchByDraw_29 : decode cX3_marchByDraw 29 = .ok (.ldc 93, 2) := by decide +kernel
theorem dX3_marchByDraw_31 : decode cX3_marchByDraw 31 = .ok (.idiv, 1) := by decide +kernel
theorem dX3_marchByDraw_32 : decode cX3_marchByDraw 32 = .ok (.aload_n 0, 1) := by decide +kernel
theorem dX3_marchByDraw_33 : decode cX3_marchByDraw 33 = .ok (.getfield 32, 3) := by decide +kernel
theorem dX3_marchByDraw_36 : decode cX3_marchByDraw 36 = .ok (.irem, 1) := by decide +kernel
theorem dX3_marchByDraw_37 : decode cX3_marchByDraw 37 = .ok (.istore_n 1, 1) := by decide +kernel
theorem dX3_marchByDraw_38 : decode cX3_marchByDraw 38 = .ok (.aload_n 0, 1) := by decide +kernel
theorem dX3_marchByDraw_39 : decode cX3_marchByDraw 39 = .ok (.getfield 88, 3) := by decide +kernel
theorem dX3_marchByDraw_42 : decode cX3_marchByDraw 42 = .ok (.sipush 128, 3) := by decide +kernel
theorem dX3_marchByDraw_45 : decode cX3_marchByDraw 45 = .ok (.idiv, 1) := by decide +kernel
theorem dX3_marchByDraw_46 : decode cX3_marchByDraw 46 = .ok (.bipush 12, 2) := by decide +kernel
theorem dX3_marchByDraw_48 : decode cX3_marchByDraw 48 = .ok (.irem, 1) := by decide +kernel
theorem dX3_marchByDraw_49 : decode cX3_marchByDraw 49 = .ok (.istore_n 2, 1) := by decide +kernel
theorem dX3_marchByDraw_50 : decode cX3_marchByDraw 50 = .ok (.aload_n 0, 1) := by decide +kernel
theorem dX3_marchByDraw_51 : decode cX3_marchByDraw 51 = .ok (.iload_n 1, 1) := by decide +kernel
theorem dX3_marchByDraw_52 : decode cX3_marchByDraw 52 = .ok (.invokevirtual 47, 3) := by decide +kernel
theorem dX3_marchByDraw_55 : decode cX3_marchByDraw 55 = .ok (.ifCond .eq 20, 3) := by decide +kernel
theorem dX3_marchByDraw_58 : decode cX3_marchByDraw 58 = .ok (.aload_n 0, 1) := by decide +kernel
theorem dX3_marchByDraw_59 : decode cX3_marchByDraw 59 = .ok (.iload_n 2, 1) := by decide +kernel
theorem dX3_marchByDraw_60 : decode cX3_marchByDraw 60 = .ok (.invokevirtual 94, 3) := by decide +kernel
theorem dX3_marchByDraw_63 : decode cX3_marchByDraw 63 = .ok (.bipush (-4), 2) := by decide +kernel
theorem dX3_marchByDraw_65 : decode cX3_marchByDraw 65 = .ok (.if_icmp .ne 10, 3) := by decide +kernel
theorem dX3_marchByDraw_68 : decode cX3_marchByDraw 68 = .ok (.aload_n 0, 1) := by decide +kernel
theorem dX3_marchByDraw_69 : decode cX3_marchByDraw 69 = .ok (.getfield 44, 3) := by decide +kernel
theorem dX3_marchByDraw_72 : decode cX3_marchByDraw 72 = .ok (.iload_n 1, 1) := by decide +kernel
theorem dX3_marchByDraw_73 : decode cX3_marchByDraw 73 = .ok (.iload_n 2, 1) := by decide +kernel
theorem dX3_marchByDraw_74 : decode cX3_marchByDraw 74 = .ok (.iastore, 1) := by decide +kernel
theorem dX3_marchByDraw_75 : decode cX3_marchByDraw 75 = .ok (.return_, 1) := by decide +kernel
theorem dX4_init_0 : decode cX4_init 0 = .ok (.aload_n 0, 1) := by decide +kernel
theorem dX4_init_1 : decode cX4_init 1 = .ok (.invokespecial 3, 3) := by decide +kernel
theorem dX4_init_4 : decode cX4_init 4 = .ok (.aload_n 0, 1) := by decide +kernel
theorem dX4_init_5 : decode cX4_init 5 = .ok (.bipush 24, 2) := by decide +kernel
theorem dX4_init_7 : decode cX4_init 7 = .ok (.newarray .long, 2) := by decide +kernel
theorem dX4_init_9 : decode cX4_init 9 = .ok (.putfield 9, 3) := by decide +kernel
theorem dX4_init_12 : decode cX4_init 12 = .ok (.aload_n 0, 1) := by decide +kernel
theorem dX4_init_13 : decode cX4_init 13 = .ok (.iconst (-1), 1) := by decide +kernel
theorem dX4_init_14 : decode cX4_init 14 = .ok (.putfield 15, 3) := by decide +kernel
theorem dX4_init_17 : decode cX4_init 17 = .ok (.return_, 1) := by decide +kernel
theorem dX4_isMissing_0 : decode cX4_isMissing 0 = .ok (.aload_n 0, 1) := by decide +kernel
theorem dX4_isMissing_1 : decode cX4_isMissing 1 = .ok (.getfield 15, 3) := by decide +kernel
theorem dX4_isMissing_4 : decode cX4_isMissing 4 = .ok (.iconst (-1), 1) := by decide +kernel
theorem dX4_isMissing_5 : decode cX4_isMissing 5 = .ok (.if_icmp .ne 7, 3) := by decide +kernel
theorem dX4_isMissing_8 : decode cX4_isMissing 8 = .ok (.iconst 1, 1) := by decide +kernel
theorem dX4_isMissing_9 : decode cX4_isMissing 9 = .ok (.goto 4, 3) := by decide +kernel
theorem dX4_isMissing_12 : decode cX4_isMissing 12 = .ok (.iconst 0, 1) := by decide +kernel
theorem dX4_isMissing_13 : decode cX4_isMissing 13 = .ok (.ireturn, 1) := by decide +kernel
theorem dX4_begin_0 : decode cX4_begin 0 = .ok (.aload_n 0, 1) := by decide +kernel
theorem dX4_begin_1 : decode cX4_begin 1 = .ok (.iload_n 1, 1) := by decide +kernel
theorem dX4_begin_2 : decode cX4_begin 2 = .ok (.putfield 15, 3) := by decide +kernel
theorem dX4_begin_5 : decode cX4_begin 5 = .ok (.aload_n 0, 1) := by decide +kernel
theorem dX4_begin_6 : decode cX4_begin 6 = .ok (.iload_n 2, 1) := by decide +kernel
theorem dX4_begin_7 : decode cX4_begin 7 = .ok (.putfield 19, 3) := by decide +kernel
theorem dX4_begin_10 : decode cX4_begin 10 = .ok (.aload_n 0, 1) := by decide +kernel
theorem dX4_begin_11 : decode cX4_begin 11 = .ok (.getfield 9, 3) := by decide +kernel
theorem dX4_begin_14 : decode cX4_begin 14 = .ok (.lconst 0, 1) := by decide +kernel
theorem dX4_begin_15 : decode cX4_begin 15 = .ok (.invokestatic 22, 3) := by decide +kernel
theorem dX4_begin_18 : decode cX4_begin 18 = .ok (.return_, 1) := by decide +kernel
theorem dX4_end_0 : decode cX4_end 0 = .ok (.aload_n 0, 1) := by decide +kernel
theorem dX4_end_1 : decode cX4_end 1 = .ok (.iconst (-1), 1) := by decide +kernel
theorem dX4_end_2 : decode cX4_end 2 = .ok (.putfield 15, 3) := by decide +kernel
theorem dX4_end_5 : decode cX4_end 5 = .ok (.return_, 1) := by decide +kernel
theorem dX4_hasItems_0 : decode cX4_hasItems 0 = .ok (.iload_n 1, 1) := by decide +kernel
theorem dX4_hasItems_1 : decode cX4_hasItems 1 = .ok (.ifCond .lt 21, 3) := by decide +kernel
theorem dX4_hasItems_4 : decode cX4_hasItems 4 = .ok (.iload_n 2, 1) := by decide +kernel
theorem dX4_hasItems_5 : decode cX4_hasItems 5 = .ok (.ifCond .lt 17, 3) := by decide +kernel
theorem dX4_hasItems_8 : decode cX4_hasItems 8 = .ok (.iload_n 1, 1) := by decide +kernel
theorem dX4_hasItems_9 : decode cX4_hasItems 9 = .ok (.aload_n 0, 1) := by decide +kernel
theorem dX4_hasItems_10 : decode cX4_hasItems 10 = .ok (.getfield 19, 3) := by decide +kernel
theorem dX4_hasItems_13 : decode cX4_hasItems 13 = .ok (.iload_n 2, 1) := by decide +kernel
theorem dX4_hasItems_14 : decode cX4_hasItems 14 = .ok (.isub, 1) := by decide +kernel
theorem dX4_hasItems_15 : decode cX4_hasItems 15 = .ok (.if_icmp .gt 7, 3) := by decide +kernel
theorem dX4_hasItems_18 : decode cX4_hasItems 18 = .ok (.iconst 1, 1) := by decide +kernel
theorem dX4_hasItems_19 : decode cX4_hasItems 19 = .ok (.goto 4, 3) := by decide +kernel
theorem dX4_hasItems_22 : decode cX4_hasItems 22 = .ok (.iconst 0, 1) := by decide +kernel
theorem dX4_hasItems_23 : decode cX4_hasItems 23 = .ok (.ireturn, 1) := by decide +kernel
theorem dX4_refusal_0 : decode cX4_refusal 0 = .ok (.aload_n 0, 1) := by decide +kernel
theorem dX4_refusal_1 : decode cX4_refusal 1 = .ok (.invokevirtual 28, 3) := by decide +kernel
theorem dX4_refusal_4 : decode cX4_refusal 4 = .ok (.ifCond .eq 6, 3) := by decide +kernel
theorem dX4_refusal_7 : decode cX4_refusal 7 = .ok (.bipush (-11), 2) := by decide +kernel
theorem dX4_refusal_9 : decode cX4_refusal 9 = .ok (.ireturn, 1) := by decide +kernel
theorem dX4_refusal_10 : decode cX4_refusal 10 = .ok (.aload_n 0, 1) := by decide +kernel
theorem dX4_refusal_11 : decode cX4_refusal 11 = .ok (.getfield 15, 3) := by decide +kernel
theorem dX4_refusal_14 : decode cX4_refusal 14 = .ok (.iload_n 1, 1) := by decide +kernel
theorem dX4_refusal_15 : decode cX4_refusal 15 = .ok (.if_icmp .eq 6, 3) := by decide +kernel
theorem dX4_refusal_18 : decode cX4_refusal 18 = .ok (.bipush (-12), 2) := by decide +kernel
theorem dX4_refusal_20 : decode cX4_refusal 20 = .ok (.ireturn, 1) := by decide +kernel
theorem dX4_refusal_21 : decode cX4_refusal 21 = .ok (.aload_n 0, 1) := by decide +kernel
theorem dX4_refusal_22 : decode cX4_refusal 22 = .ok (.iload_n 2, 1) := by decide +kernel
theorem dX4_refusal_23 : decode cX4_refusal 23 = .ok (.iload_n 3, 1) := by decide +kernel
theorem dX4_refusal_24 : decode cX4_refusal 24 = .ok (.invokevirtual 32, 3) := by decide +kernel
theorem dX4_refusal_27 : decode cX4_refusal 27 = .ok (.ifCond .eq 7, 3) := by decide +kernel
theorem dX4_refusal_30 : decode cX4_refusal 30 = .ok (.iconst 0, 1) := by decide +kernel
theorem dX4_refusal_31 : decode cX4_refusal 31 = .ok (.goto 5, 3) := by decide +kernel
theorem dX4_refusal_34 : decode cX4_refusal 34 = .ok (.bipush (-13), 2) := by decide +kernel
theorem dX4_refusal_36 : decode cX4_refusal 36 = .ok (.ireturn, 1) := by decide +kernel
theorem dX4_mark_0 : decode cX4_mark 0 = .ok (.aload_n 0, 1) := by decide +kernel
theorem dX4_mark_1 : decode cX4_mark 1 = .ok (.iload_n 1, 1) := by decide +kernel
theorem dX4_mark_2 : decode cX4_mark 2 = .ok (.putfield 36, 3) := by decide +kernel
theorem dX4_mark_5 : decode cX4_mark 5 = .ok (.aload_n 0, 1) := by decide +kernel
theorem dX4_mark_6 : decode cX4_mark 6 = .ok (.iload_n 2, 1) := by decide +kernel
theorem dX4_mark_7 : decode cX4_mark 7 = .ok (.putfield 39, 3) := by decide +kernel
theorem dX4_mark_10 : decode cX4_mark 10 = .ok (.return_, 1) := by decide +kernel
theorem dX4_write_0 : decode cX4_write 0 = .ok (.aload_n 0, 1) := by decide +kernel
theorem dX4_write_1 : decode cX4_write 1 = .ok (.getfield 15, 3) := by decide +kernel
theorem dX4_write_4 : decode cX4_write 4 = .ok (.tableswitch 66 0 2 #[28, 41, 54], 28) := by decide +kernel
theorem dX4_write_32 : decode cX4_write 32 = .ok (.aload_n 0, 1) := by decide +kernel
theorem dX4_write_33 : decode cX4_write 33 = .ok (.getfield 9, 3) := by decide +kernel
theorem dX4_write_36 : decode cX4_write 36 = .ok (.iload_n 1, 1) := by decide +kernel
theorem dX4_write_37 : decode cX4_write 37 = .ok (.lload_n 2, 1) := by decide +kernel
theorem dX4_write_38 : decode cX4_write 38 = .ok (.l2i, 1) := by decide +kernel
theorem dX4_write_39 : decode cX4_write 39 = .ok (.i2b, 1) := by decide +kernel
theorem dX4_write_40 : decode cX4_write 40 = .ok (.i2l, 1) := by decide +kernel
theorem dX4_write_41 : decode cX4_write 41 = .ok (.lastore, 1) := by decide +kernel
theorem dX4_write_42 : decode cX4_write 42 = .ok (.goto 35, 3) := by decide +kernel
theorem dX4_write_45 : decode cX4_write 45 = .ok (.aload_n 0, 1) := by decide +kernel
theorem dX4_write_46 : decode cX4_write 46 = .ok (.getfield 9, 3) := by decide +kernel
theorem dX4_write_49 : decode cX4_write 49 = .ok (.iload_n 1, 1) := by decide +kernel
theorem dX4_write_50 : decode cX4_write 50 = .ok (.lload_n 2, 1) := by decide +kernel
theorem dX4_write_51 : decode cX4_write 51 = .ok (.l2i, 1) := by decide +kernel
theorem dX4_write_52 : decode cX4_write 52 = .ok (.i2s, 1) := by decide +kernel
theorem dX4_write_53 : decode cX4_write 53 = .ok (.i2l, 1) := by decide +kernel
theorem dX4_write_54 : decode cX4_write 54 = .ok (.lastore, 1) := by decide +kernel
theorem dX4_write_55 : decode cX4_write 55 = .ok (.goto 22, 3) := by decide +kernel
theorem dX4_write_58 : decode cX4_write 58 = .ok (.aload_n 0, 1) := by decide +kernel
theorem dX4_write_59 : decode cX4_write 59 = .ok (.getfield 9, 3) := by decide +kernel
theorem dX4_write_62 : decode cX4_write 62 = .ok (.iload_n 1, 1) := by decide +kernel
theorem dX4_write_63 : decode cX4_write 63 = .ok (.lload_n 2, 1) := by decide +kernel
theorem dX4_write_64 : decode cX4_write 64 = .ok (.l2i, 1) := by decide +kernel
theorem dX4_write_65 : decode cX4_write 65 = .ok (.i2l, 1) := by decide +kernel
theorem dX4_write_66 : decode cX4_write 66 = .ok (.lastore, 1) := by decide +kernel
theorem dX4_write_67 : decode cX4_write 67 = .ok (.goto 10, 3) := by decide +kernel
theorem dX4_write_70 : decode cX4_write 70 = .ok (.aload_n 0, 1) := by decide +kernel
theorem dX4_write_71 : decode cX4_write 71 = .ok (.getfield 9, 3) := by decide +kernel
theorem dX4_write_74 : decode cX4_write 74 = .ok (.iload_n 1, 1) := by decide +kernel
theorem dX4_write_75 : decode cX4_write 75 = .ok (.lload_n 2, 1) := by decide +kernel
theorem dX4_write_76 : decode cX4_write 76 = .ok (.lastore, 1) := by decide +kernel
theorem dX4_write_77 : decode cX4_write 77 = .ok (.return_, 1) := by decide +kernel
theorem dX5_init_0 : decode cX5_init 0 = .ok (.aload_n 0, 1) := by decide +kernel
theorem dX5_init_1 : decode cX5_init 1 = .ok (.invokespecial 3, 3) := by decide +kernel
theorem dX5_init_4 : decode cX5_init 4 = .ok (.aload_n 0, 1) := by decide +kernel
theorem dX5_init_5 : decode cX5_init 5 = .ok (.bipush 7, 2) := by decide +kernel
theorem dX5_init_7 : decode cX5_init 7 = .ok (.newarray .int, 2) := by decide +kernel
theorem dX5_init_9 : decode cX5_init 9 = .ok (.putfield 9, 3) := by decide +kernel
theorem dX5_init_12 : decode cX5_init 12 = .ok (.return_, 1) := by decide +kernel
theorem dX5_weigh_0 : decode cX5_weigh 0 = .ok (.aload_n 0, 1) := by decide +kernel
theorem dX5_weigh_1 : decode cX5_weigh 1 = .ok (.aload_n 1, 1) := by decide +kernel
theorem dX5_weigh_2 : decode cX5_weigh 2 = .ok (.invokevirtual 15, 3) := by decide +kernel
theorem dX5_weigh_5 : decode cX5_weigh 5 = .ok (.aload_n 0, 1) := by decide +kernel
theorem dX5_weigh_6 : decode cX5_weigh 6 = .ok (.iload_n 3, 1) := by decide +kernel
theorem dX5_weigh_7 : decode cX5_weigh 7 = .ok (.invokevirtual 19, 3) := by decide +kernel
theorem dX5_weigh_10 : decode cX5_weigh 10 = .ok (.aload_n 0, 1) := by decide +kernel
theorem dX5_weigh_11 : decode cX5_weigh 11 = .ok (.iconst 0, 1) := by decide +kernel
theorem dX5_weigh_12 : decode cX5_weigh 12 = .ok (.putfield 23, 3) := by decide +kernel
theorem dX5_weigh_15 : decode cX5_weigh 15 = .ok (.iconst 0, 1) := by decide +kernel
theorem dX5_weigh_16 : decode cX5_weigh 16 = .ok (.istore 4, 2) := by decide +kernel
theorem dX5_weigh_18 : decode cX5_weigh 18 = .ok (.iload 4, 2) := by decide +kernel
theorem dX5_weigh_20 : decode cX5_weigh 20 = .ok (.aload_n 0, 1) := by decide +kernel
theorem dX5_weigh_21 : decode cX5_weigh 21 = .ok (.getfield 27, 3) := by decide +kernel
theorem dX5_weigh_24 : decode cX5_weigh 24 = .ok (.if_icmp .gt 36, 3) := by decide +kernel
theorem dX5_weigh_27 : decode cX5_weigh 27 = .ok (.aload_n 0, 1) := by decide +kernel
theorem dX5_weigh_28 : decode cX5_weigh 28 = .ok (.getfield 30, 3) := by decide +kernel
theorem dX5_weigh_31 : decode cX5_weigh 31 = .ok (.iload 4, 2) := by decide +kernel
theorem dX5_weigh_33 : decode cX5_weigh 33 = .ok (.iadd, 1) := by decide +kernel
theorem dX5_weigh_34 : decode cX5_weigh 34 = .ok (.iload_n 2, 1) := by decide +kernel
theorem dX5_weigh_35 : decode cX5_weigh 35 = .ok (.if_icmp .lt 19, 3) := by decide +kernel
theorem dX5_weigh_38 : decode cX5_weigh 38 = .ok (.aload_n 0, 1) := by decide +kernel
theorem dX5_weigh_39 : decode cX5_weigh 39 = .ok (.dup, 1) := by decide +kernel
theorem dX5_weigh_40 : decode cX5_weigh 40 = .ok (.getfield 23, 3) := by decide +kernel
theorem dX5_weigh_43 : decode cX5_weigh 43 = .ok (.aload_n 0, 1) := by decide +kernel
theorem dX5_weigh_44 : decode cX5_weigh 44 = .ok (.getfield 9, 3) := by decide +kernel
theorem dX5_weigh_47 : decode cX5_weigh 47 = .ok (.iload 4, 2) := by decide +kernel
theorem dX5_weigh_49 : decode cX5_weigh 49 = .ok (.iaload, 1) := by decide +kernel
theorem dX5_weigh_50 : decode cX5_weigh 50 = .ok (.iadd, 1) := by decide +kernel
theorem dX5_weigh_51 : decode cX5_weigh 51 = .ok (.putfield 23, 3) := by decide +kernel
theorem dX5_weigh_54 : decode cX5_weigh 54 = .ok (.iinc 4 1, 3) := by decide +kernel
theorem dX5_weigh_57 : decode cX5_weigh 57 = .ok (.goto (-39), 3) := by decide +kernel
theorem dX5_weigh_60 : decode cX5_weigh 60 = .ok (.aload_n 0, 1) := by decide +kernel
theorem dX5_weigh_61 : decode cX5_weigh 61 = .ok (.invokevirtual 33, 3) := by decide +kernel
theorem dX5_weigh_64 : decode cX5_weigh 64 = .ok (.return_, 1) := by decide +kernel
theorem dX5_sortMen_0 : decode cX5_sortMen 0 = .ok (.aload_n 0, 1) := by decide +kernel
theorem dX5_sortMen_1 : decode cX5_sortMen 1 = .ok (.iconst 0, 1) := by decide +kernel
theorem dX5_sortMen_2 : decode cX5_sortMen 2 = .ok (.putfield 30, 3) := by decide +kernel
theorem dX5_sortMen_5 : decode cX5_sortMen 5 = .ok (.aload_n 0, 1) := by decide +kernel
theorem dX5_sortMen_6 : decode cX5_sortMen 6 = .ok (.iconst 0, 1) := by decide +kernel
theorem dX5_sortMen_7 : decode cX5_sortMen 7 = .ok (.putfield 27, 3) := by decide +kernel
theorem dX5_sortMen_10 : decode cX5_sortMen 10 = .ok (.aload_n 1, 1) := by decide +kernel
theorem dX5_sortMen_11 : decode cX5_sortMen 11 = .ok (.invokevirtual 36, 3) := by decide +kernel
theorem dX5_sortMen_14 : decode cX5_sortMen 14 = .ok (.istore_n 2, 1) := by decide +kernel
theorem dX5_sortMen_15 : decode cX5_sortMen 15 = .ok (.aload_n 1, 1) := by decide +kernel
theorem dX5_sortMen_16 : decode cX5_sortMen 16 = .ok (.iconst 0, 1) := by decide +kernel
theorem dX5_sortMen_17 : decode cX5_sortMen 17 = .ok (.invokevirtual 42, 3) := by decide +kernel
theorem dX5_sortMen_20 : decode cX5_sortMen 20 = .ok (.istore_n 3, 1) := by decide +kernel
theorem dX5_sortMen_21 : decode cX5_sortMen 21 = .ok (.iconst 0, 1) := by decide +kernel
theorem dX5_sortMen_22 : decode cX5_sortMen 22 = .ok (.istore 4, 2) := by decide +kernel
theorem dX5_sortMen_24 : decode cX5_sortMen 24 = .ok (.iload 4, 2) := by decide +kernel
theorem dX5_sortMen_26 : decode cX5_sortMen 26 = .ok (.aload_n 1, 1) := by decide +kernel
theorem dX5_sortMen_27 : decode cX5_sortMen 27 = .ok (.getfield 46, 3) := by decide +kernel
theorem dX5_sortMen_30 : decode cX5_sortMen 30 = .ok (.if_icmp .ge 72, 3) := by decide +kernel
theorem dX5_sortMen_33 : decode cX5_sortMen 33 = .ok (.aload_n 1, 1) := by decide +kernel
theorem dX5_sortMen_34 : decode cX5_sortMen 34 = .ok (.iload 4, 2) := by decide +kernel
theorem dX5_sortMen_36 : decode cX5_sortMen 36 = .ok (.invokevirtual 49, 3) := by decide +kernel
theorem dX5_sortMen_39 : decode cX5_sortMen 39 = .ok (.ifCond .eq 57, 3) := by decide +kernel
theorem dX5_sortMen_42 : decode cX5_sortMen 42 = .ok (.aload_n 1, 1) := by decide +kernel
theorem dX5_sortMen_43 : decode cX5_sortMen 43 = .ok (.aload_n 1, 1) := by decide +kernel
theorem dX5_sortMen_44 : decode cX5_sortMen 44 = .ok (.getfield 53, 3) := by decide +kernel
theorem dX5_sortMen_47 : decode cX5_sortMen 47 = .ok (.iload 4, 2) := by decide +kernel
theorem dX5_sortMen_49 : decode cX5_sortMen 49 = .ok (.iaload, 1) := by decide +kernel
theorem dX5_sortMen_50 : decode cX5_sortMen 50 = .ok (.iload_n 3, 1) := by decide +kernel
theorem dX5_sortMen_51 : decode cX5_sortMen 51 = .ok (.invokevirtual 56, 3) := by decide +kernel
theorem dX5_sortMen_54 : decode cX5_sortMen 54 = .ok (.istore 5, 2) := by decide +kernel
theorem dX5_sortMen_56 : decode cX5_sortMen 56 = .ok (.iload 5, 2) := by decide +kernel
theorem dX5_sortMen_58 : decode cX5_sortMen 58 = .ok (.ifCond .ne 16, 3) := by decide +kernel
theorem dX5_sortMen_61 : decode cX5_sortMen 61 = .ok (.aload_n 0, 1) := by decide +kernel
theorem dX5_sortMen_62 : decode cX5_sortMen 62 = .ok (.dup, 1) := by decide +kernel
theorem dX5_sortMen_63 : decode cX5_sortMen 63 = .ok (.getfield 30, 3) := by decide +kernel
theorem dX5_sortMen_66 : decode cX5_sortMen 66 = .ok (.iconst 1, 1) := by decide +kernel
theorem dX5_sortMen_67 : decode cX5_sortMen 67 = .ok (.iadd, 1) := by decide +kernel
theorem dX5_sortMen_68 : decode cX5_sortMen 68 = .ok (.putfield 30, 3) := by decide +kernel
theorem dX5_sortMen_71 : decode cX5_sortMen 71 = .ok (.goto 25, 3) := by decide +kernel
theorem dX5_sortMen_74 : decode cX5_sortMen 74 = .ok (.aload_n 1, 1) := by decide +kernel
theorem dX5_sortMen_75 : decode cX5_sortMen 75 = .ok (.iload 4, 2) := by decide +kernel
theorem dX5_sortMen_77 : decode cX5_sortMen 77 = .ok (.iload_n 2, 1) := by decide +kernel
theorem dX5_sortMen_78 : decode cX5_sortMen 78 = .ok (.invokevirtual 60, 3) := by decide +kernel
theorem dX5_sortMen_81 : decode cX5_sortMen 81 = .ok (.iload 5, 2) := by decide +kernel
theorem dX5_sortMen_83 : decode cX5_sortMen 83 = .ok (.if_icmp .lt 13, 3) := by decide +kernel
theorem dX5_sortMen_86 : decode cX5_sortMen 86 = .ok (.aload_n 0, 1) := by decide +kernel
theorem dX5_sortMen_87 : decode cX5_sortMen 87 = .ok (.dup, 1) := by decide +kernel
theorem dX5_sortMen_88 : decode cX5_sortMen 88 = .ok (.getfield 27, 3) := by decide +kernel
theorem dX5_sortMen_91 : decode cX5_sortMen 91 = .ok (.iconst 1, 1) := by decide +kernel
theorem dX5_sortMen_92 : decode cX5_sortMen 92 = .ok (.iadd, 1) := by decide +kernel
theorem dX5_sortMen_93 : decode cX5_sortMen 93 = .ok (.putfield 27, 3) := by decide +kernel
theorem dX5_sortMen_96 : decode cX5_sortMen 96 = .ok (.iinc 4 1, 3) := by decide +kernel
theorem dX5_sortMen_99 : decode cX5_sortMen 99 = .ok (.goto (-75), 3) := by decide +kernel
theorem dX5_sortMen_102 : decode cX5_sortMen 102 = .ok (.return_, 1) := by decide +kernel
theorem dX5_weighShaky_0 : decode cX5_weighShaky 0 = .ok (.aload_n 0, 1) := by decide +kernel
theorem dX5_weighShaky_1 : decode cX5_weighShaky 1 = .ok (.getfield 9, 3) := by decide +kernel
theorem dX5_weighShaky_4 : decode cX5_weighShaky 4 = .ok (.iconst 0, 1) := by decide +kernel
theorem dX5_weighShaky_5 : decode cX5_weighShaky 5 = .ok (.invokestatic 63, 3) := by decide +kernel
theorem dX5_weighShaky_8 : decode cX5_weighShaky 8 = .ok (.aload_n 0, 1) := by decide +kernel
theorem dX5_weighShaky_9 : decode cX5_weighShaky 9 = .ok (.getfield 9, 3) := by decide +kernel
theorem dX5_weighShaky_12 : decode cX5_weighShaky 12 = .ok (.iconst 0, 1) := by decide +kernel
theorem dX5_weighShaky_13 : decode cX5_weighShaky 13 = .ok (.iconst 1, 1) := by decide +kernel
theorem dX5_weighShaky_14 : decode cX5_weighShaky 14 = .ok (.iastore, 1) := by decide +kernel
theorem dX5_weighShaky_15 : decode cX5_weighShaky 15 = .ok (.aload_n 0, 1) := by decide +kernel
theorem dX5_weighShaky_16 : decode cX5_weighShaky 16 = .ok (.iconst 1, 1) := by decide +kernel
theorem dX5_weighShaky_17 : decode cX5_weighShaky 17 = .ok (.putfield 69, 3) := by decide +kernel
theorem dX5_weighShaky_20 : decode cX5_weighShaky 20 = .ok (.iconst 1, 1) := by decide +kernel
theorem dX5_weighShaky_21 : decode cX5_weighShaky 21 = .ok (.istore_n 2, 1) := by decide +kernel
theorem dX5_weighShaky_22 : decode cX5_weighShaky 22 = .ok (.iload_n 2, 1) := by decide +kernel
theorem dX5_weighShaky_23 : decode cX5_weighShaky 23 = .ok (.aload_n 0, 1) := by decide +kernel
theorem dX5_weighShaky_24 : decode cX5_weighShaky 24 = .ok (.getfield 27, 3) := by decide +kernel
theorem dX5_weighShaky_27 : decode cX5_weighShaky 27 = .ok (.if_icmp .gt 70, 3) := by decide +kernel
theorem dX5_weighShaky_30 : decode cX5_weighShaky 30 = .ok (.iload_n 2, 1) := by decide +kernel
theorem dX5_weighShaky_31 : decode cX5_weighShaky 31 = .ok (.istore_n 3, 1) := by decide +kernel
theorem dX5_weighShaky_32 : decode cX5_weighShaky 32 = .ok (.iload_n 3, 1) := by decide +kernel
theorem dX5_weighShaky_33 : decode cX5_weighShaky 33 = .ok (.ifCond .le 37, 3) := by decide +kernel
theorem dX5_weighShaky_36 : decode cX5_weighShaky 36 = .ok (.aload_n 0, 1) := by decide +kernel
theorem dX5_weighShaky_37 : decode cX5_weighShaky 37 = .ok (.getfield 9, 3) := by decide +kernel
theorem dX5_weighShaky_40 : decode cX5_weighShaky 40 = .ok (.iload_n 3, 1) := by decide +kernel
theorem dX5_weighShaky_41 : decode cX5_weighShaky 41 = .ok (.aload_n 0, 1) := by decide +kernel
theorem dX5_weighShaky_42 : decode cX5_weighShaky 42 = .ok (.getfield 9, 3) := by decide +kernel
theorem dX5_weighShaky_45 : decode cX5_weighShaky 45 = .ok (.iload_n 3, 1) := by decide +kernel
theorem dX5_weighShaky_46 : decode cX5_weighShaky 46 = .ok (.iaload, 1) := by decide +kernel
theorem dX5_weighShaky_47 : decode cX5_weighShaky 47 = .ok (.iload_n 1, 1) := by decide +kernel
theorem dX5_weighShaky_48 : decode cX5_weighShaky 48 = .ok (.imul, 1) := by decide +kernel
theorem dX5_weighShaky_49 : decode cX5_weighShaky 49 = .ok (.aload_n 0, 1) := by decide +kernel
theorem dX5_weighShaky_50 : decode cX5_weighShaky 50 = .ok (.getfield 9, 3) := by decide +kernel
theorem dX5_weighShaky_53 : decode cX5_weighShaky 53 = .ok (.iload_n 3, 1) := by decide +kernel
theorem dX5_weighShaky_54 : decode cX5_weighShaky 54 = .ok (.iconst 1, 1) := by decide +kernel
theorem dX5_weighShaky_55 : decode cX5_weighShaky 55 = .ok (.isub, 1) := by decide +kernel
theorem dX5_weighShaky_56 : decode cX5_weighShaky 56 = .ok (.iaload, 1) := by decide +kernel
theorem dX5_weighShaky_57 : decode cX5_weighShaky 57 = .ok (.bipush 10, 2) := by decide +kernel
theorem dX5_weighShaky_59 : decode cX5_weighShaky 59 = .ok (.iload_n 1, 1) := by decide +kernel
theorem dX5_weighShaky_60 : decode cX5_weighShaky 60 = .ok (.isub, 1) := by decide +kernel
theorem dX5_weighShaky_61 : decode cX5_weighShaky 61 = .ok (.imul, 1) := by decide +kernel
theorem dX5_weighShaky_62 : decode cX5_weighShaky 62 = .ok (.iadd, 1) := by decide +kernel
theorem dX5_weighShaky_63 : decode cX5_weighShaky 63 = .ok (.iastore, 1) := by decide +kernel
theorem dX5_weighShaky_64 : decode cX5_weighShaky 64 = .ok (.iinc 3 (-1), 3) := by decide +kernel
theorem dX5_weighShaky_67 : decode cX5_weighShaky 67 = .ok (.goto (-35), 3) := by decide +kernel
theorem dX5_weighShaky_70 : decode cX5_weighShaky 70 = .ok (.aload_n 0, 1) := by decide +kernel
theorem dX5_weighShaky_71 : decode cX5_weighShaky 71 = .ok (.getfield 9, 3) := by decide +kernel
theorem dX5_weighShaky_74 : decode cX5_weighShaky 74 = .ok (.iconst 0, 1) := by decide +kernel
theorem dX5_weighShaky_75 : decode cX5_weighShaky 75 = .ok (.dup2, 1) := by decide +kernel
theorem dX5_weighShaky_76 : decode cX5_weighShaky 76 = .ok (.iaload, 1) := by decide +kernel
theorem dX5_weighShaky_77 : decode cX5_weighShaky 77 = .ok (.iload_n 1, 1) := by decide +kernel
theorem dX5_weighShaky_78 : decode cX5_weighShaky 78 = .ok (.imul, 1) := by decide +kernel
theorem dX5_weighShaky_79 : decode cX5_weighShaky 79 = .ok (.iastore, 1) := by decide +kernel
theorem dX5_weighShaky_80 : decode cX5_weighShaky 80 = .ok (.aload_n 0, 1) := by decide +kernel
theorem dX5_weighShaky_81 : decode cX5_weighShaky 81 = .ok (.dup, 1) := by decide +kernel
theorem dX5_weighShaky_82 : decode cX5_weighShaky 82 = .ok (.getfield 69, 3) := by decide +kernel
theorem dX5_weighShaky_85 : decode cX5_weighShaky 85 = .ok (.bipush 10, 2) := by decide +kernel
theorem dX5_weighShaky_87 : decode cX5_weighShaky 87 = .ok (.imul, 1) := by decide +kernel
theorem dX5_weighShaky_88 : decode cX5_weighShaky 88 = .ok (.putfield 69, 3) := by decide +kernel
theorem dX5_weighShaky_91 : decode cX5_weighShaky 91 = .ok (.iinc 2 1, 3) := by decide +kernel
theorem dX5_weighShaky_94 : decode cX5_weighShaky 94 = .ok (.goto (-72), 3) := by decide +kernel
theorem dX5_weighShaky_97 : decode cX5_weighShaky 97 = .ok (.return_, 1) := by decide +kernel
theorem dX5_reduce_0 : decode cX5_reduce 0 = .ok (.aload_n 0, 1) := by decide +kernel
theorem dX5_reduce_1 : decode cX5_reduce 1 = .ok (.getfield 69, 3) := by decide +kernel
theorem dX5_reduce_4 : decode cX5_reduce 4 = .ok (.istore_n 1, 1) := by decide +kernel
theorem dX5_reduce_5 : decode cX5_reduce 5 = .ok (.aload_n 0, 1) := by decide +kernel
theorem dX5_reduce_6 : decode cX5_reduce 6 = .ok (.getfield 23, 3) := by decide +kernel
theorem dX5_reduce_9 : decode cX5_reduce 9 = .ok (.istore_n 2, 1) := by decide +kernel
theorem dX5_reduce_10 : decode cX5_reduce 10 = .ok (.iconst 0, 1) := by decide +kernel
theorem dX5_reduce_11 : decode cX5_reduce 11 = .ok (.istore_n 3, 1) := by decide +kernel
theorem dX5_reduce_12 : decode cX5_reduce 12 = .ok (.iload_n 3, 1) := by decide +kernel
theorem dX5_reduce_13 : decode cX5_reduce 13 = .ok (.bipush 64, 2) := by decide +kernel
theorem dX5_reduce_15 : decode cX5_reduce 15 = .ok (.if_icmp .ge 23, 3) := by decide +kernel
theorem dX5_reduce_18 : decode cX5_reduce 18 = .ok (.iload_n 2, 1) := by decide +kernel
theorem dX5_reduce_19 : decode cX5_reduce 19 = .ok (.ifCond .eq 19, 3) := by decide +kernel
theorem dX5_reduce_22 : decode cX5_reduce 22 = .ok (.iload_n 1, 1) := by decide +kernel
theorem dX5_reduce_23 : decode cX5_reduce 23 = .ok (.iload_n 2, 1) := by decide +kernel
theorem dX5_reduce_24 : decode cX5_reduce 24 = .ok (.irem, 1) := by decide +kernel
theorem dX5_reduce_25 : decode cX5_reduce 25 = .ok (.istore 4, 2) := by decide +kernel
theorem dX5_reduce_27 : decode cX5_reduce 27 = .ok (.iload_n 2, 1) := by decide +kernel
theorem dX5_reduce_28 : decode cX5_reduce 28 = .ok (.istore_n 1, 1) := by decide +kernel
theorem dX5_reduce_29 : decode cX5_reduce 29 = .ok (.iload 4, 2) := by decide +kernel
theorem dX5_reduce_31 : decode cX5_reduce 31 = .ok (.istore_n 2, 1) := by decide +kernel
theorem dX5_reduce_32 : decode cX5_reduce 32 = .ok (.iinc 3 1, 3) := by decide +kernel
theorem dX5_reduce_35 : decode cX5_reduce 35 = .ok (.goto (-23), 3) := by decide +kernel
theorem dX5_reduce_38 : decode cX5_reduce 38 = .ok (.iload_n 1, 1) := by decide +kernel
theorem dX5_reduce_39 : decode cX5_reduce 39 = .ok (.iconst 1, 1) := by decide +kernel
theorem dX5_reduce_40 : decode cX5_reduce 40 = .ok (.if_icmp .le 23, 3) := by decide +kernel
theorem dX5_reduce_43 : decode cX5_reduce 43 = .ok (.aload_n 0, 1) := by decide +kernel
theorem dX5_reduce_44 : decode cX5_reduce 44 = .ok (.dup, 1) := by decide +kernel
theorem dX5_reduce_45 : decode cX5_reduce 45 = .ok (.getfield 23, 3) := by decide +kernel
theorem dX5_reduce_48 : decode cX5_reduce 48 = .ok (.iload_n 1, 1) := by decide +kernel
theorem dX5_reduce_49 : decode cX5_reduce 49 = .ok (.idiv, 1) := by decide +kernel
theorem dX5_reduce_50 : decode cX5_reduce 50 = .ok (.putfield 23, 3) := by decide +kernel
theorem dX5_reduce_53 : decode cX5_reduce 53 = .ok (.aload_n 0, 1) := by decide +kernel
theorem dX5_reduce_54 : decode cX5_reduce 54 = .ok (.dup, 1) := by decide +kernel
theorem dX5_reduce_55 : decode cX5_reduce 55 = .ok (.getfield 69, 3) := by decide +kernel
theorem dX5_reduce_58 : decode cX5_reduce 58 = .ok (.iload_n 1, 1) := by decide +kernel
theorem dX5_reduce_59 : decode cX5_reduce 59 = .ok (.idiv, 1) := by decide +kernel
theorem dX5_reduce_60 : decode cX5_reduce 60 = .ok (.putfield 69, 3) := by decide +kernel
theorem dX5_reduce_63 : decode cX5_reduce 63 = .ok (.return_, 1) := by decide +kernel
theorem dX6_init_0 : decode cX6_init 0 = .ok (.aload_n 0, 1) := by decide +kernel
theorem dX6_init_1 : decode cX6_init 1 = .ok (.invokespecial 3, 3) := by decide +kernel
theorem dX6_init_4 : decode cX6_init 4 = .ok (.aload_n 0, 1) := by decide +kernel
theorem dX6_init_5 : decode cX6_init 5 = .ok (.bipush 60, 2) := by decide +kernel
theorem dX6_init_7 : decode cX6_init 7 = .ok (.newarray .char, 2) := by decide +kernel
theorem dX6_init_9 : decode cX6_init 9 = .ok (.putfield 9, 3) := by decide +kernel
theorem dX6_init_12 : decode cX6_init 12 = .ok (.aload_n 0, 1) := by decide +kernel
theorem dX6_init_13 : decode cX6_init 13 = .ok (.new 15, 3) := by decide +kernel
theorem dX6_init_16 : decode cX6_init 16 = .ok (.dup, 1) := by decide +kernel
theorem dX6_init_17 : decode cX6_init 17 = .ok (.invokespecial 17, 3) := by decide +kernel
theorem dX6_init_20 : decode cX6_init 20 = .ok (.putfield 18, 3) := by decide +kernel
theorem dX6_init_23 : decode cX6_init 23 = .ok (.return_, 1) := by decide +kernel
theorem dX6_append_0 : decode cX6_append 0 = .ok (.aload_n 0, 1) := by decide +kernel
theorem dX6_append_1 : decode cX6_append 1 = .ok (.getfield 9, 3) := by decide +kernel
theorem dX6_append_4 : decode cX6_append 4 = .ok (.aload_n 0, 1) := by decide +kernel
theorem dX6_append_5 : decode cX6_append 5 = .ok (.getfield 22, 3) := by decide +kernel
theorem dX6_append_8 : decode cX6_append 8 = .ok (.iload_n 1, 1) := by decide +kernel
theorem dX6_append_9 : decode cX6_append 9 = .ok (.castore, 1) := by decide +kernel
theorem dX6_append_10 : decode cX6_append 10 = .ok (.aload_n 0, 1) := by decide +kernel
theorem dX6_append_11 : decode cX6_append 11 = .ok (.dup, 1) := by decide +kernel
theorem dX6_append_12 : decode cX6_append 12 = .ok (.getfield 22, 3) := by decide +kernel
theorem dX6_append_15 : decode cX6_append 15 = .ok (.iconst 1, 1) := by decide +kernel
theorem dX6_append_16 : decode cX6_append 16 = .ok (.iadd, 1) := by decide +kernel
theorem dX6_append_17 : decode cX6_append 17 = .ok (.putfield 22, 3) := by decide +kernel
theorem dX6_append_20 : decode cX6_append 20 = .ok (.return_, 1) := by decide +kernel
theorem dX6_read_0 : decode cX6_read 0 = .ok (.aload_n 0, 1) := by decide +kernel
theorem dX6_read_1 : decode cX6_read 1 = .ok (.iconst 0, 1) := by decide +kernel
theorem dX6_read_2 : decode cX6_read 2 = .ok (.putfield 26, 3) := by decide +kernel
theorem dX6_read_5 : decode cX6_read 5 = .ok (.aload_n 0, 1) := by decide +kernel
theorem dX6_read_6 : decode cX6_read 6 = .ok (.iconst 0, 1) := by decide +kernel
theorem dX6_read_7 : decode cX6_read 7 = .ok (.putfield 29, 3) := by decide +kernel
theorem dX6_read_10 : decode cX6_read 10 = .ok (.aload_n 0, 1) := by decide +kernel
theorem dX6_read_11 : decode cX6_read 11 = .ok (.getfield 18, 3) := by decide +kernel
theorem dX6_read_14 : decode cX6_read 14 = .ok (.iconst 0, 1) := by decide +kernel
theorem dX6_read_15 : decode cX6_read 15 = .ok (.putfield 33, 3) := by decide +kernel
theorem dX6_read_18 : decode cX6_read 18 = .ok (.aload_n 0, 1) := by decide +kernel
theorem dX6_read_19 : decode cX6_read 19 = .ok (.getfield 18, 3) := by decide +kernel
theorem dX6_read_22 : decode cX6_read 22 = .ok (.aload_n 0, 1) := by decide +kernel
theorem dX6_read_23 : decode cX6_read 23 = .ok (.bipush 11, 2) := by decide +kernel
theorem dX6_read_25 : decode cX6_read 25 = .ok (.iconst 0, 1) := by decide +kernel
theorem dX6_read_26 : decode cX6_read 26 = .ok (.invokevirtual 36, 3) := by decide +kernel
theorem dX6_read_29 : decode cX6_read 29 = .ok (.putfield 40, 3) := by decide +kernel
theorem dX6_read_32 : decode cX6_read 32 = .ok (.aload_n 0, 1) := by decide +kernel
theorem dX6_read_33 : decode cX6_read 33 = .ok (.bipush 43, 2) := by decide +kernel
theorem dX6_read_35 : decode cX6_read 35 = .ok (.invokevirtual 43, 3) := by decide +kernel
theorem dX6_read_38 : decode cX6_read 38 = .ok (.aload_n 0, 1) := by decide +kernel
theorem dX6_read_39 : decode cX6_read 39 = .ok (.getfield 18, 3) := by decide +kernel
theorem dX6_read_42 : decode cX6_read 42 = .ok (.aload_n 0, 1) := by decide +kernel
theorem dX6_read_43 : decode cX6_read 43 = .ok (.bipush 11, 2) := by decide +kernel
theorem dX6_read_45 : decode cX6_read 45 = .ok (.iconst 0, 1) := by decide +kernel
theorem dX6_read_46 : decode cX6_read 46 = .ok (.invokevirtual 36, 3) := by decide +kernel
theorem dX6_read_49 : decode cX6_read 49 = .ok (.putfield 47, 3) := by decide +kernel
theorem dX6_read_52 : decode cX6_read 52 = .ok (.aload_n 0, 1) := by decide +kernel
theorem dX6_read_53 : decode cX6_read 53 = .ok (.bipush 94, 2) := by decide +kernel
theorem dX6_read_55 : decode cX6_read 55 = .ok (.invokevirtual 43, 3) := by decide +kernel
theorem dX6_read_58 : decode cX6_read 58 = .ok (.aload_n 0, 1) := by decide +kernel
theorem dX6_read_59 : decode cX6_read 59 = .ok (.getfield 18, 3) := by decide +kernel
theorem dX6_read_62 : decode cX6_read 62 = .ok (.aload_n 0, 1) := by decide +kernel
theorem dX6_read_63 : decode cX6_read 63 = .ok (.bipush 12, 2) := by decide +kernel
theorem dX6_read_65 : decode cX6_read 65 = .ok (.iconst 0, 1) := by decide +kernel
theorem dX6_read_66 : decode cX6_read 66 = .ok (.invokevirtual 36, 3) := by decide +kernel
theorem dX6_read_69 : decode cX6_read 69 = .ok (.putfield 50, 3) := by decide +kernel
theorem dX6_read_72 : decode cX6_read 72 = .ok (.aload_n 0, 1) := by decide +kernel
theorem dX6_read_73 : decode cX6_read 73 = .ok (.invokevirtual 53, 3) := by decide +kernel
theorem dX6_read_76 : decode cX6_read 76 = .ok (.ifCond .ne 13, 3) := by decide +kernel
theorem dX6_read_79 : decode cX6_read 79 = .ok (.aload_n 0, 1) := by decide +kernel
theorem dX6_read_80 : decode cX6_read 80 = .ok (.bipush 59, 2) := by decide +kernel
theorem dX6_read_82 : decode cX6_read 82 = .ok (.invokevirtual 43, 3) := by decide +kernel
theorem dX6_read_85 : decode cX6_read 85 = .ok (.aload_n 0, 1) := by decide +kernel
theorem dX6_read_86 : decode cX6_read 86 = .ok (.invokevirtual 57, 3) := by decide +kernel
theorem dX6_read_89 : decode cX6_read 89 = .ok (.aload_n 0, 1) := by decide +kernel
theorem dX6_read_90 : decode cX6_read 90 = .ok (.iconst 0, 1) := by decide +kernel
theorem dX6_read_91 : decode cX6_read 91 = .ok (.putfield 22, 3) := by decide +kernel
theorem dX6_read_94 : decode cX6_read 94 = .ok (.aload_n 0, 1) := by decide +kernel
theorem dX6_read_95 : decode cX6_read 95 = .ok (.getfield 29, 3) := by decide +kernel
theorem dX6_read_98 : decode cX6_read 98 = .ok (.ifCond .eq 13, 3) := by decide +kernel
theorem dX6_read_101 : decode cX6_read 101 = .ok (.bipush (-20), 2) := by decide +kernel
theorem dX6_read_103 : decode cX6_read 103 = .ok (.aload_n 0, 1) := by decide +kernel
theorem dX6_read_104 : decode cX6_read 104 = .ok (.getfield 26, 3) := by decide +kernel
theorem dX6_read_107 : decode cX6_read 107 = .ok (.isub, 1) := by decide +kernel
theorem dX6_read_108 : decode cX6_read 108 = .ok (.goto 4, 3) := by decide +kernel
theorem dX6_read_111 : decode cX6_read 111 = .ok (.iconst 0, 1) := by decide +kernel
theorem dX6_read_112 : decode cX6_read 112 = .ok (.ireturn, 1) := by decide +kernel
theorem dX6_readMen_0 : decode cX6_readMen 0 = .ok (.aload_n 0, 1) := by decide +kernel
theorem dX6_readMen_1 : decode cX6_readMen 1 = .ok (.invokevirtual 60, 3) := by decide +kernel
theorem dX6_readMen_4 : decode cX6_readMen 4 = .ok (.iconst 1, 1) := by decide +kernel
theorem dX6_readMen_5 : decode cX6_readMen 5 = .ok (.istore_n 1, 1) := by decide +kernel
theorem dX6_readMen_6 : decode cX6_readMen 6 = .ok (.iload_n 1, 1) := by decide +kernel
theorem dX6_readMen_7 : decode cX6_readMen 7 = .ok (.bipush 6, 2) := by decide +kernel
theorem dX6_readMen_9 : decode cX6_readMen 9 = .ok (.if_icmp .ge 26, 3) := by decide +kernel
theorem dX6_readMen_12 : decode cX6_readMen 12 = .ok (.aload_n 0, 1) := by decide +kernel
theorem dX6_readMen_13 : decode cX6_readMen 13 = .ok (.invokevirtual 53, 3) := by decide +kernel
theorem dX6_readMen_16 : decode cX6_readMen 16 = .ok (.ifCond .ne 19, 3) := by decide +kernel
theorem dX6_readMen_19 : decode cX6_readMen 19 = .ok (.aload_n 0, 1) := by decide +kernel
theorem dX6_readMen_20 : decode cX6_readMen 20 = .ok (.bipush 44, 2) := by decide +kernel
theorem dX6_readMen_22 : decode cX6_readMen 22 = .ok (.invokevirtual 43, 3) := by decide +kernel
theorem dX6_readMen_25 : decode cX6_readMen 25 = .ok (.aload_n 0, 1) := by decide +kernel
theorem dX6_readMen_26 : decode cX6_readMen 26 = .ok (.invokevirtual 60, 3) := by decide +kernel
theorem dX6_readMen_29 : decode cX6_readMen 29 = .ok (.iinc 1 1, 3) := by decide +kernel
theorem dX6_readMen_32 : decode cX6_readMen 32 = .ok (.goto (-26), 3) := by decide +kernel
theorem dX6_readMen_35 : decode cX6_readMen 35 = .ok (.aload_n 0, 1) := by decide +kernel
theorem dX6_readMen_36 : decode cX6_readMen 36 = .ok (.invokevirtual 53, 3) := by decide +kernel
theorem dX6_readMen_39 : decode cX6_readMen 39 = .ok (.ifCond .ne 8, 3) := by decide +kernel
theorem dX6_readMen_42 : decode cX6_readMen 42 = .ok (.aload_n 0, 1) := by decide +kernel
theorem dX6_readMen_43 : decode cX6_readMen 43 = .ok (.iconst 1, 1) := by decide +kernel
theorem dX6_readMen_44 : decode cX6_readMen 44 = .ok (.putfield 29, 3) := by decide +kernel
theorem dX6_readMen_47 : decode cX6_readMen 47 = .ok (.return_, 1) := by decide +kernel
theorem dX6_readMan_0 : decode cX6_readMan 0 = .ok (.aload_n 0, 1) := by decide +kernel
theorem dX6_readMan_1 : decode cX6_readMan 1 = .ok (.invokevirtual 63, 3) := by decide +kernel
theorem dX6_readMan_4 : decode cX6_readMan 4 = .ok (.istore_n 1, 1) := by decide +kernel
theorem dX6_readMan_5 : decode cX6_readMan 5 = .ok (.aload_n 0, 1) := by decide +kernel
theorem dX6_readMan_6 : decode cX6_readMan 6 = .ok (.invokevirtual 67, 3) := by decide +kernel
theorem dX6_readMan_9 : decode cX6_readMan 9 = .ok (.istore_n 2, 1) := by decide +kernel
theorem dX6_readMan_10 : decode cX6_readMan 10 = .ok (.iconst (-1), 1) := by decide +kernel
theorem dX6_readMan_11 : decode cX6_readMan 11 = .ok (.istore_n 3, 1) := by decide +kernel
theorem dX6_readMan_12 : decode cX6_readMan 12 = .ok (.aload_n 0, 1) := by decide +kernel
theorem dX6_readMan_13 : decode cX6_readMan 13 = .ok (.bipush 64, 2) := by decide +kernel
theorem dX6_readMan_15 : decode cX6_readMan 15 = .ok (.invokevirtual 70, 3) := by decide +kernel
theorem dX6_readMan_18 : decode cX6_readMan 18 = .ok (.ifCond .eq 23, 3) := by decide +kernel
theorem dX6_readMan_21 : decode cX6_readMan 21 = .ok (.aload_n 0, 1) := by decide +kernel
theorem dX6_readMan_22 : decode cX6_readMan 22 = .ok (.bipush 64, 2) := by decide +kernel
theorem dX6_readMan_24 : decode cX6_readMan 24 = .ok (.invokevirtual 43, 3) := by decide +kernel
theorem dX6_readMan_27 : decode cX6_readMan 27 = .ok (.aload_n 0, 1) := by decide +kernel
theorem dX6_readMan_28 : decode cX6_readMan 28 = .ok (.bipush 11, 2) := by decide +kernel
theorem dX6_readMan_30 : decode cX6_readMan 30 = .ok (.aload_n 0, 1) := by decide +kernel
theorem dX6_readMan_31 : decode cX6_readMan 31 = .ok (.getfield 18, 3) := by decide +kernel
theorem dX6_readMan_34 : decode cX6_readMan 34 = .ok (.invokevirtual 74, 3) := by decide +kernel
theorem dX6_readMan_37 : decode cX6_readMan 37 = .ok (.invokevirtual 36, 3) := by decide +kernel
theorem dX6_readMan_40 : decode cX6_readMan 40 = .ok (.istore_n 3, 1) := by decide +kernel
theorem dX6_readMan_41 : decode cX6_readMan 41 = .ok (.aload_n 0, 1) := by decide +kernel
theorem dX6_readMan_42 : decode cX6_readMan 42 = .ok (.getfield 29, 3) := by decide +kernel
theorem dX6_readMan_45 : decode cX6_readMan 45 = .ok (.ifCond .ne 13, 3) := by decide +kernel
theorem dX6_readMan_48 : decode cX6_readMan 48 = .ok (.aload_n 0, 1) := by decide +kernel
theorem dX6_readMan_49 : decode cX6_readMan 49 = .ok (.getfield 18, 3) := by decide +kernel
theorem dX6_readMan_52 : decode cX6_readMan 52 = .ok (.iload_n 1, 1) := by decide +kernel
theorem dX6_readMan_53 : decode cX6_readMan 53 = .ok (.iload_n 2, 1) := by decide +kernel
theorem dX6_readMan_54 : decode cX6_readMan 54 = .ok (.iload_n 3, 1) := by decide +kernel
theorem dX6_readMan_55 : decode cX6_readMan 55 = .ok (.invokevirtual 77, 3) := by decide +kernel
theorem dX6_readMan_58 : decode cX6_readMan 58 = .ok (.return_, 1) := by decide +kernel
theorem dX6_readKind_0 : decode cX6_readKind 0 = .ok (.aload_n 0, 1) := by decide +kernel
theorem dX6_readKind_1 : decode cX6_readKind 1 = .ok (.invokevirtual 81, 3) := by decide +kernel
theorem dX6_readKind_4 : decode cX6_readKind 4 = .ok (.aload_n 0, 1) := by decide +kernel
theorem dX6_readKind_5 : decode cX6_readKind 5 = .ok (.invokevirtual 84, 3) := by decide +kernel
theorem dX6_readKind_8 : decode cX6_readKind 8 = .ok (.ifCond .eq 20, 3) := by decide +kernel
theorem dX6_readKind_11 : decode cX6_readKind 11 = .ok (.ldc 87, 2) := by decide +kernel
theorem dX6_readKind_13 : decode cX6_readKind 13 = .ok (.aload_n 0, 1) := by decide +kernel
theorem dX6_readKind_14 : decode cX6_readKind 14 = .ok (.getfield 9, 3) := by decide +kernel
theorem dX6_readKind_17 : decode cX6_readKind 17 = .ok (.aload_n 0, 1) := by decide +kernel
theorem dX6_readKind_18 : decode cX6_readKind 18 = .ok (.getfield 26, 3) := by decide +kernel
theorem dX6_readKind_21 : decode cX6_readKind 21 = .ok (.caload, 1) := by decide +kernel
theorem dX6_readKind_22 : decode cX6_readKind 22 = .ok (.invokevirtual 89, 3) := by decide +kernel
theorem dX6_readKind_25 : decode cX6_readKind 25 = .ok (.goto 4, 3) := by decide +kernel
theorem dX6_readKind_28 : decode cX6_readKind 28 = .ok (.iconst (-1), 1) := by decide +kernel
theorem dX6_readKind_29 : decode cX6_readKind 29 = .ok (.istore_n 1, 1) := by decide +kernel
theorem dX6_readKind_30 : decode cX6_readKind 30 = .ok (.iload_n 1, 1) := by decide +kernel
theorem dX6_readKind_31 : decode cX6_readKind 31 = .ok (.ifCond .ge 10, 3) := by decide +kernel
theorem dX6_readKind_34 : decode cX6_readKind 34 = .ok (.aload_n 0, 1) := by decide +kernel
theorem dX6_readKind_35 : decode cX6_readKind 35 = .ok (.iconst 1, 1) := by decide +kernel
theorem dX6_readKind_36 : decode cX6_readKind 36 = .ok (.putfield 29, 3) := by decide +kernel
theorem dX6_readKind_39 : decode cX6_readKind 39 = .ok (.iconst 0, 1) := by decide +kernel
theorem dX6_readKind_40 : decode cX6_readKind 40 = .ok (.ireturn, 1) := by decide +kernel
theorem dX6_readKind_41 : decode cX6_readKind 41 = .ok (.aload_n 0, 1) := by decide +kernel
theorem dX6_readKind_42 : decode cX6_readKind 42 = .ok (.dup, 1) := by decide +kernel
theorem dX6_readKind_43 : decode cX6_readKind 43 = .ok (.getfield 26, 3) := by decide +kernel
theorem dX6_readKind_46 : decode cX6_readKind 46 = .ok (.iconst 1, 1) := by decide +kernel
theorem dX6_readKind_47 : decode cX6_readKind 47 = .ok (.iadd, 1) := by decide +kernel
theorem dX6_readKind_48 : decode cX6_readKind 48 = .ok (.putfield 26, 3) := by decide +kernel
theorem dX6_readKind_51 : decode cX6_readKind 51 = .ok (.iload_n 1, 1) := by decide +kernel
theorem dX6_readKind_52 : decode cX6_readKind 52 = .ok (.ireturn, 1) := by decide +kernel
theorem dX6_readDigit_0 : decode cX6_readDigit 0 = .ok (.aload_n 0, 1) := by decide +kernel
theorem dX6_readDigit_1 : decode cX6_readDigit 1 = .ok (.invokevirtual 81, 3) := by decide +kernel
theorem dX6_readDigit_4 : decode cX6_readDigit 4 = .ok (.aload_n 0, 1) := by decide +kernel
theorem dX6_readDigit_5 : decode cX6_readDigit 5 = .ok (.invokevirtual 95, 3) := by decide +kernel
theorem dX6_readDigit_8 : decode cX6_readDigit 8 = .ok (.ifCond .ne 10, 3) := by decide +kernel
theorem dX6_readDigit_11 : decode cX6_readDigit 11 = .ok (.aload_n 0, 1) := by decide +kernel
theorem dX6_readDigit_12 : decode cX6_readDigit 12 = .ok (.iconst 1, 1) := by decide +kernel
theorem dX6_readDigit_13 : decode cX6_readDigit 13 = .ok (.putfield 29, 3) := by decide +kernel
theorem dX6_readDigit_16 : decode cX6_readDigit 16 = .ok (.iconst 0, 1) := by decide +kernel
theorem dX6_readDigit_17 : decode cX6_readDigit 17 = .ok (.ireturn, 1) := by decide +kernel
theorem dX6_readDigit_18 : decode cX6_readDigit 18 = .ok (.aload_n 0, 1) := by decide +kernel
theorem dX6_readDigit_19 : decode cX6_readDigit 19 = .ok (.getfield 9, 3) := by decide +kernel
theorem dX6_readDigit_22 : decode cX6_readDigit 22 = .ok (.aload_n 0, 1) := by decide +kernel
theorem dX6_readDigit_23 : decode cX6_readDigit 23 = .ok (.getfield 26, 3) := by decide +kernel
theorem dX6_readDigit_26 : decode cX6_readDigit 26 = .ok (.caload, 1) := by decide +kernel
theorem dX6_readDigit_27 : decode cX6_readDigit 27 = .ok (.bipush 48, 2) := by decide +kernel
theorem dX6_readDigit_29 : decode cX6_readDigit 29 = .ok (.isub, 1) := by decide +kernel
theorem dX6_readDigit_30 : decode cX6_readDigit 30 = .ok (.istore_n 1, 1) := by decide +kernel
theorem dX6_readDigit_31 : decode cX6_readDigit 31 = .ok (.aload_n 0, 1) := by decide +kernel
theorem dX6_readDigit_32 : decode cX6_readDigit 32 = .ok (.dup, 1) := by decide +kernel
theorem dX6_readDigit_33 : decode cX6_readDigit 33 = .ok (.getfield 26, 3) := by decide +kernel
theorem dX6_readDigit_36 : decode cX6_readDigit 36 = .ok (.iconst 1, 1) := by decide +kernel
theorem dX6_readDigit_37 : decode cX6_readDigit 37 = .ok (.iadd, 1) := by decide +kernel
theorem dX6_readDigit_38 : decode cX6_readDigit 38 = .ok (.putfield 26, 3) := by decide +kernel
theorem dX6_readDigit_41 : decode cX6_readDigit 41 = .ok (.iload_n 1, 1) := by decide +kernel
theorem dX6_readDigit_42 : decode cX6_readDigit 42 = .ok (.ireturn, 1) := by decide +kernel
theorem dX6_readNumber_0 : decode cX6_readNumber 0 = .ok (.aload_n 0, 1) := by decide +kernel
theorem dX6_readNumber_1 : decode cX6_readNumber 1 = .ok (.invokevirtual 81, 3) := by decide +kernel
theorem dX6_readNumber_4 : decode cX6_readNumber 4 = .ok (.aload_n 0, 1) := by decide +kernel
theorem dX6_readNumber_5 : decode cX6_readNumber 5 = .ok (.getfield 26, 3) := by decide +kernel
theorem dX6_readNumber_8 : decode cX6_readNumber 8 = .ok (.istore_n 3, 1) := by decide +kernel
theorem dX6_readNumber_9 : decode cX6_readNumber 9 = .ok (.aload_n 0, 1) := by decide +kernel
theorem dX6_readNumber_10 : decode cX6_readNumber 10 = .ok (.invokevirtual 67, 3) := by decide +kernel
theorem dX6_readNumber_13 : decode cX6_readNumber 13 = .ok (.istore 4, 2) := by decide +kernel
theorem dX6_readNumber_15 : decode cX6_readNumber 15 = .ok (.aload_n 0, 1) := by decide +kernel
theorem dX6_readNumber_16 : decode cX6_readNumber 16 = .ok (.invokevirtual 95, 3) := by decide +kernel
theorem dX6_readNumber_19 : decode cX6_readNumber 19 = .ok (.ifCond .eq 15, 3) := by decide +kernel
theorem dX6_readNumber_22 : decode cX6_readNumber 22 = .ok (.bipush 10, 2) := by decide +kernel
theorem dX6_readNumber_24 : decode cX6_readNumber 24 = .ok (.iload 4, 2) := by decide +kernel
theorem dX6_readNumber_26 : decode cX6_readNumber 26 = .ok (.imul, 1) := by decide +kernel
theorem dX6_readNumber_27 : decode cX6_readNumber 27 = .ok (.aload_n 0, 1) := by decide +kernel
theorem dX6_readNumber_28 : decode cX6_readNumber 28 = .ok (.invokevirtual 67, 3) := by decide +kernel
theorem dX6_readNumber_31 : decode cX6_readNumber 31 = .ok (.iadd, 1) := by decide +kernel
theorem dX6_readNumber_32 : decode cX6_readNumber 32 = .ok (.istore 4, 2) := by decide +kernel
theorem dX6_readNumber_34 : decode cX6_readNumber 34 = .ok (.aload_n 0, 1) := by decide +kernel
theorem dX6_readNumber_35 : decode cX6_readNumber 35 = .ok (.getfield 29, 3) := by decide +kernel
theorem dX6_readNumber_38 : decode cX6_readNumber 38 = .ok (.ifCond .ne 28, 3) := by decide +kernel
theorem dX6_readNumber_41 : decode cX6_readNumber 41 = .ok (.iload 4, 2) := by decide +kernel
theorem dX6_readNumber_43 : decode cX6_readNumber 43 = .ok (.iload_n 1, 1) := by decide +kernel
theorem dX6_readNumber_44 : decode cX6_readNumber 44 = .ok (.if_icmp .gt 12, 3) := by decide +kernel
theorem dX6_readNumber_47 : decode cX6_readNumber 47 = .ok (.iload_n 2, 1) := by decide +kernel
theorem dX6_readNumber_48 : decode cX6_readNumber 48 = .ok (.iload 4, 2) := by decide +kernel
theorem dX6_readNumber_50 : decode cX6_readNumber 50 = .ok (.ishr, 1) := by decide +kernel
theorem dX6_readNumber_51 : decode cX6_readNumber 51 = .ok (.iconst 1, 1) := by decide +kernel
theorem dX6_readNumber_52 : decode cX6_readNumber 52 = .ok (.iand, 1) := by decide +kernel
theorem dX6_readNumber_53 : decode cX6_readNumber 53 = .ok (.ifCond .eq 13, 3) := by decide +kernel
theorem dX6_readNumber_56 : decode cX6_readNumber 56 = .ok (.aload_n 0, 1) := by decide +kernel
theorem dX6_readNumber_57 : decode cX6_readNumber 57 = .ok (.iconst 1, 1) := by decide +kernel
theorem dX6_readNumber_58 : decode cX6_readNumber 58 = .ok (.putfield 29, 3) := by decide +kernel
theorem dX6_readNumber_61 : decode cX6_readNumber 61 = .ok (.aload_n 0, 1) := by decide +kernel
theorem dX6_readNumber_62 : decode cX6_readNumber 62 = .ok (.iload_n 3, 1) := by decide +kernel
theorem dX6_readNumber_63 : decode cX6_readNumber 63 = .ok (.putfield 26, 3) := by decide +kernel
theorem dX6_readNumber_66 : decode cX6_readNumber 66 = .ok (.iload 4, 2) := by decide +kernel
theorem dX6_readNumber_68 : decode cX6_readNumber 68 = .ok (.ireturn, 1) := by decide +kernel
theorem dX6_readSign_0 : decode cX6_readSign 0 = .ok (.aload_n 0, 1) := by decide +kernel
theorem dX6_readSign_1 : decode cX6_readSign 1 = .ok (.iload_n 1, 1) := by decide +kernel
theorem dX6_readSign_2 : decode cX6_readSign 2 = .ok (.invokevirtual 70, 3) := by decide +kernel
theorem dX6_readSign_5 : decode cX6_readSign 5 = .ok (.ifCond .eq 16, 3) := by decide +kernel
theorem dX6_readSign_8 : decode cX6_readSign 8 = .ok (.aload_n 0, 1) := by decide +kernel
theorem dX6_readSign_9 : decode cX6_readSign 9 = .ok (.dup, 1) := by decide +kernel
theorem dX6_readSign_10 : decode cX6_readSign 10 = .ok (.getfield 26, 3) := by decide +kernel
theorem dX6_readSign_13 : decode cX6_readSign 13 = .ok (.iconst 1, 1) := by decide +kernel
theorem dX6_readSign_14 : decode cX6_readSign 14 = .ok (.iadd, 1) := by decide +kernel
theorem dX6_readSign_15 : decode cX6_readSign 15 = .ok (.putfield 26, 3) := by decide +kernel
theorem dX6_readSign_18 : decode cX6_readSign 18 = .ok (.goto 8, 3) := by decide +kernel
theorem dX6_readSign_21 : decode cX6_readSign 21 = .ok (.aload_n 0, 1) := by decide +kernel
theorem dX6_readSign_22 : decode cX6_readSign 22 = .ok (.iconst 1, 1) := by decide +kernel
theorem dX6_readSign_23 : decode cX6_readSign 23 = .ok (.putfield 29, 3) := by decide +kernel
theorem dX6_readSign_26 : decode cX6_readSign 26 = .ok (.return_, 1) := by decide +kernel
theorem dX6_isNext_0 : decode cX6_isNext 0 = .ok (.aload_n 0, 1) := by decide +kernel
theorem dX6_isNext_1 : decode cX6_isNext 1 = .ok (.invokevirtual 81, 3) := by decide +kernel
theorem dX6_isNext_4 : decode cX6_isNext 4 = .ok (.aload_n 0, 1) := by decide +kernel
theorem dX6_isNext_5 : decode cX6_isNext 5 = .ok (.invokevirtual 84, 3) := by decide +kernel
theorem dX6_isNext_8 : decode cX6_isNext 8 = .ok (.ifCond .eq 20, 3) := by decide +kernel
theorem dX6_isNext_11 : decode cX6_isNext 11 = .ok (.aload_n 0, 1) := by decide +kernel
theorem dX6_isNext_12 : decode cX6_isNext 12 = .ok (.getfield 9, 3) := by decide +kernel
theorem dX6_isNext_15 : decode cX6_isNext 15 = .ok (.aload_n 0, 1) := by decide +kernel
theorem dX6_isNext_16 : decode cX6_isNext 16 = .ok (.getfield 26, 3) := by decide +kernel
theorem dX6_isNext_19 : decode cX6_isNext 19 = .ok (.caload, 1) := by decide +kernel
theorem dX6_isNext_20 : decode cX6_isNext 20 = .ok (.iload_n 1, 1) := by decide +kernel
theorem dX6_isNext_21 : decode cX6_isNext 21 = .ok (.if_icmp .ne 7, 3) := by decide +kernel
theorem dX6_isNext_24 : decode cX6_isNext 24 = .ok (.iconst 1, 1) := by decide +kernel
theorem dX6_isNext_25 : decode cX6_isNext 25 = .ok (.goto 4, 3) := by decide +kernel
theorem dX6_isNext_28 : decode cX6_isNext 28 = .ok (.iconst 0, 1) := by decide +kernel
theorem dX6_isNext_29 : decode cX6_isNext 29 = .ok (.ireturn, 1) := by decide +kernel
theorem dX6_isThere_0 : decode cX6_isThere 0 = .ok (.aload_n 0, 1) := by decide +kernel
theorem dX6_isThere_1 : decode cX6_isThere 1 = .ok (.getfield 29, 3) := by decide +kernel
theorem dX6_isThere_4 : decode cX6_isThere 4 = .ok (.ifCond .ne 18, 3) := by decide +kernel
theorem dX6_isThere_7 : decode cX6_isThere 7 = .ok (.aload_n 0, 1) := by decide +kernel
theorem dX6_isThere_8 : decode cX6_isThere 8 = .ok (.getfield 26, 3) := by decide +kernel
theorem dX6_isThere_11 : decode cX6_isThere 11 = .ok (.aload_n 0, 1) := by decide +kernel
theorem dX6_isThere_12 : decode cX6_isThere 12 = .ok (.getfield 22, 3) := by decide +kernel
theorem dX6_isThere_15 : decode cX6_isThere 15 = .ok (.if_icmp .ge 7, 3) := by decide +kernel
theorem dX6_isThere_18 : decode cX6_isThere 18 = .ok (.iconst 1, 1) := by decide +kernel
theorem dX6_isThere_19 : decode cX6_isThere 19 = .ok (.goto 4, 3) := by decide +kernel
theorem dX6_isThere_22 : decode cX6_isThere 22 = .ok (.iconst 0, 1) := by decide +kernel
theorem dX6_isThere_23 : decode cX6_isThere 23 = .ok (.ireturn, 1) := by decide +kernel
theorem dX6_isDigitThere_0 : decode cX6_isDigitThere 0 = .ok (.aload_n 0, 1) := by decide +kernel
theorem dX6_isDigitThere_1 : decode cX6_isDigitThere 1 = .ok (.getfield 29, 3) := by decide +kernel
theorem dX6_isDigitThere_4 : decode cX6_isDigitThere 4 = .ok (.ifCond .ne 46, 3) := by decide +kernel
theorem dX6_isDigitThere_7 : decode cX6_isDigitThere 7 = .ok (.aload_n 0, 1) := by decide +kernel
theorem dX6_isDigitThere_8 : decode cX6_isDigitThere 8 = .ok (.getfield 26, 3) := by decide +kernel
theorem dX6_isDigitThere_11 : decode cX6_isDigitThere 11 = .ok (.aload_n 0, 1) := by decide +kernel
theorem dX6_isDigitThere_12 : decode cX6_isDigitThere 12 = .ok (.getfield 22, 3) := by decide +kernel
theorem dX6_isDigitThere_15 : decode cX6_isDigitThere 15 = .ok (.if_icmp .ge 35, 3) := by decide +kernel
theorem dX6_isDigitThere_18 : decode cX6_isDigitThere 18 = .ok (.aload_n 0, 1) := by decide +kernel
theorem dX6_isDigitThere_19 : decode cX6_isDigitThere 19 = .ok (.getfield 9, 3) := by decide +kernel
theorem dX6_isDigitThere_22 : decode cX6_isDigitThere 22 = .ok (.aload_n 0, 1) := by decide +kernel
theorem dX6_isDigitThere_23 : decode cX6_isDigitThere 23 = .ok (.getfield 26, 3) := by decide +kernel
theorem dX6_isDigitThere_26 : decode cX6_isDigitThere 26 = .ok (.caload, 1) := by decide +kernel
theorem dX6_isDigitThere_27 : decode cX6_isDigitThere 27 = .ok (.bipush 48, 2) := by decide +kernel
theorem dX6_isDigitThere_29 : decode cX6_isDigitThere 29 = .ok (.if_icmp .lt 21, 3) := by decide +kernel
theorem dX6_isDigitThere_32 : decode cX6_isDigitThere 32 = .ok (.aload_n 0, 1) := by decide +kernel
theorem dX6_isDigitThere_33 : decode cX6_isDigitThere 33 = .ok (.getfield 9, 3) := by decide +kernel
theorem dX6_isDigitThere_36 : decode cX6_isDigitThere 36 = .ok (.aload_n 0, 1) := by decide +kernel
theorem dX6_isDigitThere_37 : decode cX6_isDigitThere 37 = .ok (.getfield 26, 3) := by decide +kernel
theorem dX6_isDigitThere_40 : decode cX6_isDigitThere 40 = .ok (.caload, 1) := by decide +kernel
theorem dX6_isDigitThere_41 : decode cX6_isDigitThere 41 = .ok (.bipush 57, 2) := by decide +kernel
theorem dX6_isDigitThere_43 : decode cX6_isDigitThere 43 = .ok (.if_icmp .gt 7, 3) := by decide +kernel
theorem dX6_isDigitThere_46 : decode cX6_isDigitThere 46 = .ok (.iconst 1, 1) := by decide +kernel
theorem dX6_isDigitThere_47 : decode cX6_isDigitThere 47 = .ok (.goto 4, 3) := by decide +kernel
theorem dX6_isDigitThere_50 : decode cX6_isDigitThere 50 = .ok (.iconst 0, 1) := by decide +kernel
theorem dX6_isDigitThere_51 : decode cX6_isDigitThere 51 = .ok (.ireturn, 1) := by decide +kernel
theorem dX6_isAtEnd_0 : decode cX6_isAtEnd 0 = .ok (.aload_n 0, 1) := by decide +kernel
theorem dX6_isAtEnd_1 : decode cX6_isAtEnd 1 = .ok (.invokevirtual 81, 3) := by decide +kernel
theorem dX6_isAtEnd_4 : decode cX6_isAtEnd 4 = .ok (.aload_n 0, 1) := by decide +kernel
theorem dX6_isAtEnd_5 : decode cX6_isAtEnd 5 = .ok (.getfield 29, 3) := by decide +kernel
theorem dX6_isAtEnd_8 : decode cX6_isAtEnd 8 = .ok (.ifCond .ne 14, 3) := by decide +kernel
theorem dX6_isAtEnd_11 : decode cX6_isAtEnd 11 = .ok (.aload_n 0, 1) := by decide +kernel
theorem dX6_isAtEnd_12 : decode cX6_isAtEnd 12 = .ok (.getfield 26, 3) := by decide +kernel
theorem dX6_isAtEnd_15 : decode cX6_isAtEnd 15 = .ok (.aload_n 0, 1) := by decide +kernel
theorem dX6_isAtEnd_16 : decode cX6_isAtEnd 16 = .ok (.getfield 22, 3) := by decide +kernel
theorem dX6_isAtEnd_19 : decode cX6_isAtEnd 19 = .ok (.if_icmp .lt 7, 3) := by decide +kernel
theorem dX6_isAtEnd_22 : decode cX6_isAtEnd 22 = .ok (.iconst 1, 1) := by decide +kernel
theorem dX6_isAtEnd_23 : decode cX6_isAtEnd 23 = .ok (.goto 4, 3) := by decide +kernel
theorem dX6_isAtEnd_26 : decode cX6_isAtEnd 26 = .ok (.iconst 0, 1) := by decide +kernel
theorem dX6_isAtEnd_27 : decode cX6_isAtEnd 27 = .ok (.ireturn, 1) := by decide +kernel
theorem dX6_skipBlanks_0 : decode cX6_skipBlanks 0 = .ok (.aload_n 0, 1) := by decide +kernel
theorem dX6_skipBlanks_1 : decode cX6_skipBlanks 1 = .ok (.getfield 29, 3) := by decide +kernel
theorem dX6_skipBlanks_4 : decode cX6_skipBlanks 4 = .ok (.ifCond .ne 41, 3) := by decide +kernel
theorem dX6_skipBlanks_7 : decode cX6_skipBlanks 7 = .ok (.aload_n 0, 1) := by decide +kernel
theorem dX6_skipBlanks_8 : decode cX6_skipBlanks 8 = .ok (.getfield 26, 3) := by decide +kernel
theorem dX6_skipBlanks_11 : decode cX6_skipBlanks 11 = .ok (.aload_n 0, 1) := by decide +kernel
theorem dX6_skipBlanks_12 : decode cX6_skipBlanks 12 = .ok (.getfield 22, 3) := by decide +kernel
theorem dX6_skipBlanks_15 : decode cX6_skipBlanks 15 = .ok (.if_icmp .ge 30, 3) := by decide +kernel
theorem dX6_skipBlanks_18 : decode cX6_skipBlanks 18 = .ok (.aload_n 0, 1) := by decide +kernel
theorem dX6_skipBlanks_19 : decode cX6_skipBlanks 19 = .ok (.getfield 9, 3) := by decide +kernel
theorem dX6_skipBlanks_22 : decode cX6_skipBlanks 22 = .ok (.aload_n 0, 1) := by decide +kernel
theorem dX6_skipBlanks_23 : decode cX6_skipBlanks 23 = .ok (.getfield 26, 3) := by decide +kernel
theorem dX6_skipBlanks_26 : decode cX6_skipBlanks 26 = .ok (.caload, 1) := by decide +kernel
theorem dX6_skipBlanks_27 : decode cX6_skipBlanks 27 = .ok (.bipush 32, 2) := by decide +kernel
theorem dX6_skipBlanks_29 : decode cX6_skipBlanks 29 = .ok (.if_icmp .ne 16, 3) := by decide +kernel
theorem dX6_skipBlanks_32 : decode cX6_skipBlanks 32 = .ok (.aload_n 0, 1) := by decide +kernel
theorem dX6_skipBlanks_33 : decode cX6_skipBlanks 33 = .ok (.dup, 1) := by decide +kernel
theorem dX6_skipBlanks_34 : decode cX6_skipBlanks 34 = .ok (.getfield 26, 3) := by decide +kernel
theorem dX6_skipBlanks_37 : decode cX6_skipBlanks 37 = .ok (.iconst 1, 1) := by decide +kernel
theorem dX6_skipBlanks_38 : decode cX6_skipBlanks 38 = .ok (.iadd, 1) := by decide +kernel
theorem dX6_skipBlanks_39 : decode cX6_skipBlanks 39 = .ok (.putfield 26, 3) := by decide +kernel
theorem dX6_skipBlanks_42 : decode cX6_skipBlanks 42 = .ok (.goto (-35), 3) := by decide +kernel
theorem dX6_skipBlanks_45 : decode cX6_skipBlanks 45 = .ok (.return_, 1) := by decide +kernel
theorem dX7_init_0 : decode cX7_init 0 = .ok (.aload_n 0, 1) := by decide +kernel
theorem dX7_init_1 : decode cX7_init 1 = .ok (.invokespecial 3, 3) := by decide +kernel
theorem dX7_init_4 : decode cX7_init 4 = .ok (.aload_n 0, 1) := by decide +kernel
theorem dX7_init_5 : decode cX7_init 5 = .ok (.bipush 8, 2) := by decide +kernel
theorem dX7_init_7 : decode cX7_init 7 = .ok (.anewarray 9, 3) := by decide +kernel
theorem dX7_init_10 : decode cX7_init 10 = .ok (.putfield 11, 3) := by decide +kernel
theorem dX7_init_13 : decode cX7_init 13 = .ok (.iconst 0, 1) := by decide +kernel
theorem dX7_init_14 : decode cX7_init 14 = .ok (.istore_n 1, 1) := by decide +kernel
theorem dX7_init_15 : decode cX7_init 15 = .ok (.iload_n 1, 1) := by decide +kernel
theorem dX7_init_16 : decode cX7_init 16 = .ok (.bipush 8, 2) := by decide +kernel
theorem dX7_init_18 : decode cX7_init 18 = .ok (.if_icmp .ge 22, 3) := by decide +kernel
theorem dX7_init_21 : decode cX7_init 21 = .ok (.aload_n 0, 1) := by decide +kernel
theorem dX7_init_22 : decode cX7_init 22 = .ok (.getfield 11, 3) := by decide +kernel
theorem dX7_init_25 : decode cX7_init 25 = .ok (.iload_n 1, 1) := by decide +kernel
theorem dX7_init_26 : decode cX7_init 26 = .ok (.new 9, 3) := by decide +kernel
theorem dX7_init_29 : decode cX7_init 29 = .ok (.dup, 1) := by decide +kernel
theorem dX7_init_30 : decode cX7_init 30 = .ok (.invokespecial 17, 3) := by decide +kernel
theorem dX7_init_33 : decode cX7_init 33 = .ok (.aastore, 1) := by decide +kernel
theorem dX7_init_34 : decode cX7_init 34 = .ok (.iinc 1 1, 3) := by decide +kernel
theorem dX7_init_37 : decode cX7_init 37 = .ok (.goto (-22), 3) := by decide +kernel
theorem dX7_init_40 : decode cX7_init 40 = .ok (.return_, 1) := by decide +kernel
theorem dX7_forgetAll_0 : decode cX7_forgetAll 0 = .ok (.aload_n 0, 1) := by decide +kernel
theorem dX7_forgetAll_1 : decode cX7_forgetAll 1 = .ok (.iconst 0, 1) := by decide +kernel
theorem dX7_forgetAll_2 : decode cX7_forgetAll 2 = .ok (.putfield 18, 3) := by decide +kernel
theorem dX7_forgetAll_5 : decode cX7_forgetAll 5 = .ok (.return_, 1) := by decide +kernel
theorem dX7_remember_0 : decode cX7_remember 0 = .ok (.aload_n 0, 1) := by decide +kernel
theorem dX7_remember_1 : decode cX7_remember 1 = .ok (.getfield 11, 3) := by decide +kernel
theorem dX7_remember_4 : decode cX7_remember 4 = .ok (.aload_n 0, 1) := by decide +kernel
theorem dX7_remember_5 : decode cX7_remember 5 = .ok (.getfield 22, 3) := by decide +kernel
theorem dX7_remember_8 : decode cX7_remember 8 = .ok (.aaload, 1) := by decide +kernel
theorem dX7_remember_9 : decode cX7_remember 9 = .ok (.aload_n 1, 1) := by decide +kernel
theorem dX7_remember_10 : decode cX7_remember 10 = .ok (.invokevirtual 25, 3) := by decide +kernel
theorem dX7_remember_13 : decode cX7_remember 13 = .ok (.aload_n 0, 1) := by decide +kernel
theorem dX7_remember_14 : decode cX7_remember 14 = .ok (.aload_n 0, 1) := by decide +kernel
theorem dX7_remember_15 : decode cX7_remember 15 = .ok (.getfield 22, 3) := by decide +kernel
theorem dX7_remember_18 : decode cX7_remember 18 = .ok (.iconst 1, 1) := by decide +kernel
theorem dX7_remember_19 : decode cX7_remember 19 = .ok (.iadd, 1) := by decide +kernel
theorem dX7_remember_20 : decode cX7_remember 20 = .ok (.bipush 8, 2) := by decide +kernel
theorem dX7_remember_22 : decode cX7_remember 22 = .ok (.irem, 1) := by decide +kernel
theorem dX7_remember_23 : decode cX7_remember 23 = .ok (.putfield 22, 3) := by decide +kernel
theorem dX7_remember_26 : decode cX7_remember 26 = .ok (.aload_n 0, 1) := by decide +kernel
theorem dX7_remember_27 : decode cX7_remember 27 = .ok (.bipush 8, 2) := by decide +kernel
theorem dX7_remember_29 : decode cX7_remember 29 = .ok (.aload_n 0, 1) := by decide +kernel
theorem dX7_remember_30 : decode cX7_remember 30 = .ok (.getfield 18, 3) := by decide +kernel
theorem dX7_remember_33 : decode cX7_remember 33 = .ok (.iconst 1, 1) := by decide +kernel
theorem dX7_remember_34 : decode cX7_remember 34 = .ok (.iadd, 1) := by decide +kernel
theorem dX7_remember_35 : decode cX7_remember 35 = .ok (.invokestatic 29, 3) := by decide +kernel
theorem dX7_remember_38 : decode cX7_remember 38 = .ok (.putfield 18, 3) := by decide +kernel
theorem dX7_remember_41 : decode cX7_remember 41 = .ok (.return_, 1) := by decide +kernel
theorem dX7_takeBack_0 : decode cX7_takeBack 0 = .ok (.aload_n 0, 1) := by decide +kernel
theorem dX7_takeBack_1 : decode cX7_takeBack 1 = .ok (.aload_n 0, 1) := by decide +kernel
theorem dX7_takeBack_2 : decode cX7_takeBack 2 = .ok (.getfield 22, 3) := by decide +kernel
theorem dX7_takeBack_5 : decode cX7_takeBack 5 = .ok (.bipush 8, 2) := by decide +kernel
theorem dX7_takeBack_7 : decode cX7_takeBack 7 = .ok (.iadd, 1) := by decide +kernel
theorem dX7_takeBack_8 : decode cX7_takeBack 8 = .ok (.iconst 1, 1) := by decide +kernel
theorem dX7_takeBack_9 : decode cX7_takeBack 9 = .ok (.isub, 1) := by decide +kernel
theorem dX7_takeBack_10 : decode cX7_takeBack 10 = .ok (.bipush 8, 2) := by decide +kernel
theorem dX7_takeBack_12 : decode cX7_takeBack 12 = .ok (.irem, 1) := by decide +kernel
theorem dX7_takeBack_13 : decode cX7_takeBack 13 = .ok (.putfield 22, 3) := by decide +kernel
theorem dX7_takeBack_16 : decode cX7_takeBack 16 = .ok (.aload_n 0, 1) := by decide +kernel
theorem dX7_takeBack_17 : decode cX7_takeBack 17 = .ok (.dup, 1) := by decide +kernel
theorem dX7_takeBack_18 : decode cX7_takeBack 18 = .ok (.getfield 18, 3) := by decide +kernel
theorem dX7_takeBack_21 : decode cX7_takeBack 21 = .ok (.iconst 1, 1) := by decide +kernel
theorem dX7_takeBack_22 : decode cX7_takeBack 22 = .ok (.isub, 1) := by decide +kernel
theorem dX7_takeBack_23 : decode cX7_takeBack 23 = .ok (.putfield 18, 3) := by decide +kernel
theorem dX7_takeBack_26 : decode cX7_takeBack 26 = .ok (.aload_n 1, 1) := by decide +kernel
theorem dX7_takeBack_27 : decode cX7_takeBack 27 = .ok (.aload_n 0, 1) := by decide +kernel
theorem dX7_takeBack_28 : decode cX7_takeBack 28 = .ok (.getfield 11, 3) := by decide +kernel
theorem dX7_takeBack_31 : decode cX7_takeBack 31 = .ok (.aload_n 0, 1) := by decide +kernel
theorem dX7_takeBack_32 : decode cX7_takeBack 32 = .ok (.getfield 22, 3) := by decide +kernel
theorem dX7_takeBack_35 : decode cX7_takeBack 35 = .ok (.aaload, 1) := by decide +kernel
theorem dX7_takeBack_36 : decode cX7_takeBack 36 = .ok (.invokevirtual 25, 3) := by decide +kernel
theorem dX7_takeBack_39 : decode cX7_takeBack 39 = .ok (.return_, 1) := by decide +kernel
theorem dX7_takeAll_0 : decode cX7_takeAll 0 = .ok (.iconst 0, 1) := by decide +kernel
theorem dX7_takeAll_1 : decode cX7_takeAll 1 = .ok (.istore_n 2, 1) := by decide +kernel
theorem dX7_takeAll_2 : decode cX7_takeAll 2 = .ok (.iload_n 2, 1) := by decide +kernel
theorem dX7_takeAll_3 : decode cX7_takeAll 3 = .ok (.bipush 8, 2) := by decide +kernel
theorem dX7_takeAll_5 : decode cX7_takeAll 5 = .ok (.if_icmp .ge 24, 3) := by decide +kernel
theorem dX7_takeAll_8 : decode cX7_takeAll 8 = .ok (.aload_n 0, 1) := by decide +kernel
theorem dX7_takeAll_9 : decode cX7_takeAll 9 = .ok (.getfield 11, 3) := by decide +kernel
theorem dX7_takeAll_12 : decode cX7_takeAll 12 = .ok (.iload_n 2, 1) := by decide +kernel
theorem dX7_takeAll_13 : decode cX7_takeAll 13 = .ok (.aaload, 1) := by decide +kernel
theorem dX7_takeAll_14 : decode cX7_takeAll 14 = .ok (.aload_n 1, 1) := by decide +kernel
theorem dX7_takeAll_15 : decode cX7_takeAll 15 = .ok (.getfield 11, 3) := by decide +kernel
theorem dX7_takeAll_18 : decode cX7_takeAll 18 = .ok (.iload_n 2, 1) := by decide +kernel
theorem dX7_takeAll_19 : decode cX7_takeAll 19 = .ok (.aaload, 1) := by decide +kernel
theorem dX7_takeAll_20 : decode cX7_takeAll 20 = .ok (.invokevirtual 25, 3) := by decide +kernel
theorem dX7_takeAll_23 : decode cX7_takeAll 23 = .ok (.iinc 2 1, 3) := by decide +kernel
theorem dX7_takeAll_26 : decode cX7_takeAll 26 = .ok (.goto (-24), 3) := by decide +kernel
theorem dX7_takeAll_29 : decode cX7_takeAll 29 = .ok (.aload_n 0, 1) := by decide +kernel
theorem dX7_takeAll_30 : decode cX7_takeAll 30 = .ok (.aload_n 1, 1) := by decide +kernel
theorem dX7_takeAll_31 : decode cX7_takeAll 31 = .ok (.getfield 22, 3) := by decide +kernel
theorem dX7_takeAll_34 : decode cX7_takeAll 34 = .ok (.putfield 22, 3) := by decide +kernel
theorem dX7_takeAll_37 : decode cX7_takeAll 37 = .ok (.aload_n 0, 1) := by decide +kernel
theorem dX7_takeAll_38 : decode cX7_takeAll 38 = .ok (.aload_n 1, 1) := by decide +kernel
theorem dX7_takeAll_39 : decode cX7_takeAll 39 = .ok (.getfield 18, 3) := by decide +kernel
theorem dX7_takeAll_42 : decode cX7_takeAll 42 = .ok (.putfield 18, 3) := by decide +kernel
theorem dX7_takeAll_45 : decode cX7_takeAll 45 = .ok (.return_, 1) := by decide +kernel
theorem dJ6_bitCount_0f7a4_0 : decode cJ6_bitCount_0f7a4 0 = .ok (.iload_n 0, 1) := by decide +kernel
theorem dJ6_bitCount_0f7a4_1 : decode cJ6_bitCount_0f7a4 1 = .ok (.iload_n 0, 1) := by decide +kernel
theorem dJ6_bitCount_0f7a4_2 : decode cJ6_bitCount_0f7a4 2 = .ok (.iconst 1, 1) := by decide +kernel
theorem dJ6_bitCount_0f7a4_3 : decode cJ6_bitCount_0f7a4 3 = .ok (.iushr, 1) := by decide +kernel
theorem dJ6_bitCount_0f7a4_4 : decode cJ6_bitCount_0f7a4 4 = .ok (.ldc_w 265, 3) := by decide +kernel
theorem dJ6_bitCount_0f7a4_7 : decode cJ6_bitCount_0f7a4 7 = .ok (.iand, 1) := by decide +kernel
theorem dJ6_bitCount_0f7a4_8 : decode cJ6_bitCount_0f7a4 8 = .ok (.isub, 1) := by decide +kernel
theorem dJ6_bitCount_0f7a4_9 : decode cJ6_bitCount_0f7a4 9 = .ok (.istore_n 0, 1) := by decide +kernel
theorem dJ6_bitCount_0f7a4_10 : decode cJ6_bitCount_0f7a4 10 = .ok (.iload_n 0, 1) := by decide +kernel
theorem dJ6_bitCount_0f7a4_11 : decode cJ6_bitCount_0f7a4 11 = .ok (.ldc_w 266, 3) := by decide +kernel
theorem dJ6_bitCount_0f7a4_14 : decode cJ6_bitCount_0f7a4 14 = .ok (.iand, 1) := by decide +kernel
theorem dJ6_bitCount_0f7a4_15 : decode cJ6_bitCount_0f7a4 15 = .ok (.iload_n 0, 1) := by decide +kernel
theorem dJ6_bitCount_0f7a4_16 : decode cJ6_bitCount_0f7a4 16 = .ok (.iconst 2, 1) := by decide +kernel
theorem dJ6_bitCount_0f7a4_17 : decode cJ6_bitCount_0f7a4 17 = .ok (.iushr, 1) := by decide +kernel
theorem dJ6_bitCount_0f7a4_18 : decode cJ6_bitCount_0f7a4 18 = .ok (.ldc_w 266, 3) := by decide +kernel
theorem dJ6_bitCount_0f7a4_21 : decode cJ6_bitCount_0f7a4 21 = .ok (.iand, 1) := by decide +kernel
theorem dJ6_bitCount_0f7a4_22 : decode cJ6_bitCount_0f7a4 22 = .ok (.iadd, 1) := by decide +kernel
theorem dJ6_bitCount_0f7a4_23 : decode cJ6_bitCount_0f7a4 23 = .ok (.istore_n 0, 1) := by decide +kernel
theorem dJ6_bitCount_0f7a4_24 : decode cJ6_bitCount_0f7a4 24 = .ok (.iload_n 0, 1) := by decide +kernel
theorem dJ6_bitCount_0f7a4_25 : decode cJ6_bitCount_0f7a4 25 = .ok (.iload_n 0, 1) := by decide +kernel
theorem dJ6_bitCount_0f7a4_26 : decode cJ6_bitCount_0f7a4 26 = .ok (.iconst 4, 1) := by decide +kernel
theorem dJ6_bitCount_0f7a4_27 : decode cJ6_bitCount_0f7a4 27 = .ok (.iushr, 1) := by decide +kernel
theorem dJ6_bitCount_0f7a4_28 : decode cJ6_bitCount_0f7a4 28 = .ok (.iadd, 1) := by decide +kernel
theorem dJ6_bitCount_0f7a4_29 : decode cJ6_bitCount_0f7a4 29 = .ok (.ldc_w 267, 3) := by decide +kernel
theorem dJ6_bitCount_0f7a4_32 : decode cJ6_bitCount_0f7a4 32 = .ok (.iand, 1) := by decide +kernel
theorem dJ6_bitCount_0f7a4_33 : decode cJ6_bitCount_0f7a4 33 = .ok (.istore_n 0, 1) := by decide +kernel
theorem dJ6_bitCount_0f7a4_34 : decode cJ6_bitCount_0f7a4 34 = .ok (.iload_n 0, 1) := by decide +kernel
theorem dJ6_bitCount_0f7a4_35 : decode cJ6_bitCount_0f7a4 35 = .ok (.iload_n 0, 1) := by decide +kernel
theorem dJ6_bitCount_0f7a4_36 : decode cJ6_bitCount_0f7a4 36 = .ok (.bipush 8, 2) := by decide +kernel
theorem dJ6_bitCount_0f7a4_38 : decode cJ6_bitCount_0f7a4 38 = .ok (.iushr, 1) := by decide +kernel
theorem dJ6_bitCount_0f7a4_39 : decode cJ6_bitCount_0f7a4 39 = .ok (.iadd, 1) := by decide +kernel
theorem dJ6_bitCount_0f7a4_40 : decode cJ6_bitCount_0f7a4 40 = .ok (.istore_n 0, 1) := by decide +kernel
theorem dJ6_bitCount_0f7a4_41 : decode cJ6_bitCount_0f7a4 41 = .ok (.iload_n 0, 1) := by decide +kernel
theorem dJ6_bitCount_0f7a4_42 : decode cJ6_bitCount_0f7a4 42 = .ok (.iload_n 0, 1) := by decide +kernel
theorem dJ6_bitCount_0f7a4_43 : decode cJ6_bitCount_0f7a4 43 = .ok (.bipush 16, 2) := by decide +kernel
theorem dJ6_bitCount_0f7a4_45 : decode cJ6_bitCount_0f7a4 45 = .ok (.iushr, 1) := by decide +kernel
theorem dJ6_bitCount_0f7a4_46 : decode cJ6_bitCount_0f7a4 46 = .ok (.iadd, 1) := by decide +kernel
theorem dJ6_bitCount_0f7a4_47 : decode cJ6_bitCount_0f7a4 47 = .ok (.istore_n 0, 1) := by decide +kernel
theorem dJ6_bitCount_0f7a4_48 : decode cJ6_bitCount_0f7a4 48 = .ok (.iload_n 0, 1) := by decide +kernel
theorem dJ6_bitCount_0f7a4_49 : decode cJ6_bitCount_0f7a4 49 = .ok (.bipush 63, 2) := by decide +kernel
theorem dJ6_bitCount_0f7a4_51 : decode cJ6_bitCount_0f7a4 51 = .ok (.iand, 1) := by decide +kernel
theorem dJ6_bitCount_0f7a4_52 : decode cJ6_bitCount_0f7a4 52 = .ok (.ireturn, 1) := by decide +kernel
theorem dJ7_fill_d0a16_0 : decode cJ7_fill_d0a16 0 = .ok (.iconst 0, 1) := by decide +kernel
theorem dJ7_fill_d0a16_1 : decode cJ7_fill_d0a16 1 = .ok (.istore_n 3, 1) := by decide +kernel
theorem dJ7_fill_d0a16_2 : decode cJ7_fill_d0a16 2 = .ok (.aload_n 0, 1) := by decide +kernel
theorem dJ7_fill_d0a16_3 : decode cJ7_fill_d0a16 3 = .ok (.arraylength, 1) := by decide +kernel
theorem dJ7_fill_d0a16_4 : decode cJ7_fill_d0a16 4 = .ok (.istore 4, 2) := by decide +kernel
theorem dJ7_fill_d0a16_6 : decode cJ7_fill_d0a16 6 = .ok (.iload_n 3, 1) := by decide +kernel
theorem dJ7_fill_d0a16_7 : decode cJ7_fill_d0a16 7 = .ok (.iload 4, 2) := by decide +kernel
theorem dJ7_fill_d0a16_9 : decode cJ7_fill_d0a16 9 = .ok (.if_icmp .ge 13, 3) := by decide +kernel
theorem dJ7_fill_d0a16_12 : decode cJ7_fill_d0a16 12 = .ok (.aload_n 0, 1) := by decide +kernel
theorem dJ7_fill_d0a16_13 : decode cJ7_fill_d0a16 13 = .ok (.iload_n 3, 1) := by decide +kernel
theorem dJ7_fill_d0a16_14 : decode cJ7_fill_d0a16 14 = .ok (.lload_n 1, 1) := by decide +kernel
theorem dJ7_fill_d0a16_15 : decode cJ7_fill_d0a16 15 = .ok (.lastore, 1) := by decide +kernel
theorem dJ7_fill_d0a16_16 : decode cJ7_fill_d0a16 16 = .ok (.iinc 3 1, 3) := by decide +kernel
theorem dJ7_fill_d0a16_19 : decode cJ7_fill_d0a16 19 = .ok (.goto (-13), 3) := by decide +kernel
theorem dJ7_fill_d0a16_22 : decode cJ7_fill_d0a16 22 = .ok (.return_, 1) := by decide +kernel
theorem dJ7_fill_53178_0 : decode cJ7_fill_53178 0 = .ok (.iconst 0, 1) := by decide +kernel
theorem dJ7_fill_53178_1 : decode cJ7_fill_53178 1 = .ok (.istore_n 2, 1) := by decide +kernel
theorem dJ7_fill_53178_2 : decode cJ7_fill_53178 2 = .ok (.aload_n 0, 1) := by decide +kernel
theorem dJ7_fill_53178_3 : decode cJ7_fill_53178 3 = .ok (.arraylength, 1) := by decide +kernel
theorem dJ7_fill_53178_4 : decode cJ7_fill_53178 4 = .ok (.istore_n 3, 1) := by decide +kernel
theorem dJ7_fill_53178_5 : decode cJ7_fill_53178 5 = .ok (.iload_n 2, 1) := by decide +kernel
theorem dJ7_fill_53178_6 : decode cJ7_fill_53178 6 = .ok (.iload_n 3, 1) := by decide +kernel
theorem dJ7_fill_53178_7 : decode cJ7_fill_53178 7 = .ok (.if_icmp .ge 13, 3) := by decide +kernel
theorem dJ7_fill_53178_10 : decode cJ7_fill_53178 10 = .ok (.aload_n 0, 1) := by decide +kernel
theorem dJ7_fill_53178_11 : decode cJ7_fill_53178 11 = .ok (.iload_n 2, 1) := by decide +kernel
theorem dJ7_fill_53178_12 : decode cJ7_fill_53178 12 = .ok (.iload_n 1, 1) := by decide +kernel
theorem dJ7_fill_53178_13 : decode cJ7_fill_53178 13 = .ok (.iastore, 1) := by decide +kernel
theorem dJ7_fill_53178_14 : decode cJ7_fill_53178 14 = .ok (.iinc 2 1, 3) := by decide +kernel
theorem dJ7_fill_53178_17 : decode cJ7_fill_53178 17 = .ok (.goto (-12), 3) := by decide +kernel
theorem dJ7_fill_53178_20 : decode cJ7_fill_53178 20 = .ok (.return_, 1) := by decide +kernel
