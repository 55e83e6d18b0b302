theorem d_GR_init_0 : decode b_GR_init 0 = .ok (.aload_n 0, 1) := by decide +kernel
theorem d_GR_init_1 : decode b_GR_init 1 = .ok (.invokespecial 1, 3) := by decide +kernel
theorem d_GR_init_4 : decode b_GR_init 4 = .ok (.aload_n 0, 1) := by decide +kernel
theorem d_GR_init_5 : decode b_GR_init 5 = .ok (.iconst 1, 1) := by decide +kernel
theorem d_GR_init_6 : decode b_GR_init 6 = .ok (.putfield 7, 3) := by decide +kernel
theorem d_GR_init_9 : decode b_GR_init 9 = .ok (.aload_n 0, 1) := by decide +kernel
theorem d_GR_init_10 : decode b_GR_init 10 = .ok (.iconst 0, 1) := by decide +kernel
theorem d_GR_init_11 : decode b_GR_init 11 = .ok (.putfield 13, 3) := by decide +kernel
theorem d_GR_init_14 : decode b_GR_init 14 = .ok (.aload_n 0, 1) := by decide +kernel
theorem d_GR_init_15 : decode b_GR_init 15 = .ok (.iconst 1, 1) := by decide +kernel
theorem d_GR_init_16 : decode b_GR_init 16 = .ok (.putfield 16, 3) := by decide +kernel
theorem d_GR_init_19 : decode b_GR_init 19 = .ok (.return_, 1) := by decide +kernel
theorem d_GR_find_0 : decode b_GR_find 0 = .ok (.aload_n 0, 1) := by decide +kernel
theorem d_GR_find_1 : decode b_GR_find 1 = .ok (.iconst 1, 1) := by decide +kernel
theorem d_GR_find_2 : decode b_GR_find 2 = .ok (.putfield 7, 3) := by decide +kernel
theorem d_GR_find_5 : decode b_GR_find 5 = .ok (.aload_n 0, 1) := by decide +kernel
theorem d_GR_find_6 : decode b_GR_find 6 = .ok (.iconst 0, 1) := by decide +kernel
theorem d_GR_find_7 : decode b_GR_find 7 = .ok (.putfield 13, 3) := by decide +kernel
theorem d_GR_find_10 : decode b_GR_find 10 = .ok (.aload_n 0, 1) := by decide +kernel
theorem d_GR_find_11 : decode b_GR_find 11 = .ok (.iconst 1, 1) := by decide +kernel
theorem d_GR_find_12 : decode b_GR_find 12 = .ok (.putfield 16, 3) := by decide +kernel
theorem d_GR_find_15 : decode b_GR_find 15 = .ok (.iconst 1, 1) := by decide +kernel
theorem d_GR_find_16 : decode b_GR_find 16 = .ok (.istore_n 2, 1) := by decide +kernel
theorem d_GR_find_17 : decode b_GR_find 17 = .ok (.iload_n 2, 1) := by decide +kernel
theorem d_GR_find_18 : decode b_GR_find 18 = .ok (.aload_n 1, 1) := by decide +kernel
theorem d_GR_find_19 : decode b_GR_find 19 = .ok (.invokevirtual 19, 3) := by decide +kernel
theorem d_GR_find_22 : decode b_GR_find 22 = .ok (.if_icmp .ge 15, 3) := by decide +kernel
theorem d_GR_find_25 : decode b_GR_find 25 = .ok (.aload_n 0, 1) := by decide +kernel
theorem d_GR_find_26 : decode b_GR_find 26 = .ok (.aload_n 1, 1) := by decide +kernel
theorem d_GR_find_27 : decode b_GR_find 27 = .ok (.iload_n 2, 1) := by decide +kernel
theorem d_GR_find_28 : decode b_GR_find 28 = .ok (.invokevirtual 24, 3) := by decide +kernel
theorem d_GR_find_31 : decode b_GR_find 31 = .ok (.iinc 2 1, 3) := by decide +kernel
theorem d_GR_find_34 : decode b_GR_find 34 = .ok (.goto (-17), 3) := by decide +kernel
theorem d_GR_find_37 : decode b_GR_find 37 = .ok (.return_, 1) := by decide +kernel
theorem d_GR_findWithPeriod_0 : decode b_GR_findWithPeriod 0 = .ok (.iconst 0, 1) := by decide +kernel
theorem d_GR_findWithPeriod_1 : decode b_GR_findWithPeriod 1 = .ok (.istore_n 3, 1) := by decide +kernel
theorem d_GR_findWithPeriod_2 : decode b_GR_findWithPeriod 2 = .ok (.iload_n 2, 1) := by decide +kernel
theorem d_GR_findWithPeriod_3 : decode b_GR_findWithPeriod 3 = .ok (.istore 4, 2) := by decide +kernel
theorem d_GR_findWithPeriod_5 : decode b_GR_findWithPeriod 5 = .ok (.iload 4, 2) := by decide +kernel
theorem d_GR_findWithPeriod_7 : decode b_GR_findWithPeriod 7 = .ok (.aload_n 1, 1) := by decide +kernel
theorem d_GR_findWithPeriod_8 : decode b_GR_findWithPeriod 8 = .ok (.invokevirtual 19, 3) := by decide +kernel
theorem d_GR_findWithPeriod_11 : decode b_GR_findWithPeriod 11 = .ok (.if_icmp .ge 77, 3) := by decide +kernel
theorem d_GR_findWithPeriod_14 : decode b_GR_findWithPeriod 14 = .ok (.aload_n 1, 1) := by decide +kernel
theorem d_GR_findWithPeriod_15 : decode b_GR_findWithPeriod 15 = .ok (.iload 4, 2) := by decide +kernel
theorem d_GR_findWithPeriod_17 : decode b_GR_findWithPeriod 17 = .ok (.invokevirtual 28, 3) := by decide +kernel
theorem d_GR_findWithPeriod_20 : decode b_GR_findWithPeriod 20 = .ok (.aload_n 1, 1) := by decide +kernel
theorem d_GR_findWithPeriod_21 : decode b_GR_findWithPeriod 21 = .ok (.iload 4, 2) := by decide +kernel
theorem d_GR_findWithPeriod_23 : decode b_GR_findWithPeriod 23 = .ok (.iload_n 2, 1) := by decide +kernel
theorem d_GR_findWithPeriod_24 : decode b_GR_findWithPeriod 24 = .ok (.isub, 1) := by decide +kernel
theorem d_GR_findWithPeriod_25 : decode b_GR_findWithPeriod 25 = .ok (.invokevirtual 28, 3) := by decide +kernel
theorem d_GR_findWithPeriod_28 : decode b_GR_findWithPeriod 28 = .ok (.if_icmp .ne 9, 3) := by decide +kernel
theorem d_GR_findWithPeriod_31 : decode b_GR_findWithPeriod 31 = .ok (.iload_n 3, 1) := by decide +kernel
theorem d_GR_findWithPeriod_32 : decode b_GR_findWithPeriod 32 = .ok (.iconst 1, 1) := by decide +kernel
theorem d_GR_findWithPeriod_33 : decode b_GR_findWithPeriod 33 = .ok (.iadd, 1) := by decide +kernel
theorem d_GR_findWithPeriod_34 : decode b_GR_findWithPeriod 34 = .ok (.goto 4, 3) := by decide +kernel
theorem d_GR_findWithPeriod_37 : decode b_GR_findWithPeriod 37 = .ok (.iconst 0, 1) := by decide +kernel
theorem d_GR_findWithPeriod_38 : decode b_GR_findWithPeriod 38 = .ok (.istore_n 3, 1) := by decide +kernel
theorem d_GR_findWithPeriod_39 : decode b_GR_findWithPeriod 39 = .ok (.iload_n 2, 1) := by decide +kernel
theorem d_GR_findWithPeriod_40 : decode b_GR_findWithPeriod 40 = .ok (.iload_n 3, 1) := by decide +kernel
theorem d_GR_findWithPeriod_41 : decode b_GR_findWithPeriod 41 = .ok (.iadd, 1) := by decide +kernel
theorem d_GR_findWithPeriod_42 : decode b_GR_findWithPeriod 42 = .ok (.istore 5, 2) := by decide +kernel
theorem d_GR_findWithPeriod_44 : decode b_GR_findWithPeriod 44 = .ok (.iload 5, 2) := by decide +kernel
theorem d_GR_findWithPeriod_46 : decode b_GR_findWithPeriod 46 = .ok (.aload_n 0, 1) := by decide +kernel
theorem d_GR_findWithPeriod_47 : decode b_GR_findWithPeriod 47 = .ok (.getfield 7, 3) := by decide +kernel
theorem d_GR_findWithPeriod_50 : decode b_GR_findWithPeriod 50 = .ok (.imul, 1) := by decide +kernel
theorem d_GR_findWithPeriod_51 : decode b_GR_findWithPeriod 51 = .ok (.aload_n 0, 1) := by decide +kernel
theorem d_GR_findWithPeriod_52 : decode b_GR_findWithPeriod 52 = .ok (.getfield 16, 3) := by decide +kernel
theorem d_GR_findWithPeriod_55 : decode b_GR_findWithPeriod 55 = .ok (.iload_n 2, 1) := by decide +kernel
theorem d_GR_findWithPeriod_56 : decode b_GR_findWithPeriod 56 = .ok (.imul, 1) := by decide +kernel
theorem d_GR_findWithPeriod_57 : decode b_GR_findWithPeriod 57 = .ok (.if_icmp .le 25, 3) := by decide +kernel
theorem d_GR_findWithPeriod_60 : decode b_GR_findWithPeriod 60 = .ok (.aload_n 0, 1) := by decide +kernel
theorem d_GR_findWithPeriod_61 : decode b_GR_findWithPeriod 61 = .ok (.iload_n 2, 1) := by decide +kernel
theorem d_GR_findWithPeriod_62 : decode b_GR_findWithPeriod 62 = .ok (.putfield 7, 3) := by decide +kernel
theorem d_GR_findWithPeriod_65 : decode b_GR_findWithPeriod 65 = .ok (.aload_n 0, 1) := by decide +kernel
theorem d_GR_findWithPeriod_66 : decode b_GR_findWithPeriod 66 = .ok (.iload 4, 2) := by decide +kernel
theorem d_GR_findWithPeriod_68 : decode b_GR_findWithPeriod 68 = .ok (.iload 5, 2) := by decide +kernel
theorem d_GR_findWithPeriod_70 : decode b_GR_findWithPeriod 70 = .ok (.isub, 1) := by decide +kernel
theorem d_GR_findWithPeriod_71 : decode b_GR_findWithPeriod 71 = .ok (.iconst 1, 1) := by decide +kernel
theorem d_GR_findWithPeriod_72 : decode b_GR_findWithPeriod 72 = .ok (.iadd, 1) := by decide +kernel
theorem d_GR_findWithPeriod_73 : decode b_GR_findWithPeriod 73 = .ok (.putfield 13, 3) := by decide +kernel
theorem d_GR_findWithPeriod_76 : decode b_GR_findWithPeriod 76 = .ok (.aload_n 0, 1) := by decide +kernel
theorem d_GR_findWithPeriod_77 : decode b_GR_findWithPeriod 77 = .ok (.iload 5, 2) := by decide +kernel
theorem d_GR_findWithPeriod_79 : decode b_GR_findWithPeriod 79 = .ok (.putfield 16, 3) := by decide +kernel
theorem d_GR_findWithPeriod_82 : decode b_GR_findWithPeriod 82 = .ok (.iinc 4 1, 3) := by decide +kernel
theorem d_GR_findWithPeriod_85 : decode b_GR_findWithPeriod 85 = .ok (.goto (-80), 3) := by decide +kernel
theorem d_GR_findWithPeriod_88 : decode b_GR_findWithPeriod 88 = .ok (.return_, 1) := by decide +kernel
theorem d_GR_period_0 : decode b_GR_period 0 = .ok (.aload_n 0, 1) := by decide +kernel
theorem d_GR_period_1 : decode b_GR_period 1 = .ok (.getfield 7, 3) := by decide +kernel
theorem d_GR_period_4 : decode b_GR_period 4 = .ok (.ireturn, 1) := by decide +kernel
theorem d_GR_place_0 : decode b_GR_place 0 = .ok (.aload_n 0, 1) := by decide +kernel
theorem d_GR_place_1 : decode b_GR_place 1 = .ok (.getfield 13, 3) := by decide +kernel
theorem d_GR_place_4 : decode b_GR_place 4 = .ok (.ireturn, 1) := by decide +kernel
theorem d_GR_length_0 : decode b_GR_length 0 = .ok (.aload_n 0, 1) := by decide +kernel
theorem d_GR_length_1 : decode b_GR_length 1 = .ok (.getfield 16, 3) := by decide +kernel
theorem d_GR_length_4 : decode b_GR_length 4 = .ok (.ireturn, 1) := by decide +kernel
theorem d_HI_init_0 : decode b_HI_init 0 = .ok (.aload_n 0, 1) := by decide +kernel
theorem d_HI_init_1 : decode b_HI_init 1 = .ok (.invokespecial 3, 3) := by decide +kernel
theorem d_HI_init_4 : decode b_HI_init 4 = .ok (.aload_n 0, 1) := by decide +kernel
theorem d_HI_init_5 : decode b_HI_init 5 = .ok (.iconst 4, 1) := by decide +kernel
theorem d_HI_init_6 : decode b_HI_init 6 = .ok (.anewarray 9, 3) := by decide +kernel
theorem d_HI_init_9 : decode b_HI_init 9 = .ok (.putfield 11, 3) := by decide +kernel
theorem d_HI_init_12 : decode b_HI_init 12 = .ok (.aload_n 0, 1) := by decide +kernel
theorem d_HI_init_13 : decode b_HI_init 13 = .ok (.iconst 0, 1) := by decide +kernel
theorem d_HI_init_14 : decode b_HI_init 14 = .ok (.putfield 17, 3) := by decide +kernel
theorem d_HI_init_17 : decode b_HI_init 17 = .ok (.iconst 0, 1) := by decide +kernel
theorem d_HI_init_18 : decode b_HI_init 18 = .ok (.istore_n 1, 1) := by decide +kernel
theorem d_HI_init_19 : decode b_HI_init 19 = .ok (.iload_n 1, 1) := by decide +kernel
theorem d_HI_init_20 : decode b_HI_init 20 = .ok (.iconst 4, 1) := by decide +kernel
theorem d_HI_init_21 : decode b_HI_init 21 = .ok (.if_icmp .ge 22, 3) := by decide +kernel
theorem d_HI_init_24 : decode b_HI_init 24 = .ok (.aload_n 0, 1) := by decide +kernel
theorem d_HI_init_25 : decode b_HI_init 25 = .ok (.getfield 11, 3) := by decide +kernel
theorem d_HI_init_28 : decode b_HI_init 28 = .ok (.iload_n 1, 1) := by decide +kernel
theorem d_HI_init_29 : decode b_HI_init 29 = .ok (.new 9, 3) := by decide +kernel
theorem d_HI_init_32 : decode b_HI_init 32 = .ok (.dup, 1) := by decide +kernel
theorem d_HI_init_33 : decode b_HI_init 33 = .ok (.invokespecial 21, 3) := by decide +kernel
theorem d_HI_init_36 : decode b_HI_init 36 = .ok (.aastore, 1) := by decide +kernel
theorem d_HI_init_37 : decode b_HI_init 37 = .ok (.iinc 1 1, 3) := by decide +kernel
theorem d_HI_init_40 : decode b_HI_init 40 = .ok (.goto (-21), 3) := by decide +kernel
theorem d_HI_init_43 : decode b_HI_init 43 = .ok (.return_, 1) := by decide +kernel
theorem d_HI_held_0 : decode b_HI_held 0 = .ok (.aload_n 0, 1) := by decide +kernel
theorem d_HI_held_1 : decode b_HI_held 1 = .ok (.getfield 17, 3) := by decide +kernel
theorem d_HI_held_4 : decode b_HI_held 4 = .ok (.ireturn, 1) := by decide +kernel
theorem d_HI_record_0 : decode b_HI_record 0 = .ok (.aload_n 0, 1) := by decide +kernel
theorem d_HI_record_1 : decode b_HI_record 1 = .ok (.getfield 17, 3) := by decide +kernel
theorem d_HI_record_4 : decode b_HI_record 4 = .ok (.iconst 4, 1) := by decide +kernel
theorem d_HI_record_5 : decode b_HI_record 5 = .ok (.if_icmp .lt 7, 3) := by decide +kernel
theorem d_HI_record_8 : decode b_HI_record 8 = .ok (.aload_n 0, 1) := by decide +kernel
theorem d_HI_record_9 : decode b_HI_record 9 = .ok (.invokevirtual 22, 3) := by decide +kernel
theorem d_HI_record_12 : decode b_HI_record 12 = .ok (.aload_n 0, 1) := by decide +kernel
theorem d_HI_record_13 : decode b_HI_record 13 = .ok (.getfield 11, 3) := by decide +kernel
theorem d_HI_record_16 : decode b_HI_record 16 = .ok (.aload_n 0, 1) := by decide +kernel
theorem d_HI_record_17 : decode b_HI_record 17 = .ok (.getfield 17, 3) := by decide +kernel
theorem d_HI_record_20 : decode b_HI_record 20 = .ok (.aaload, 1) := by decide +kernel
theorem d_HI_record_21 : decode b_HI_record 21 = .ok (.aload_n 1, 1) := by decide +kernel
theorem d_HI_record_22 : decode b_HI_record 22 = .ok (.invokevirtual 25, 3) := by decide +kernel
theorem d_HI_record_25 : decode b_HI_record 25 = .ok (.aload_n 0, 1) := by decide +kernel
theorem d_HI_record_26 : decode b_HI_record 26 = .ok (.dup, 1) := by decide +kernel
theorem d_HI_record_27 : decode b_HI_record 27 = .ok (.getfield 17, 3) := by decide +kernel
theorem d_HI_record_30 : decode b_HI_record 30 = .ok (.iconst 1, 1) := by decide +kernel
theorem d_HI_record_31 : decode b_HI_record 31 = .ok (.iadd, 1) := by decide +kernel
theorem d_HI_record_32 : decode b_HI_record 32 = .ok (.putfield 17, 3) := by decide +kernel
theorem d_HI_record_35 : decode b_HI_record 35 = .ok (.return_, 1) := by decide +kernel
theorem d_HI_dropOldest_0 : decode b_HI_dropOldest 0 = .ok (.aload_n 0, 1) := by decide +kernel
theorem d_HI_dropOldest_1 : decode b_HI_dropOldest 1 = .ok (.getfield 11, 3) := by decide +kernel
theorem d_HI_dropOldest_4 : decode b_HI_dropOldest 4 = .ok (.iconst 0, 1) := by decide +kernel
theorem d_HI_dropOldest_5 : decode b_HI_dropOldest 5 = .ok (.aaload, 1) := by decide +kernel
theorem d_HI_dropOldest_6 : decode b_HI_dropOldest 6 = .ok (.astore_n 1, 1) := by decide +kernel
theorem d_HI_dropOldest_7 : decode b_HI_dropOldest 7 = .ok (.iconst 1, 1) := by decide +kernel
theorem d_HI_dropOldest_8 : decode b_HI_dropOldest 8 = .ok (.istore_n 2, 1) := by decide +kernel
theorem d_HI_dropOldest_9 : decode b_HI_dropOldest 9 = .ok (.iload_n 2, 1) := by decide +kernel
theorem d_HI_dropOldest_10 : decode b_HI_dropOldest 10 = .ok (.iconst 4, 1) := by decide +kernel
theorem d_HI_dropOldest_11 : decode b_HI_dropOldest 11 = .ok (.if_icmp .ge 23, 3) := by decide +kernel
theorem d_HI_dropOldest_14 : decode b_HI_dropOldest 14 = .ok (.aload_n 0, 1) := by decide +kernel
theorem d_HI_dropOldest_15 : decode b_HI_dropOldest 15 = .ok (.getfield 11, 3) := by decide +kernel
theorem d_HI_dropOldest_18 : decode b_HI_dropOldest 18 = .ok (.iload_n 2, 1) := by decide +kernel
theorem d_HI_dropOldest_19 : decode b_HI_dropOldest 19 = .ok (.iconst 1, 1) := by decide +kernel
theorem d_HI_dropOldest_20 : decode b_HI_dropOldest 20 = .ok (.isub, 1) := by decide +kernel
theorem d_HI_dropOldest_21 : decode b_HI_dropOldest 21 = .ok (.aload_n 0, 1) := by decide +kernel
theorem d_HI_dropOldest_22 : decode b_HI_dropOldest 22 = .ok (.getfield 11, 3) := by decide +kernel
theorem d_HI_dropOldest_25 : decode b_HI_dropOldest 25 = .ok (.iload_n 2, 1) := by decide +kernel
theorem d_HI_dropOldest_26 : decode b_HI_dropOldest 26 = .ok (.aaload, 1) := by decide +kernel
theorem d_HI_dropOldest_27 : decode b_HI_dropOldest 27 = .ok (.aastore, 1) := by decide +kernel
theorem d_HI_dropOldest_28 : decode b_HI_dropOldest 28 = .ok (.iinc 2 1, 3) := by decide +kernel
theorem d_HI_dropOldest_31 : decode b_HI_dropOldest 31 = .ok (.goto (-22), 3) := by decide +kernel
theorem d_HI_dropOldest_34 : decode b_HI_dropOldest 34 = .ok (.aload_n 0, 1) := by decide +kernel
theorem d_HI_dropOldest_35 : decode b_HI_dropOldest 35 = .ok (.getfield 11, 3) := by decide +kernel
theorem d_HI_dropOldest_38 : decode b_HI_dropOldest 38 = .ok (.iconst 3, 1) := by decide +kernel
theorem d_HI_dropOldest_39 : decode b_HI_dropOldest 39 = .ok (.aload_n 1, 1) := by decide +kernel
theorem d_HI_dropOldest_40 : decode b_HI_dropOldest 40 = .ok (.aastore, 1) := by decide +kernel
theorem d_HI_dropOldest_41 : decode b_HI_dropOldest 41 = .ok (.aload_n 0, 1) := by decide +kernel
theorem d_HI_dropOldest_42 : decode b_HI_dropOldest 42 = .ok (.iconst 3, 1) := by decide +kernel
theorem d_HI_dropOldest_43 : decode b_HI_dropOldest 43 = .ok (.putfield 17, 3) := by decide +kernel
theorem d_HI_dropOldest_46 : decode b_HI_dropOldest 46 = .ok (.return_, 1) := by decide +kernel
theorem d_HI_takeBack_0 : decode b_HI_takeBack 0 = .ok (.aload_n 0, 1) := by decide +kernel
theorem d_HI_takeBack_1 : decode b_HI_takeBack 1 = .ok (.getfield 17, 3) := by decide +kernel
theorem d_HI_takeBack_4 : decode b_HI_takeBack 4 = .ok (.iconst 1, 1) := by decide +kernel
theorem d_HI_takeBack_5 : decode b_HI_takeBack 5 = .ok (.if_icmp .ge 5, 3) := by decide +kernel
theorem d_HI_takeBack_8 : decode b_HI_takeBack 8 = .ok (.iconst 0, 1) := by decide +kernel
theorem d_HI_takeBack_9 : decode b_HI_takeBack 9 = .ok (.ireturn, 1) := by decide +kernel
theorem d_HI_takeBack_10 : decode b_HI_takeBack 10 = .ok (.aload_n 0, 1) := by decide +kernel
theorem d_HI_takeBack_11 : decode b_HI_takeBack 11 = .ok (.dup, 1) := by decide +kernel
theorem d_HI_takeBack_12 : decode b_HI_takeBack 12 = .ok (.getfield 17, 3) := by decide +kernel
theorem d_HI_takeBack_15 : decode b_HI_takeBack 15 = .ok (.iconst 1, 1) := by decide +kernel
theorem d_HI_takeBack_16 : decode b_HI_takeBack 16 = .ok (.isub, 1) := by decide +kernel
theorem d_HI_takeBack_17 : decode b_HI_takeBack 17 = .ok (.putfield 17, 3) := by decide +kernel
theorem d_HI_takeBack_20 : decode b_HI_takeBack 20 = .ok (.aload_n 1, 1) := by decide +kernel
theorem d_HI_takeBack_21 : decode b_HI_takeBack 21 = .ok (.aload_n 0, 1) := by decide +kernel
theorem d_HI_takeBack_22 : decode b_HI_takeBack 22 = .ok (.getfield 11, 3) := by decide +kernel
theorem d_HI_takeBack_25 : decode b_HI_takeBack 25 = .ok (.aload_n 0, 1) := by decide +kernel
theorem d_HI_takeBack_26 : decode b_HI_takeBack 26 = .ok (.getfield 17, 3) := by decide +kernel
theorem d_HI_takeBack_29 : decode b_HI_takeBack 29 = .ok (.aaload, 1) := by decide +kernel
theorem d_HI_takeBack_30 : decode b_HI_takeBack 30 = .ok (.invokevirtual 25, 3) := by decide +kernel
theorem d_HI_takeBack_33 : decode b_HI_takeBack 33 = .ok (.iconst 1, 1) := by decide +kernel
theorem d_HI_takeBack_34 : decode b_HI_takeBack 34 = .ok (.ireturn, 1) := by decide +kernel
theorem d_LE_init_0 : decode b_LE_init 0 = .ok (.aload_n 0, 1) := by decide +kernel
theorem d_LE_init_1 : decode b_LE_init 1 = .ok (.invokespecial 3, 3) := by decide +kernel
theorem d_LE_init_4 : decode b_LE_init 4 = .ok (.aload_n 0, 1) := by decide +kernel
theorem d_LE_init_5 : decode b_LE_init 5 = .ok (.iconst 0, 1) := by decide +kernel
theorem d_LE_init_6 : decode b_LE_init 6 = .ok (.putfield 9, 3) := by decide +kernel
theorem d_LE_init_9 : decode b_LE_init 9 = .ok (.aload_n 0, 1) := by decide +kernel
theorem d_LE_init_10 : decode b_LE_init 10 = .ok (.iload_n 1, 1) := by decide +kernel
theorem d_LE_init_11 : decode b_LE_init 11 = .ok (.iconst 0, 1) := by decide +kernel
theorem d_LE_init_12 : decode b_LE_init 12 = .ok (.invokestatic 15, 3) := by decide +kernel
theorem d_LE_init_15 : decode b_LE_init 15 = .ok (.newarray .int, 2) := by decide +kernel
theorem d_LE_init_17 : decode b_LE_init 17 = .ok (.putfield 21, 3) := by decide +kernel
theorem d_LE_init_20 : decode b_LE_init 20 = .ok (.return_, 1) := by decide +kernel
theorem d_LE_length_0 : decode b_LE_length 0 = .ok (.aload_n 0, 1) := by decide +kernel
theorem d_LE_length_1 : decode b_LE_length 1 = .ok (.getfield 9, 3) := by decide +kernel
theorem d_LE_length_4 : decode b_LE_length 4 = .ok (.ireturn, 1) := by decide +kernel
theorem d_LE_letterAt_0 : decode b_LE_letterAt 0 = .ok (.iload_n 1, 1) := by decide +kernel
theorem d_LE_letterAt_1 : decode b_LE_letterAt 1 = .ok (.ifCond .lt 20, 3) := by decide +kernel
theorem d_LE_letterAt_4 : decode b_LE_letterAt 4 = .ok (.iload_n 1, 1) := by decide +kernel
theorem d_LE_letterAt_5 : decode b_LE_letterAt 5 = .ok (.aload_n 0, 1) := by decide +kernel
theorem d_LE_letterAt_6 : decode b_LE_letterAt 6 = .ok (.getfield 9, 3) := by decide +kernel
theorem d_LE_letterAt_9 : decode b_LE_letterAt 9 = .ok (.if_icmp .ge 12, 3) := by decide +kernel
theorem d_LE_letterAt_12 : decode b_LE_letterAt 12 = .ok (.aload_n 0, 1) := by decide +kernel
theorem d_LE_letterAt_13 : decode b_LE_letterAt 13 = .ok (.getfield 21, 3) := by decide +kernel
theorem d_LE_letterAt_16 : decode b_LE_letterAt 16 = .ok (.iload_n 1, 1) := by decide +kernel
theorem d_LE_letterAt_17 : decode b_LE_letterAt 17 = .ok (.iaload, 1) := by decide +kernel
theorem d_LE_letterAt_18 : decode b_LE_letterAt 18 = .ok (.goto 4, 3) := by decide +kernel
theorem d_LE_letterAt_21 : decode b_LE_letterAt 21 = .ok (.iconst (-1), 1) := by decide +kernel
theorem d_LE_letterAt_22 : decode b_LE_letterAt 22 = .ok (.ireturn, 1) := by decide +kernel
theorem d_LE_clear_0 : decode b_LE_clear 0 = .ok (.aload_n 0, 1) := by decide +kernel
theorem d_LE_clear_1 : decode b_LE_clear 1 = .ok (.iconst 0, 1) := by decide +kernel
theorem d_LE_clear_2 : decode b_LE_clear 2 = .ok (.putfield 9, 3) := by decide +kernel
theorem d_LE_clear_5 : decode b_LE_clear 5 = .ok (.return_, 1) := by decide +kernel
theorem d_LE_add_0 : decode b_LE_add 0 = .ok (.iload_n 1, 1) := by decide +kernel
theorem d_LE_add_1 : decode b_LE_add 1 = .ok (.invokestatic 25, 3) := by decide +kernel
theorem d_LE_add_4 : decode b_LE_add 4 = .ok (.ifCond .eq 15, 3) := by decide +kernel
theorem d_LE_add_7 : decode b_LE_add 7 = .ok (.aload_n 0, 1) := by decide +kernel
theorem d_LE_add_8 : decode b_LE_add 8 = .ok (.getfield 9, 3) := by decide +kernel
theorem d_LE_add_11 : decode b_LE_add 11 = .ok (.aload_n 0, 1) := by decide +kernel
theorem d_LE_add_12 : decode b_LE_add 12 = .ok (.getfield 21, 3) := by decide +kernel
theorem d_LE_add_15 : decode b_LE_add 15 = .ok (.arraylength, 1) := by decide +kernel
theorem d_LE_add_16 : decode b_LE_add 16 = .ok (.if_icmp .lt 5, 3) := by decide +kernel
theorem d_LE_add_19 : decode b_LE_add 19 = .ok (.iconst 0, 1) := by decide +kernel
theorem d_LE_add_20 : decode b_LE_add 20 = .ok (.ireturn, 1) := by decide +kernel
theorem d_LE_add_21 : decode b_LE_add 21 = .ok (.aload_n 0, 1) := by decide +kernel
theorem d_LE_add_22 : decode b_LE_add 22 = .ok (.getfield 21, 3) := by decide +kernel
theorem d_LE_add_25 : decode b_LE_add 25 = .ok (.aload_n 0, 1) := by decide +kernel
theorem d_LE_add_26 : decode b_LE_add 26 = .ok (.getfield 9, 3) := by decide +kernel
theorem d_LE_add_29 : decode b_LE_add 29 = .ok (.iload_n 1, 1) := by decide +kernel
theorem d_LE_add_30 : decode b_LE_add 30 = .ok (.iastore, 1) := by decide +kernel
theorem d_LE_add_31 : decode b_LE_add 31 = .ok (.aload_n 0, 1) := by decide +kernel
theorem d_LE_add_32 : decode b_LE_add 32 = .ok (.dup, 1) := by decide +kernel
theorem d_LE_add_33 : decode b_LE_add 33 = .ok (.getfield 9, 3) := by decide +kernel
theorem d_LE_add_36 : decode b_LE_add 36 = .ok (.iconst 1, 1) := by decide +kernel
theorem d_LE_add_37 : decode b_LE_add 37 = .ok (.iadd, 1) := by decide +kernel
theorem d_LE_add_38 : decode b_LE_add 38 = .ok (.putfield 9, 3) := by decide +kernel
theorem d_LE_add_41 : decode b_LE_add 41 = .ok (.iconst 1, 1) := by decide +kernel
theorem d_LE_add_42 : decode b_LE_add 42 = .ok (.ireturn, 1) := by decide +kernel
theorem d_LE_addAll_0 : decode b_LE_addAll 0 = .ok (.iconst 0, 1) := by decide +kernel
theorem d_LE_addAll_1 : decode b_LE_addAll 1 = .ok (.istore_n 2, 1) := by decide +kernel
theorem d_LE_addAll_2 : decode b_LE_addAll 2 = .ok (.iload_n 2, 1) := by decide +kernel
theorem d_LE_addAll_3 : decode b_LE_addAll 3 = .ok (.aload_n 1, 1) := by decide +kernel
theorem d_LE_addAll_4 : decode b_LE_addAll 4 = .ok (.getfield 9, 3) := by decide +kernel
theorem d_LE_addAll_7 : decode b_LE_addAll 7 = .ok (.if_icmp .ge 23, 3) := by decide +kernel
theorem d_LE_addAll_10 : decode b_LE_addAll 10 = .ok (.aload_n 0, 1) := by decide +kernel
theorem d_LE_addAll_11 : decode b_LE_addAll 11 = .ok (.aload_n 1, 1) := by decide +kernel
theorem d_LE_addAll_12 : decode b_LE_addAll 12 = .ok (.iload_n 2, 1) := by decide +kernel
theorem d_LE_addAll_13 : decode b_LE_addAll 13 = .ok (.invokevirtual 29, 3) := by decide +kernel
theorem d_LE_addAll_16 : decode b_LE_addAll 16 = .ok (.invokevirtual 33, 3) := by decide +kernel
theorem d_LE_addAll_19 : decode b_LE_addAll 19 = .ok (.ifCond .ne 5, 3) := by decide +kernel
theorem d_LE_addAll_22 : decode b_LE_addAll 22 = .ok (.iconst 0, 1) := by decide +kernel
theorem d_LE_addAll_23 : decode b_LE_addAll 23 = .ok (.ireturn, 1) := by decide +kernel
theorem d_LE_addAll_24 : decode b_LE_addAll 24 = .ok (.iinc 2 1, 3) := by decide +kernel
theorem d_LE_addAll_27 : decode b_LE_addAll 27 = .ok (.goto (-25), 3) := by decide +kernel
theorem d_LE_addAll_30 : decode b_LE_addAll 30 = .ok (.iconst 1, 1) := by decide +kernel
theorem d_LE_addAll_31 : decode b_LE_addAll 31 = .ok (.ireturn, 1) := by decide +kernel
theorem d_LE_shorten_0 : decode b_LE_shorten 0 = .ok (.iload_n 1, 1) := by decide +kernel
theorem d_LE_shorten_1 : decode b_LE_shorten 1 = .ok (.ifCond .lt 16, 3) := by decide +kernel
theorem d_LE_shorten_4 : decode b_LE_shorten 4 = .ok (.iload_n 1, 1) := by decide +kernel
theorem d_LE_shorten_5 : decode b_LE_shorten 5 = .ok (.aload_n 0, 1) := by decide +kernel
theorem d_LE_shorten_6 : decode b_LE_shorten 6 = .ok (.getfield 9, 3) := by decide +kernel
theorem d_LE_shorten_9 : decode b_LE_shorten 9 = .ok (.if_icmp .ge 8, 3) := by decide +kernel
theorem d_LE_shorten_12 : decode b_LE_shorten 12 = .ok (.aload_n 0, 1) := by decide +kernel
theorem d_LE_shorten_13 : decode b_LE_shorten 13 = .ok (.iload_n 1, 1) := by decide +kernel
theorem d_LE_shorten_14 : decode b_LE_shorten 14 = .ok (.putfield 9, 3) := by decide +kernel
theorem d_LE_shorten_17 : decode b_LE_shorten 17 = .ok (.return_, 1) := by decide +kernel
theorem d_LE_become_0 : decode b_LE_become 0 = .ok (.aload_n 1, 1) := by decide +kernel
theorem d_LE_become_1 : decode b_LE_become 1 = .ok (.getfield 9, 3) := by decide +kernel
theorem d_LE_become_4 : decode b_LE_become 4 = .ok (.aload_n 0, 1) := by decide +kernel
theorem d_LE_become_5 : decode b_LE_become 5 = .ok (.getfield 21, 3) := by decide +kernel
theorem d_LE_become_8 : decode b_LE_become 8 = .ok (.arraylength, 1) := by decide +kernel
theorem d_LE_become_9 : decode b_LE_become 9 = .ok (.invokestatic 36, 3) := by decide +kernel
theorem d_LE_become_12 : decode b_LE_become 12 = .ok (.istore_n 2, 1) := by decide +kernel
theorem d_LE_become_13 : decode b_LE_become 13 = .ok (.aload_n 1, 1) := by decide +kernel
theorem d_LE_become_14 : decode b_LE_become 14 = .ok (.getfield 21, 3) := by decide +kernel
theorem d_LE_become_17 : decode b_LE_become 17 = .ok (.iconst 0, 1) := by decide +kernel
theorem d_LE_become_18 : decode b_LE_become 18 = .ok (.aload_n 0, 1) := by decide +kernel
theorem d_LE_become_19 : decode b_LE_become 19 = .ok (.getfield 21, 3) := by decide +kernel
theorem d_LE_become_22 : decode b_LE_become 22 = .ok (.iconst 0, 1) := by decide +kernel
theorem d_LE_become_23 : decode b_LE_become 23 = .ok (.iload_n 2, 1) := by decide +kernel
theorem d_LE_become_24 : decode b_LE_become 24 = .ok (.invokestatic 39, 3) := by decide +kernel
theorem d_LE_become_27 : decode b_LE_become 27 = .ok (.aload_n 0, 1) := by decide +kernel
theorem d_LE_become_28 : decode b_LE_become 28 = .ok (.iload_n 2, 1) := by decide +kernel
theorem d_LE_become_29 : decode b_LE_become 29 = .ok (.putfield 9, 3) := by decide +kernel
theorem d_LE_become_32 : decode b_LE_become 32 = .ok (.return_, 1) := by decide +kernel
theorem d_LE_same_0 : decode b_LE_same 0 = .ok (.aload_n 0, 1) := by decide +kernel
theorem d_LE_same_1 : decode b_LE_same 1 = .ok (.getfield 9, 3) := by decide +kernel
theorem d_LE_same_4 : decode b_LE_same 4 = .ok (.aload_n 1, 1) := by decide +kernel
theorem d_LE_same_5 : decode b_LE_same 5 = .ok (.getfield 9, 3) := by decide +kernel
theorem d_LE_same_8 : decode b_LE_same 8 = .ok (.if_icmp .ne 16, 3) := by decide +kernel
theorem d_LE_same_11 : decode b_LE_same 11 = .ok (.aload_n 0, 1) := by decide +kernel
theorem d_LE_same_12 : decode b_LE_same 12 = .ok (.iconst 0, 1) := by decide +kernel
theorem d_LE_same_13 : decode b_LE_same 13 = .ok (.aload_n 1, 1) := by decide +kernel
theorem d_LE_same_14 : decode b_LE_same 14 = .ok (.invokevirtual 45, 3) := by decide +kernel
theorem d_LE_same_17 : decode b_LE_same 17 = .ok (.ifCond .eq 7, 3) := by decide +kernel
theorem d_LE_same_20 : decode b_LE_same 20 = .ok (.iconst 1, 1) := by decide +kernel
theorem d_LE_same_21 : decode b_LE_same 21 = .ok (.goto 4, 3) := by decide +kernel
theorem d_LE_same_24 : decode b_LE_same 24 = .ok (.iconst 0, 1) := by decide +kernel
theorem d_LE_same_25 : decode b_LE_same 25 = .ok (.ireturn, 1) := by decide +kernel
theorem d_LE_hasFrom_0 : decode b_LE_hasFrom 0 = .ok (.iconst 0, 1) := by decide +kernel
theorem d_LE_hasFrom_1 : decode b_LE_hasFrom 1 = .ok (.istore_n 3, 1) := by decide +kernel
theorem d_LE_hasFrom_2 : decode b_LE_hasFrom 2 = .ok (.iload_n 3, 1) := by decide +kernel
theorem d_LE_hasFrom_3 : decode b_LE_hasFrom 3 = .ok (.aload_n 2, 1) := by decide +kernel
theorem d_LE_hasFrom_4 : decode b_LE_hasFrom 4 = .ok (.getfield 9, 3) := by decide +kernel
theorem d_LE_hasFrom_7 : decode b_LE_hasFrom 7 = .ok (.if_icmp .ge 26, 3) := by decide +kernel
theorem d_LE_hasFrom_10 : decode b_LE_hasFrom 10 = .ok (.aload_n 0, 1) := by decide +kernel
theorem d_LE_hasFrom_11 : decode b_LE_hasFrom 11 = .ok (.iload_n 1, 1) := by decide +kernel
theorem d_LE_hasFrom_12 : decode b_LE_hasFrom 12 = .ok (.iload_n 3, 1) := by decide +kernel
theorem d_LE_hasFrom_13 : decode b_LE_hasFrom 13 = .ok (.iadd, 1) := by decide +kernel
theorem d_LE_hasFrom_14 : decode b_LE_hasFrom 14 = .ok (.invokevirtual 29, 3) := by decide +kernel
theorem d_LE_hasFrom_17 : decode b_LE_hasFrom 17 = .ok (.aload_n 2, 1) := by decide +kernel
theorem d_LE_hasFrom_18 : decode b_LE_hasFrom 18 = .ok (.iload_n 3, 1) := by decide +kernel
theorem d_LE_hasFrom_19 : decode b_LE_hasFrom 19 = .ok (.invokevirtual 29, 3) := by decide +kernel
theorem d_LE_hasFrom_22 : decode b_LE_hasFrom 22 = .ok (.if_icmp .eq 5, 3) := by decide +kernel
theorem d_LE_hasFrom_25 : decode b_LE_hasFrom 25 = .ok (.iconst 0, 1) := by decide +kernel
theorem d_LE_hasFrom_26 : decode b_LE_hasFrom 26 = .ok (.ireturn, 1) := by decide +kernel
theorem d_LE_hasFrom_27 : decode b_LE_hasFrom 27 = .ok (.iinc 3 1, 3) := by decide +kernel
theorem d_LE_hasFrom_30 : decode b_LE_hasFrom 30 = .ok (.goto (-28), 3) := by decide +kernel
theorem d_LE_hasFrom_33 : decode b_LE_hasFrom 33 = .ok (.iconst 1, 1) := by decide +kernel
theorem d_LE_hasFrom_34 : decode b_LE_hasFrom 34 = .ok (.ireturn, 1) := by decide +kernel
theorem d_LE_repeats_0 : decode b_LE_repeats 0 = .ok (.iconst 0, 1) := by decide +kernel
theorem d_LE_repeats_1 : decode b_LE_repeats 1 = .ok (.istore 4, 2) := by decide +kernel
theorem d_LE_repeats_3 : decode b_LE_repeats 3 = .ok (.iload 4, 2) := by decide +kernel
theorem d_LE_repeats_5 : decode b_LE_repeats 5 = .ok (.iload_n 3, 1) := by decide +kernel
theorem d_LE_repeats_6 : decode b_LE_repeats 6 = .ok (.if_icmp .ge 30, 3) := by decide +kernel
theorem d_LE_repeats_9 : decode b_LE_repeats 9 = .ok (.aload_n 0, 1) := by decide +kernel
theorem d_LE_repeats_10 : decode b_LE_repeats 10 = .ok (.iload_n 1, 1) := by decide +kernel
theorem d_LE_repeats_11 : decode b_LE_repeats 11 = .ok (.iload 4, 2) := by decide +kernel
theorem d_LE_repeats_13 : decode b_LE_repeats 13 = .ok (.iadd, 1) := by decide +kernel
theorem d_LE_repeats_14 : decode b_LE_repeats 14 = .ok (.invokevirtual 29, 3) := by decide +kernel
theorem d_LE_repeats_17 : decode b_LE_repeats 17 = .ok (.aload_n 0, 1) := by decide +kernel
theorem d_LE_repeats_18 : decode b_LE_repeats 18 = .ok (.iload_n 2, 1) := by decide +kernel
theorem d_LE_repeats_19 : decode b_LE_repeats 19 = .ok (.iload 4, 2) := by decide +kernel
theorem d_LE_repeats_21 : decode b_LE_repeats 21 = .ok (.iadd, 1) := by decide +kernel
theorem d_LE_repeats_22 : decode b_LE_repeats 22 = .ok (.invokevirtual 29, 3) := by decide +kernel
theorem d_LE_repeats_25 : decode b_LE_repeats 25 = .ok (.if_icmp .eq 5, 3) := by decide +kernel
theorem d_LE_repeats_28 : decode b_LE_repeats 28 = .ok (.iconst 0, 1) := by decide +kernel
theorem d_LE_repeats_29 : decode b_LE_repeats 29 = .ok (.ireturn, 1) := by decide +kernel
theorem d_LE_repeats_30 : decode b_LE_repeats 30 = .ok (.iinc 4 1, 3) := by decide +kernel
theorem d_LE_repeats_33 : decode b_LE_repeats 33 = .ok (.goto (-30), 3) := by decide +kernel
theorem d_LE_repeats_36 : decode b_LE_repeats 36 = .ok (.iconst 1, 1) := by decide +kernel
theorem d_LE_repeats_37 : decode b_LE_repeats 37 = .ok (.ireturn, 1) := by decide +kernel
theorem d_LE_isMirrored_0 : decode b_LE_isMirrored 0 = .ok (.iconst 0, 1) := by decide +kernel
theorem d_LE_isMirrored_1 : decode b_LE_isMirrored 1 = .ok (.istore_n 3, 1) := by decide +kernel
theorem d_LE_isMirrored_2 : decode b_LE_isMirrored 2 = .ok (.iload_n 3, 1) := by decide +kernel
theorem d_LE_isMirrored_3 : decode b_LE_isMirrored 3 = .ok (.iload_n 2, 1) := by decide +kernel
theorem d_LE_isMirrored_4 : decode b_LE_isMirrored 4 = .ok (.iconst 2, 1) := by decide +kernel
theorem d_LE_isMirrored_5 : decode b_LE_isMirrored 5 = .ok (.idiv, 1) := by decide +kernel
theorem d_LE_isMirrored_6 : decode b_LE_isMirrored 6 = .ok (.if_icmp .ge 32, 3) := by decide +kernel
theorem d_LE_isMirrored_9 : decode b_LE_isMirrored 9 = .ok (.aload_n 0, 1) := by decide +kernel
theorem d_LE_isMirrored_10 : decode b_LE_isMirrored 10 = .ok (.iload_n 1, 1) := by decide +kernel
theorem d_LE_isMirrored_11 : decode b_LE_isMirrored 11 = .ok (.iload_n 3, 1) := by decide +kernel
theorem d_LE_isMirrored_12 : decode b_LE_isMirrored 12 = .ok (.iadd, 1) := by decide +kernel
theorem d_LE_isMirrored_13 : decode b_LE_isMirrored 13 = .ok (.invokevirtual 29, 3) := by decide +kernel
theorem d_LE_isMirrored_16 : decode b_LE_isMirrored 16 = .ok (.aload_n 0, 1) := by decide +kernel
theorem d_LE_isMirrored_17 : decode b_LE_isMirrored 17 = .ok (.iload_n 1, 1) := by decide +kernel
theorem d_LE_isMirrored_18 : decode b_LE_isMirrored 18 = .ok (.iload_n 2, 1) := by decide +kernel
theorem d_LE_isMirrored_19 : decode b_LE_isMirrored 19 = .ok (.iadd, 1) := by decide +kernel
theorem d_LE_isMirrored_20 : decode b_LE_isMirrored 20 = .ok (.iconst 1, 1) := by decide +kernel
theorem d_LE_isMirrored_21 : decode b_LE_isMirrored 21 = .ok (.isub, 1) := by decide +kernel
theorem d_LE_isMirrored_22 : decode b_LE_isMirrored 22 = .ok (.iload_n 3, 1) := by decide +kernel
theorem d_LE_isMirrored_23 : decode b_LE_isMirrored 23 = .ok (.isub, 1) := by decide +kernel
theorem d_LE_isMirrored_24 : decode b_LE_isMirrored 24 = .ok (.invokevirtual 29, 3) := by decide +kernel
theorem d_LE_isMirrored_27 : decode b_LE_isMirrored 27 = .ok (.if_icmp .eq 5, 3) := by decide +kernel
theorem d_LE_isMirrored_30 : decode b_LE_isMirrored 30 = .ok (.iconst 0, 1) := by decide +kernel
theorem d_LE_isMirrored_31 : decode b_LE_isMirrored 31 = .ok (.ireturn, 1) := by decide +kernel
theorem d_LE_isMirrored_32 : decode b_LE_isMirrored 32 = .ok (.iinc 3 1, 3) := by decide +kernel
theorem d_LE_isMirrored_35 : decode b_LE_isMirrored 35 = .ok (.goto (-33), 3) := by decide +kernel
theorem d_LE_isMirrored_38 : decode b_LE_isMirrored 38 = .ok (.iconst 1, 1) := by decide +kernel
theorem d_LE_isMirrored_39 : decode b_LE_isMirrored 39 = .ok (.ireturn, 1) := by decide +kernel
theorem d_LE_bits_0 : decode b_LE_bits 0 = .ok (.iconst 0, 1) := by decide +kernel
theorem d_LE_bits_1 : decode b_LE_bits 1 = .ok (.istore_n 1, 1) := by decide +kernel
theorem d_LE_bits_2 : decode b_LE_bits 2 = .ok (.iconst 0, 1) := by decide +kernel
theorem d_LE_bits_3 : decode b_LE_bits 3 = .ok (.istore_n 2, 1) := by decide +kernel
theorem d_LE_bits_4 : decode b_LE_bits 4 = .ok (.iload_n 2, 1) := by decide +kernel
theorem d_LE_bits_5 : decode b_LE_bits 5 = .ok (.aload_n 0, 1) := by decide +kernel
theorem d_LE_bits_6 : decode b_LE_bits 6 = .ok (.getfield 9, 3) := by decide +kernel
theorem d_LE_bits_9 : decode b_LE_bits 9 = .ok (.if_icmp .ge 19, 3) := by decide +kernel
theorem d_LE_bits_12 : decode b_LE_bits 12 = .ok (.iload_n 1, 1) := by decide +kernel
theorem d_LE_bits_13 : decode b_LE_bits 13 = .ok (.iconst 1, 1) := by decide +kernel
theorem d_LE_bits_14 : decode b_LE_bits 14 = .ok (.aload_n 0, 1) := by decide +kernel
theorem d_LE_bits_15 : decode b_LE_bits 15 = .ok (.iload_n 2, 1) := by decide +kernel
theorem d_LE_bits_16 : decode b_LE_bits 16 = .ok (.invokevirtual 29, 3) := by decide +kernel
theorem d_LE_bits_19 : decode b_LE_bits 19 = .ok (.ishl, 1) := by decide +kernel
theorem d_LE_bits_20 : decode b_LE_bits 20 = .ok (.ior, 1) := by decide +kernel
theorem d_LE_bits_21 : decode b_LE_bits 21 = .ok (.istore_n 1, 1) := by decide +kernel
theorem d_LE_bits_22 : decode b_LE_bits 22 = .ok (.iinc 2 1, 3) := by decide +kernel
theorem d_LE_bits_25 : decode b_LE_bits 25 = .ok (.goto (-21), 3) := by decide +kernel
theorem d_LE_bits_28 : decode b_LE_bits 28 = .ok (.iload_n 1, 1) := by decide +kernel
theorem d_LE_bits_29 : decode b_LE_bits 29 = .ok (.ireturn, 1) := by decide +kernel
theorem d_LE_countOf_0 : decode b_LE_countOf 0 = .ok (.iconst 0, 1) := by decide +kernel
theorem d_LE_countOf_1 : decode b_LE_countOf 1 = .ok (.istore_n 2, 1) := by decide +kernel
theorem d_LE_countOf_2 : decode b_LE_countOf 2 = .ok (.iconst 0, 1) := by decide +kernel
theorem d_LE_countOf_3 : decode b_LE_countOf 3 = .ok (.istore_n 3, 1) := by decide +kernel
theorem d_LE_countOf_4 : decode b_LE_countOf 4 = .ok (.iload_n 3, 1) := by decide +kernel
theorem d_LE_countOf_5 : decode b_LE_countOf 5 = .ok (.aload_n 0, 1) := by decide +kernel
theorem d_LE_countOf_6 : decode b_LE_countOf 6 = .ok (.getfield 9, 3) := by decide +kernel
theorem d_LE_countOf_9 : decode b_LE_countOf 9 = .ok (.if_icmp .ge 21, 3) := by decide +kernel
theorem d_LE_countOf_12 : decode b_LE_countOf 12 = .ok (.aload_n 0, 1) := by decide +kernel
theorem d_LE_countOf_13 : decode b_LE_countOf 13 = .ok (.iload_n 3, 1) := by decide +kernel
theorem d_LE_countOf_14 : decode b_LE_countOf 14 = .ok (.invokevirtual 29, 3) := by decide +kernel
theorem d_LE_countOf_17 : decode b_LE_countOf 17 = .ok (.iload_n 1, 1) := by decide +kernel
theorem d_LE_countOf_18 : decode b_LE_countOf 18 = .ok (.if_icmp .ne 6, 3) := by decide +kernel
theorem d_LE_countOf_21 : decode b_LE_countOf 21 = .ok (.iinc 2 1, 3) := by decide +kernel
theorem d_LE_countOf_24 : decode b_LE_countOf 24 = .ok (.iinc 3 1, 3) := by decide +kernel
theorem d_LE_countOf_27 : decode b_LE_countOf 27 = .ok (.goto (-23), 3) := by decide +kernel
theorem d_LE_countOf_30 : decode b_LE_countOf 30 = .ok (.iload_n 2, 1) := by decide +kernel
theorem d_LE_countOf_31 : decode b_LE_countOf 31 = .ok (.ireturn, 1) := by decide +kernel
theorem d_LE_exchange_0 : decode b_LE_exchange 0 = .ok (.iconst 0, 1) := by decide +kernel
theorem d_LE_exchange_1 : decode b_LE_exchange 1 = .ok (.istore_n 3, 1) := by decide +kernel
theorem d_LE_exchange_2 : decode b_LE_exchange 2 = .ok (.iload_n 3, 1) := by decide +kernel
theorem d_LE_exchange_3 : decode b_LE_exchange 3 = .ok (.aload_n 0, 1) := by decide +kernel
theorem d_LE_exchange_4 : decode b_LE_exchange 4 = .ok (.getfield 9, 3) := by decide +kernel
theorem d_LE_exchange_7 : decode b_LE_exchange 7 = .ok (.if_icmp .ge 55, 3) := by decide +kernel
theorem d_LE_exchange_10 : decode b_LE_exchange 10 = .ok (.iload_n 3, 1) := by decide +kernel
theorem d_LE_exchange_11 : decode b_LE_exchange 11 = .ok (.aload_n 0, 1) := by decide +kernel
theorem d_LE_exchange_12 : decode b_LE_exchange 12 = .ok (.getfield 21, 3) := by decide +kernel
theorem d_LE_exchange_15 : decode b_LE_exchange 15 = .ok (.arraylength, 1) := by decide +kernel
theorem d_LE_exchange_16 : decode b_LE_exchange 16 = .ok (.if_icmp .ge 46, 3) := by decide +kernel
theorem d_LE_exchange_19 : decode b_LE_exchange 19 = .ok (.aload_n 0, 1) := by decide +kernel
theorem d_LE_exchange_20 : decode b_LE_exchange 20 = .ok (.getfield 21, 3) := by decide +kernel
theorem d_LE_exchange_23 : decode b_LE_exchange 23 = .ok (.iload_n 3, 1) := by decide +kernel
theorem d_LE_exchange_24 : decode b_LE_exchange 24 = .ok (.iaload, 1) := by decide +kernel
theorem d_LE_exchange_25 : decode b_LE_exchange 25 = .ok (.iload_n 1, 1) := by decide +kernel
theorem d_LE_exchange_26 : decode b_LE_exchange 26 = .ok (.if_icmp .ne 13, 3) := by decide +kernel
theorem d_LE_exchange_29 : decode b_LE_exchange 29 = .ok (.aload_n 0, 1) := by decide +kernel
theorem d_LE_exchange_30 : decode b_LE_exchange 30 = .ok (.getfield 21, 3) := by decide +kernel
theorem d_LE_exchange_33 : decode b_LE_exchange 33 = .ok (.iload_n 3, 1) := by decide +kernel
theorem d_LE_exchange_34 : decode b_LE_exchange 34 = .ok (.iload_n 2, 1) := by decide +kernel
theorem d_LE_exchange_35 : decode b_LE_exchange 35 = .ok (.iastore, 1) := by decide +kernel
theorem d_LE_exchange_36 : decode b_LE_exchange 36 = .ok (.goto 20, 3) := by decide +kernel
theorem d_LE_exchange_39 : decode b_LE_exchange 39 = .ok (.aload_n 0, 1) := by decide +kernel
theorem d_LE_exchange_40 : decode b_LE_exchange 40 = .ok (.getfield 21, 3) := by decide +kernel
theorem d_LE_exchange_43 : decode b_LE_exchange 43 = .ok (.iload_n 3, 1) := by decide +kernel
theorem d_LE_exchange_44 : decode b_LE_exchange 44 = .ok (.iaload, 1) := by decide +kernel
theorem d_LE_exchange_45 : decode b_LE_exchange 45 = .ok (.iload_n 2, 1) := by decide +kernel
theorem d_LE_exchange_46 : decode b_LE_exchange 46 = .ok (.if_icmp .ne 10, 3) := by decide +kernel
theorem d_LE_exchange_49 : decode b_LE_exchange 49 = .ok (.aload_n 0, 1) := by decide +kernel
theorem d_LE_exchange_50 : decode b_LE_exchange 50 = .ok (.getfield 21, 3) := by decide +kernel
theorem d_LE_exchange_53 : decode b_LE_exchange 53 = .ok (.iload_n 3, 1) := by decide +kernel
theorem d_LE_exchange_54 : decode b_LE_exchange 54 = .ok (.iload_n 1, 1) := by decide +kernel
theorem d_LE_exchange_55 : decode b_LE_exchange 55 = .ok (.iastore, 1) := by decide +kernel
theorem d_LE_exchange_56 : decode b_LE_exchange 56 = .ok (.iinc 3 1, 3) := by decide +kernel
theorem d_LE_exchange_59 : decode b_LE_exchange 59 = .ok (.goto (-57), 3) := by decide +kernel
theorem d_LE_exchange_62 : decode b_LE_exchange 62 = .ok (.return_, 1) := by decide +kernel
theorem d_LE_rotate_0 : decode b_LE_rotate 0 = .ok (.aload_n 0, 1) := by decide +kernel
theorem d_LE_rotate_1 : decode b_LE_rotate 1 = .ok (.getfield 9, 3) := by decide +kernel
theorem d_LE_rotate_4 : decode b_LE_rotate 4 = .ok (.iconst 2, 1) := by decide +kernel
theorem d_LE_rotate_5 : decode b_LE_rotate 5 = .ok (.if_icmp .lt 15, 3) := by decide +kernel
theorem d_LE_rotate_8 : decode b_LE_rotate 8 = .ok (.aload_n 0, 1) := by decide +kernel
theorem d_LE_rotate_9 : decode b_LE_rotate 9 = .ok (.getfield 9, 3) := by decide +kernel
theorem d_LE_rotate_12 : decode b_LE_rotate 12 = .ok (.aload_n 0, 1) := by decide +kernel
theorem d_LE_rotate_13 : decode b_LE_rotate 13 = .ok (.getfield 21, 3) := by decide +kernel
theorem d_LE_rotate_16 : decode b_LE_rotate 16 = .ok (.arraylength, 1) := by decide +kernel
theorem d_LE_rotate_17 : decode b_LE_rotate 17 = .ok (.if_icmp .le 4, 3) := by decide +kernel
theorem d_LE_rotate_20 : decode b_LE_rotate 20 = .ok (.return_, 1) := by decide +kernel
theorem d_LE_rotate_21 : decode b_LE_rotate 21 = .ok (.iload_n 1, 1) := by decide +kernel
theorem d_LE_rotate_22 : decode b_LE_rotate 22 = .ok (.ifCond .eq 44, 3) := by decide +kernel
theorem d_LE_rotate_25 : decode b_LE_rotate 25 = .ok (.aload_n 0, 1) := by decide +kernel
theorem d_LE_rotate_26 : decode b_LE_rotate 26 = .ok (.getfield 21, 3) := by decide +kernel
theorem d_LE_rotate_29 : decode b_LE_rotate 29 = .ok (.aload_n 0, 1) := by decide +kernel
theorem d_LE_rotate_30 : decode b_LE_rotate 30 = .ok (.getfield 9, 3) := by decide +kernel
theorem d_LE_rotate_33 : decode b_LE_rotate 33 = .ok (.iconst 1, 1) := by decide +kernel
theorem d_LE_rotate_34 : decode b_LE_rotate 34 = .ok (.isub, 1) := by decide +kernel
theorem d_LE_rotate_35 : decode b_LE_rotate 35 = .ok (.iaload, 1) := by decide +kernel
theorem d_LE_rotate_36 : decode b_LE_rotate 36 = .ok (.istore_n 2, 1) := by decide +kernel
theorem d_LE_rotate_37 : decode b_LE_rotate 37 = .ok (.aload_n 0, 1) := by decide +kernel
theorem d_LE_rotate_38 : decode b_LE_rotate 38 = .ok (.getfield 21, 3) := by decide +kernel
theorem d_LE_rotate_41 : decode b_LE_rotate 41 = .ok (.iconst 0, 1) := by decide +kernel
theorem d_LE_rotate_42 : decode b_LE_rotate 42 = .ok (.aload_n 0, 1) := by decide +kernel
theorem d_LE_rotate_43 : decode b_LE_rotate 43 = .ok (.getfield 21, 3) := by decide +kernel
theorem d_LE_rotate_46 : decode b_LE_rotate 46 = .ok (.iconst 1, 1) := by decide +kernel
theorem d_LE_rotate_47 : decode b_LE_rotate 47 = .ok (.aload_n 0, 1) := by decide +kernel
theorem d_LE_rotate_48 : decode b_LE_rotate 48 = .ok (.getfield 9, 3) := by decide +kernel
theorem d_LE_rotate_51 : decode b_LE_rotate 51 = .ok (.iconst 1, 1) := by decide +kernel
theorem d_LE_rotate_52 : decode b_LE_rotate 52 = .ok (.isub, 1) := by decide +kernel
theorem d_LE_rotate_53 : decode b_LE_rotate 53 = .ok (.invokestatic 39, 3) := by decide +kernel
theorem d_LE_rotate_56 : decode b_LE_rotate 56 = .ok (.aload_n 0, 1) := by decide +kernel
theorem d_LE_rotate_57 : decode b_LE_rotate 57 = .ok (.getfield 21, 3) := by decide +kernel
theorem d_LE_rotate_60 : decode b_LE_rotate 60 = .ok (.iconst 0, 1) := by decide +kernel
theorem d_LE_rotate_61 : decode b_LE_rotate 61 = .ok (.iload_n 2, 1) := by decide +kernel
theorem d_LE_rotate_62 : decode b_LE_rotate 62 = .ok (.iastore, 1) := by decide +kernel
theorem d_LE_rotate_63 : decode b_LE_rotate 63 = .ok (.goto 41, 3) := by decide +kernel
theorem d_LE_rotate_66 : decode b_LE_rotate 66 = .ok (.aload_n 0, 1) := by decide +kernel
theorem d_LE_rotate_67 : decode b_LE_rotate 67 = .ok (.getfield 21, 3) := by decide +kernel
theorem d_LE_rotate_70 : decode b_LE_rotate 70 = .ok (.iconst 0, 1) := by decide +kernel
theorem d_LE_rotate_71 : decode b_LE_rotate 71 = .ok (.iaload, 1) := by decide +kernel
theorem d_LE_rotate_72 : decode b_LE_rotate 72 = .ok (.istore_n 2, 1) := by decide +kernel
theorem d_LE_rotate_73 : decode b_LE_rotate 73 = .ok (.aload_n 0, 1) := by decide +kernel
theorem d_LE_rotate_74 : decode b_LE_rotate 74 = .ok (.getfield 21, 3) := by decide +kernel
theorem d_LE_rotate_77 : decode b_LE_rotate 77 = .ok (.iconst 1, 1) := by decide +kernel
theorem d_LE_rotate_78 : decode b_LE_rotate 78 = .ok (.aload_n 0, 1) := by decide +kernel
theorem d_LE_rotate_79 : decode b_LE_rotate 79 = .ok (.getfield 21, 3) := by decide +kernel
theorem d_LE_rotate_82 : decode b_LE_rotate 82 = .ok (.iconst 0, 1) := by decide +kernel
theorem d_LE_rotate_83 : decode b_LE_rotate 83 = .ok (.aload_n 0, 1) := by decide +kernel
theorem d_LE_rotate_84 : decode b_LE_rotate 84 = .ok (.getfield 9, 3) := by decide +kernel
theorem d_LE_rotate_87 : decode b_LE_rotate 87 = .ok (.iconst 1, 1) := by decide +kernel
theorem d_LE_rotate_88 : decode b_LE_rotate 88 = .ok (.isub, 1) := by decide +kernel
theorem d_LE_rotate_89 : decode b_LE_rotate 89 = .ok (.invokestatic 39, 3) := by decide +kernel
theorem d_LE_rotate_92 : decode b_LE_rotate 92 = .ok (.aload_n 0, 1) := by decide +kernel
theorem d_LE_rotate_93 : decode b_LE_rotate 93 = .ok (.getfield 21, 3) := by decide +kernel
theorem d_LE_rotate_96 : decode b_LE_rotate 96 = .ok (.aload_n 0, 1) := by decide +kernel
theorem d_LE_rotate_97 : decode b_LE_rotate 97 = .ok (.getfield 9, 3) := by decide +kernel
theorem d_LE_rotate_100 : decode b_LE_rotate 100 = .ok (.iconst 1, 1) := by decide +kernel
theorem d_LE_rotate_101 : decode b_LE_rotate 101 = .ok (.isub, 1) := by decide +kernel
theorem d_LE_rotate_102 : decode b_LE_rotate 102 = .ok (.iload_n 2, 1) := by decide +kernel
theorem d_LE_rotate_103 : decode b_LE_rotate 103 = .ok (.iastore, 1) := by decide +kernel
theorem d_LE_rotate_104 : decode b_LE_rotate 104 = .ok (.return_, 1) := by decide +kernel
theorem d_LE_imbalance_0 : decode b_LE_imbalance 0 = .ok (.iconst 0, 1) := by decide +kernel
theorem d_LE_imbalance_1 : decode b_LE_imbalance 1 = .ok (.istore_n 3, 1) := by decide +kernel
theorem d_LE_imbalance_2 : decode b_LE_imbalance 2 = .ok (.iconst 0, 1) := by decide +kernel
theorem d_LE_imbalance_3 : decode b_LE_imbalance 3 = .ok (.istore 4, 2) := by decide +kernel
theorem d_LE_imbalance_5 : decode b_LE_imbalance 5 = .ok (.iload_n 2, 1) := by decide +kernel
theorem d_LE_imbalance_6 : decode b_LE_imbalance 6 = .ok (.istore 5, 2) := by decide +kernel
theorem d_LE_imbalance_8 : decode b_LE_imbalance 8 = .ok (.iconst 0, 1) := by decide +kernel
theorem d_LE_imbalance_9 : decode b_LE_imbalance 9 = .ok (.istore 6, 2) := by decide +kernel
theorem d_LE_imbalance_11 : decode b_LE_imbalance 11 = .ok (.iload 6, 2) := by decide +kernel
theorem d_LE_imbalance_13 : decode b_LE_imbalance 13 = .ok (.aload_n 0, 1) := by decide +kernel
theorem d_LE_imbalance_14 : decode b_LE_imbalance 14 = .ok (.getfield 9, 3) := by decide +kernel
theorem d_LE_imbalance_17 : decode b_LE_imbalance 17 = .ok (.if_icmp .ge 61, 3) := by decide +kernel
theorem d_LE_imbalance_20 : decode b_LE_imbalance 20 = .ok (.aload_n 0, 1) := by decide +kernel
theorem d_LE_imbalance_21 : decode b_LE_imbalance 21 = .ok (.iload 6, 2) := by decide +kernel
theorem d_LE_imbalance_23 : decode b_LE_imbalance 23 = .ok (.invokevirtual 29, 3) := by decide +kernel
theorem d_LE_imbalance_26 : decode b_LE_imbalance 26 = .ok (.iload_n 1, 1) := by decide +kernel
theorem d_LE_imbalance_27 : decode b_LE_imbalance 27 = .ok (.if_icmp .ne 6, 3) := by decide +kernel
theorem d_LE_imbalance_30 : decode b_LE_imbalance 30 = .ok (.iinc 3 1, 3) := by decide +kernel
theorem d_LE_imbalance_33 : decode b_LE_imbalance 33 = .ok (.aload_n 0, 1) := by decide +kernel
theorem d_LE_imbalance_34 : decode b_LE_imbalance 34 = .ok (.iload 6, 2) := by decide +kernel
theorem d_LE_imbalance_36 : decode b_LE_imbalance 36 = .ok (.iload_n 2, 1) := by decide +kernel
theorem d_LE_imbalance_37 : decode b_LE_imbalance 37 = .ok (.isub, 1) := by decide +kernel
theorem d_LE_imbalance_38 : decode b_LE_imbalance 38 = .ok (.invokevirtual 29, 3) := by decide +kernel
theorem d_LE_imbalance_41 : decode b_LE_imbalance 41 = .ok (.iload_n 1, 1) := by decide +kernel
theorem d_LE_imbalance_42 : decode b_LE_imbalance 42 = .ok (.if_icmp .ne 6, 3) := by decide +kernel
theorem d_LE_imbalance_45 : decode b_LE_imbalance 45 = .ok (.iinc 3 (-1), 3) := by decide +kernel
theorem d_LE_imbalance_48 : decode b_LE_imbalance 48 = .ok (.iload 6, 2) := by decide +kernel
theorem d_LE_imbalance_50 : decode b_LE_imbalance 50 = .ok (.iload_n 2, 1) := by decide +kernel
theorem d_LE_imbalance_51 : decode b_LE_imbalance 51 = .ok (.iconst 1, 1) := by decide +kernel
theorem d_LE_imbalance_52 : decode b_LE_imbalance 52 = .ok (.isub, 1) := by decide +kernel
theorem d_LE_imbalance_53 : decode b_LE_imbalance 53 = .ok (.if_icmp .lt 19, 3) := by decide +kernel
theorem d_LE_imbalance_56 : decode b_LE_imbalance 56 = .ok (.iload 4, 2) := by decide +kernel
theorem d_LE_imbalance_58 : decode b_LE_imbalance 58 = .ok (.iload_n 3, 1) := by decide +kernel
theorem d_LE_imbalance_59 : decode b_LE_imbalance 59 = .ok (.invokestatic 15, 3) := by decide +kernel
theorem d_LE_imbalance_62 : decode b_LE_imbalance 62 = .ok (.istore 4, 2) := by decide +kernel
theorem d_LE_imbalance_64 : decode b_LE_imbalance 64 = .ok (.iload 5, 2) := by decide +kernel
theorem d_LE_imbalance_66 : decode b_LE_imbalance 66 = .ok (.iload_n 3, 1) := by decide +kernel
theorem d_LE_imbalance_67 : decode b_LE_imbalance 67 = .ok (.invokestatic 36, 3) := by decide +kernel
theorem d_LE_imbalance_70 : decode b_LE_imbalance 70 = .ok (.istore 5, 2) := by decide +kernel
theorem d_LE_imbalance_72 : decode b_LE_imbalance 72 = .ok (.iinc 6 1, 3) := by decide +kernel
theorem d_LE_imbalance_75 : decode b_LE_imbalance 75 = .ok (.goto (-64), 3) := by decide +kernel
theorem d_LE_imbalance_78 : decode b_LE_imbalance 78 = .ok (.iload 4, 2) := by decide +kernel
theorem d_LE_imbalance_80 : decode b_LE_imbalance 80 = .ok (.iload 5, 2) := by decide +kernel
theorem d_LE_imbalance_82 : decode b_LE_imbalance 82 = .ok (.isub, 1) := by decide +kernel
theorem d_LE_imbalance_83 : decode b_LE_imbalance 83 = .ok (.ireturn, 1) := by decide +kernel
theorem d_LM_init_0 : decode b_LM_init 0 = .ok (.aload_n 0, 1) := by decide +kernel
theorem d_LM_init_1 : decode b_LM_init 1 = .ok (.invokespecial 1, 3) := by decide +kernel
theorem d_LM_init_4 : decode b_LM_init 4 = .ok (.aload_n 0, 1) := by decide +kernel
theorem d_LM_init_5 : decode b_LM_init 5 = .ok (.iconst 0, 1) := by decide +kernel
theorem d_LM_init_6 : decode b_LM_init 6 = .ok (.putfield 7, 3) := by decide +kernel
theorem d_LM_init_9 : decode b_LM_init 9 = .ok (.aload_n 0, 1) := by decide +kernel
theorem d_LM_init_10 : decode b_LM_init 10 = .ok (.iconst 0, 1) := by decide +kernel
theorem d_LM_init_11 : decode b_LM_init 11 = .ok (.putfield 13, 3) := by decide +kernel
theorem d_LM_init_14 : decode b_LM_init 14 = .ok (.return_, 1) := by decide +kernel
theorem d_LM_find_0 : decode b_LM_find 0 = .ok (.aload_n 0, 1) := by decide +kernel
theorem d_LM_find_1 : decode b_LM_find 1 = .ok (.iconst 0, 1) := by decide +kernel
theorem d_LM_find_2 : decode b_LM_find 2 = .ok (.putfield 7, 3) := by decide +kernel
theorem d_LM_find_5 : decode b_LM_find 5 = .ok (.aload_n 0, 1) := by decide +kernel
theorem d_LM_find_6 : decode b_LM_find 6 = .ok (.iconst 0, 1) := by decide +kernel
theorem d_LM_find_7 : decode b_LM_find 7 = .ok (.putfield 13, 3) := by decide +kernel
theorem d_LM_find_10 : decode b_LM_find 10 = .ok (.iconst 0, 1) := by decide +kernel
theorem d_LM_find_11 : decode b_LM_find 11 = .ok (.istore_n 2, 1) := by decide +kernel
theorem d_LM_find_12 : decode b_LM_find 12 = .ok (.iload_n 2, 1) := by decide +kernel
theorem d_LM_find_13 : decode b_LM_find 13 = .ok (.iconst 2, 1) := by decide +kernel
theorem d_LM_find_14 : decode b_LM_find 14 = .ok (.aload_n 1, 1) := by decide +kernel
theorem d_LM_find_15 : decode b_LM_find 15 = .ok (.invokevirtual 16, 3) := by decide +kernel
theorem d_LM_find_18 : decode b_LM_find 18 = .ok (.imul, 1) := by decide +kernel
theorem d_LM_find_19 : decode b_LM_find 19 = .ok (.if_icmp .ge 22, 3) := by decide +kernel
theorem d_LM_find_22 : decode b_LM_find 22 = .ok (.aload_n 0, 1) := by decide +kernel
theorem d_LM_find_23 : decode b_LM_find 23 = .ok (.aload_n 1, 1) := by decide +kernel
theorem d_LM_find_24 : decode b_LM_find 24 = .ok (.iload_n 2, 1) := by decide +kernel
theorem d_LM_find_25 : decode b_LM_find 25 = .ok (.iconst 2, 1) := by decide +kernel
theorem d_LM_find_26 : decode b_LM_find 26 = .ok (.idiv, 1) := by decide +kernel
theorem d_LM_find_27 : decode b_LM_find 27 = .ok (.iload_n 2, 1) := by decide +kernel
theorem d_LM_find_28 : decode b_LM_find 28 = .ok (.iconst 1, 1) := by decide +kernel
theorem d_LM_find_29 : decode b_LM_find 29 = .ok (.iadd, 1) := by decide +kernel
theorem d_LM_find_30 : decode b_LM_find 30 = .ok (.iconst 2, 1) := by decide +kernel
theorem d_LM_find_31 : decode b_LM_find 31 = .ok (.idiv, 1) := by decide +kernel
theorem d_LM_find_32 : decode b_LM_find 32 = .ok (.invokevirtual 21, 3) := by decide +kernel
theorem d_LM_find_35 : decode b_LM_find 35 = .ok (.iinc 2 1, 3) := by decide +kernel
theorem d_LM_find_38 : decode b_LM_find 38 = .ok (.goto (-26), 3) := by decide +kernel
theorem d_LM_find_41 : decode b_LM_find 41 = .ok (.return_, 1) := by decide +kernel
theorem d_LM_findAround_0 : decode b_LM_findAround 0 = .ok (.iload_n 2, 1) := by decide +kernel
theorem d_LM_findAround_1 : decode b_LM_findAround 1 = .ok (.istore 4, 2) := by decide +kernel
theorem d_LM_findAround_3 : decode b_LM_findAround 3 = .ok (.iload_n 3, 1) := by decide +kernel
theorem d_LM_findAround_4 : decode b_LM_findAround 4 = .ok (.istore 5, 2) := by decide +kernel
theorem d_LM_findAround_6 : decode b_LM_findAround 6 = .ok (.iload 4, 2) := by decide +kernel
theorem d_LM_findAround_8 : decode b_LM_findAround 8 = .ok (.ifCond .lt 36, 3) := by decide +kernel
theorem d_LM_findAround_11 : decode b_LM_findAround 11 = .ok (.iload 5, 2) := by decide +kernel
theorem d_LM_findAround_13 : decode b_LM_findAround 13 = .ok (.aload_n 1, 1) := by decide +kernel
theorem d_LM_findAround_14 : decode b_LM_findAround 14 = .ok (.invokevirtual 16, 3) := by decide +kernel
theorem d_LM_findAround_17 : decode b_LM_findAround 17 = .ok (.if_icmp .ge 27, 3) := by decide +kernel
theorem d_LM_findAround_20 : decode b_LM_findAround 20 = .ok (.aload_n 1, 1) := by decide +kernel
theorem d_LM_findAround_21 : decode b_LM_findAround 21 = .ok (.iload 4, 2) := by decide +kernel
theorem d_LM_findAround_23 : decode b_LM_findAround 23 = .ok (.invokevirtual 25, 3) := by decide +kernel
theorem d_LM_findAround_26 : decode b_LM_findAround 26 = .ok (.aload_n 1, 1) := by decide +kernel
theorem d_LM_findAround_27 : decode b_LM_findAround 27 = .ok (.iload 5, 2) := by decide +kernel
theorem d_LM_findAround_29 : decode b_LM_findAround 29 = .ok (.invokevirtual 25, 3) := by decide +kernel
theorem d_LM_findAround_32 : decode b_LM_findAround 32 = .ok (.if_icmp .ne 12, 3) := by decide +kernel
theorem d_LM_findAround_35 : decode b_LM_findAround 35 = .ok (.iinc 4 (-1), 3) := by decide +kernel
theorem d_LM_findAround_38 : decode b_LM_findAround 38 = .ok (.iinc 5 1, 3) := by decide +kernel
theorem d_LM_findAround_41 : decode b_LM_findAround 41 = .ok (.goto (-35), 3) := by decide +kernel
theorem d_LM_findAround_44 : decode b_LM_findAround 44 = .ok (.iload 5, 2) := by decide +kernel
theorem d_LM_findAround_46 : decode b_LM_findAround 46 = .ok (.iload 4, 2) := by decide +kernel
theorem d_LM_findAround_48 : decode b_LM_findAround 48 = .ok (.isub, 1) := by decide +kernel
theorem d_LM_findAround_49 : decode b_LM_findAround 49 = .ok (.iconst 1, 1) := by decide +kernel
theorem d_LM_findAround_50 : decode b_LM_findAround 50 = .ok (.isub, 1) := by decide +kernel
theorem d_LM_findAround_51 : decode b_LM_findAround 51 = .ok (.aload_n 0, 1) := by decide +kernel
theorem d_LM_findAround_52 : decode b_LM_findAround 52 = .ok (.getfield 13, 3) := by decide +kernel
theorem d_LM_findAround_55 : decode b_LM_findAround 55 = .ok (.if_icmp .le 22, 3) := by decide +kernel
theorem d_LM_findAround_58 : decode b_LM_findAround 58 = .ok (.aload_n 0, 1) := by decide +kernel
theorem d_LM_findAround_59 : decode b_LM_findAround 59 = .ok (.iload 4, 2) := by decide +kernel
theorem d_LM_findAround_61 : decode b_LM_findAround 61 = .ok (.iconst 1, 1) := by decide +kernel
theorem d_LM_findAround_62 : decode b_LM_findAround 62 = .ok (.iadd, 1) := by decide +kernel
theorem d_LM_findAround_63 : decode b_LM_findAround 63 = .ok (.putfield 7, 3) := by decide +kernel
theorem d_LM_findAround_66 : decode b_LM_findAround 66 = .ok (.aload_n 0, 1) := by decide +kernel
theorem d_LM_findAround_67 : decode b_LM_findAround 67 = .ok (.iload 5, 2) := by decide +kernel
theorem d_LM_findAround_69 : decode b_LM_findAround 69 = .ok (.iload 4, 2) := by decide +kernel
theorem d_LM_findAround_71 : decode b_LM_findAround 71 = .ok (.isub, 1) := by decide +kernel
theorem d_LM_findAround_72 : decode b_LM_findAround 72 = .ok (.iconst 1, 1) := by decide +kernel
theorem d_LM_findAround_73 : decode b_LM_findAround 73 = .ok (.isub, 1) := by decide +kernel
theorem d_LM_findAround_74 : decode b_LM_findAround 74 = .ok (.putfield 13, 3) := by decide +kernel
theorem d_LM_findAround_77 : decode b_LM_findAround 77 = .ok (.return_, 1) := by decide +kernel
theorem d_LM_place_0 : decode b_LM_place 0 = .ok (.aload_n 0, 1) := by decide +kernel
theorem d_LM_place_1 : decode b_LM_place 1 = .ok (.getfield 7, 3) := by decide +kernel
theorem d_LM_place_4 : decode b_LM_place 4 = .ok (.ireturn, 1) := by decide +kernel
theorem d_LM_length_0 : decode b_LM_length 0 = .ok (.aload_n 0, 1) := by decide +kernel
theorem d_LM_length_1 : decode b_LM_length 1 = .ok (.getfield 13, 3) := by decide +kernel
theorem d_LM_length_4 : decode b_LM_length 4 = .ok (.ireturn, 1) := by decide +kernel
theorem d_PT_init_0 : decode b_PT_init 0 = .ok (.aload_n 0, 1) := by decide +kernel
theorem d_PT_init_1 : decode b_PT_init 1 = .ok (.invokespecial 3, 3) := by decide +kernel
theorem d_PT_init_4 : decode b_PT_init 4 = .ok (.aload_n 0, 1) := by decide +kernel
theorem d_PT_init_5 : decode b_PT_init 5 = .ok (.sipush 300, 3) := by decide +kernel
theorem d_PT_init_8 : decode b_PT_init 8 = .ok (.newarray .long, 2) := by decide +kernel
theorem d_PT_init_10 : decode b_PT_init 10 = .ok (.putfield 9, 3) := by decide +kernel
theorem d_PT_init_13 : decode b_PT_init 13 = .ok (.aload_n 0, 1) := by decide +kernel
theorem d_PT_init_14 : decode b_PT_init 14 = .ok (.iconst 0, 1) := by decide +kernel
theorem d_PT_init_15 : decode b_PT_init 15 = .ok (.putfield 15, 3) := by decide +kernel
theorem d_PT_init_18 : decode b_PT_init 18 = .ok (.return_, 1) := by decide +kernel
theorem d_PT_tell_0 : decode b_PT_tell 0 = .ok (.aload_n 0, 1) := by decide +kernel
theorem d_PT_tell_1 : decode b_PT_tell 1 = .ok (.aload_n 1, 1) := by decide +kernel
theorem d_PT_tell_2 : decode b_PT_tell 2 = .ok (.iload_n 2, 1) := by decide +kernel
theorem d_PT_tell_3 : decode b_PT_tell 3 = .ok (.invokevirtual 19, 3) := by decide +kernel
theorem d_PT_tell_6 : decode b_PT_tell 6 = .ok (.iconst 0, 1) := by decide +kernel
theorem d_PT_tell_7 : decode b_PT_tell 7 = .ok (.istore 4, 2) := by decide +kernel
theorem d_PT_tell_9 : decode b_PT_tell 9 = .ok (.iconst 0, 1) := by decide +kernel
theorem d_PT_tell_10 : decode b_PT_tell 10 = .ok (.istore 5, 2) := by decide +kernel
theorem d_PT_tell_12 : decode b_PT_tell 12 = .ok (.iload 5, 2) := by decide +kernel
theorem d_PT_tell_14 : decode b_PT_tell 14 = .ok (.aload_n 0, 1) := by decide +kernel
theorem d_PT_tell_15 : decode b_PT_tell 15 = .ok (.getfield 15, 3) := by decide +kernel
theorem d_PT_tell_18 : decode b_PT_tell 18 = .ok (.if_icmp .ge 33, 3) := by decide +kernel
theorem d_PT_tell_21 : decode b_PT_tell 21 = .ok (.aload_n 0, 1) := by decide +kernel
theorem d_PT_tell_22 : decode b_PT_tell 22 = .ok (.iload 5, 2) := by decide +kernel
theorem d_PT_tell_24 : decode b_PT_tell 24 = .ok (.invokevirtual 23, 3) := by decide +kernel
theorem d_PT_tell_27 : decode b_PT_tell 27 = .ok (.ifCond .eq 18, 3) := by decide +kernel
theorem d_PT_tell_30 : decode b_PT_tell 30 = .ok (.aload_n 0, 1) := by decide +kernel
theorem d_PT_tell_31 : decode b_PT_tell 31 = .ok (.aload_n 1, 1) := by decide +kernel
theorem d_PT_tell_32 : decode b_PT_tell 32 = .ok (.iload 5, 2) := by decide +kernel
theorem d_PT_tell_34 : decode b_PT_tell 34 = .ok (.iload_n 2, 1) := by decide +kernel
theorem d_PT_tell_35 : decode b_PT_tell 35 = .ok (.iload_n 3, 1) := by decide +kernel
theorem d_PT_tell_36 : decode b_PT_tell 36 = .ok (.invokevirtual 27, 3) := by decide +kernel
theorem d_PT_tell_39 : decode b_PT_tell 39 = .ok (.ifCond .eq 6, 3) := by decide +kernel
theorem d_PT_tell_42 : decode b_PT_tell 42 = .ok (.iinc 4 1, 3) := by decide +kernel
theorem d_PT_tell_45 : decode b_PT_tell 45 = .ok (.iinc 5 1, 3) := by decide +kernel
theorem d_PT_tell_48 : decode b_PT_tell 48 = .ok (.goto (-36), 3) := by decide +kernel
theorem d_PT_tell_51 : decode b_PT_tell 51 = .ok (.iload 4, 2) := by decide +kernel
theorem d_PT_tell_53 : decode b_PT_tell 53 = .ok (.ireturn, 1) := by decide +kernel
theorem d_PT_fill_0 : decode b_PT_fill 0 = .ok (.aload_n 0, 1) := by decide +kernel
theorem d_PT_fill_1 : decode b_PT_fill 1 = .ok (.iconst 0, 1) := by decide +kernel
theorem d_PT_fill_2 : decode b_PT_fill 2 = .ok (.putfield 15, 3) := by decide +kernel
theorem d_PT_fill_5 : decode b_PT_fill 5 = .ok (.lconst 1, 1) := by decide +kernel
theorem d_PT_fill_6 : decode b_PT_fill 6 = .ok (.iconst 2, 1) := by decide +kernel
theorem d_PT_fill_7 : decode b_PT_fill 7 = .ok (.iload_n 2, 1) := by decide +kernel
theorem d_PT_fill_8 : decode b_PT_fill 8 = .ok (.imul, 1) := by decide +kernel
theorem d_PT_fill_9 : decode b_PT_fill 9 = .ok (.lshl, 1) := by decide +kernel
theorem d_PT_fill_10 : decode b_PT_fill 10 = .ok (.lconst 1, 1) := by decide +kernel
theorem d_PT_fill_11 : decode b_PT_fill 11 = .ok (.lsub, 1) := by decide +kernel
theorem d_PT_fill_12 : decode b_PT_fill 12 = .ok (.lstore_n 3, 1) := by decide +kernel
theorem d_PT_fill_13 : decode b_PT_fill 13 = .ok (.lconst 0, 1) := by decide +kernel
theorem d_PT_fill_14 : decode b_PT_fill 14 = .ok (.lstore 5, 2) := by decide +kernel
theorem d_PT_fill_16 : decode b_PT_fill 16 = .ok (.iconst 0, 1) := by decide +kernel
theorem d_PT_fill_17 : decode b_PT_fill 17 = .ok (.istore 7, 2) := by decide +kernel
theorem d_PT_fill_19 : decode b_PT_fill 19 = .ok (.iload 7, 2) := by decide +kernel
theorem d_PT_fill_21 : decode b_PT_fill 21 = .ok (.aload_n 1, 1) := by decide +kernel
theorem d_PT_fill_22 : decode b_PT_fill 22 = .ok (.invokevirtual 31, 3) := by decide +kernel
theorem d_PT_fill_25 : decode b_PT_fill 25 = .ok (.if_icmp .ge 66, 3) := by decide +kernel
theorem d_PT_fill_28 : decode b_PT_fill 28 = .ok (.lload 5, 2) := by decide +kernel
theorem d_PT_fill_30 : decode b_PT_fill 30 = .ok (.iconst 2, 1) := by decide +kernel
theorem d_PT_fill_31 : decode b_PT_fill 31 = .ok (.lshl, 1) := by decide +kernel
theorem d_PT_fill_32 : decode b_PT_fill 32 = .ok (.aload_n 1, 1) := by decide +kernel
theorem d_PT_fill_33 : decode b_PT_fill 33 = .ok (.iload 7, 2) := by decide +kernel
theorem d_PT_fill_35 : decode b_PT_fill 35 = .ok (.invokevirtual 37, 3) := by decide +kernel
theorem d_PT_fill_38 : decode b_PT_fill 38 = .ok (.i2l, 1) := by decide +kernel
theorem d_PT_fill_39 : decode b_PT_fill 39 = .ok (.lor, 1) := by decide +kernel
theorem d_PT_fill_40 : decode b_PT_fill 40 = .ok (.lload_n 3, 1) := by decide +kernel
theorem d_PT_fill_41 : decode b_PT_fill 41 = .ok (.land, 1) := by decide +kernel
theorem d_PT_fill_42 : decode b_PT_fill 42 = .ok (.lstore 5, 2) := by decide +kernel
theorem d_PT_fill_44 : decode b_PT_fill 44 = .ok (.iload 7, 2) := by decide +kernel
theorem d_PT_fill_46 : decode b_PT_fill 46 = .ok (.iload_n 2, 1) := by decide +kernel
theorem d_PT_fill_47 : decode b_PT_fill 47 = .ok (.iconst 1, 1) := by decide +kernel
theorem d_PT_fill_48 : decode b_PT_fill 48 = .ok (.isub, 1) := by decide +kernel
theorem d_PT_fill_49 : decode b_PT_fill 49 = .ok (.if_icmp .lt 36, 3) := by decide +kernel
theorem d_PT_fill_52 : decode b_PT_fill 52 = .ok (.aload_n 0, 1) := by decide +kernel
theorem d_PT_fill_53 : decode b_PT_fill 53 = .ok (.getfield 15, 3) := by decide +kernel
theorem d_PT_fill_56 : decode b_PT_fill 56 = .ok (.aload_n 0, 1) := by decide +kernel
theorem d_PT_fill_57 : decode b_PT_fill 57 = .ok (.getfield 9, 3) := by decide +kernel
theorem d_PT_fill_60 : decode b_PT_fill 60 = .ok (.arraylength, 1) := by decide +kernel
theorem d_PT_fill_61 : decode b_PT_fill 61 = .ok (.if_icmp .ge 24, 3) := by decide +kernel
theorem d_PT_fill_64 : decode b_PT_fill 64 = .ok (.aload_n 0, 1) := by decide +kernel
theorem d_PT_fill_65 : decode b_PT_fill 65 = .ok (.getfield 9, 3) := by decide +kernel
theorem d_PT_fill_68 : decode b_PT_fill 68 = .ok (.aload_n 0, 1) := by decide +kernel
theorem d_PT_fill_69 : decode b_PT_fill 69 = .ok (.getfield 15, 3) := by decide +kernel
theorem d_PT_fill_72 : decode b_PT_fill 72 = .ok (.lload 5, 2) := by decide +kernel
theorem d_PT_fill_74 : decode b_PT_fill 74 = .ok (.lastore, 1) := by decide +kernel
theorem d_PT_fill_75 : decode b_PT_fill 75 = .ok (.aload_n 0, 1) := by decide +kernel
theorem d_PT_fill_76 : decode b_PT_fill 76 = .ok (.dup, 1) := by decide +kernel
theorem d_PT_fill_77 : decode b_PT_fill 77 = .ok (.getfield 15, 3) := by decide +kernel
theorem d_PT_fill_80 : decode b_PT_fill 80 = .ok (.iconst 1, 1) := by decide +kernel
theorem d_PT_fill_81 : decode b_PT_fill 81 = .ok (.iadd, 1) := by decide +kernel
theorem d_PT_fill_82 : decode b_PT_fill 82 = .ok (.putfield 15, 3) := by decide +kernel
theorem d_PT_fill_85 : decode b_PT_fill 85 = .ok (.iinc 7 1, 3) := by decide +kernel
theorem d_PT_fill_88 : decode b_PT_fill 88 = .ok (.goto (-69), 3) := by decide +kernel
theorem d_PT_fill_91 : decode b_PT_fill 91 = .ok (.return_, 1) := by decide +kernel
theorem d_PT_isFirst_0 : decode b_PT_isFirst 0 = .ok (.iconst 0, 1) := by decide +kernel
theorem d_PT_isFirst_1 : decode b_PT_isFirst 1 = .ok (.istore_n 2, 1) := by decide +kernel
theorem d_PT_isFirst_2 : decode b_PT_isFirst 2 = .ok (.iload_n 2, 1) := by decide +kernel
theorem d_PT_isFirst_3 : decode b_PT_isFirst 3 = .ok (.iload_n 1, 1) := by decide +kernel
theorem d_PT_isFirst_4 : decode b_PT_isFirst 4 = .ok (.if_icmp .ge 20, 3) := by decide +kernel
theorem d_PT_isFirst_7 : decode b_PT_isFirst 7 = .ok (.aload_n 0, 1) := by decide +kernel
theorem d_PT_isFirst_8 : decode b_PT_isFirst 8 = .ok (.iload_n 2, 1) := by decide +kernel
theorem d_PT_isFirst_9 : decode b_PT_isFirst 9 = .ok (.iload_n 1, 1) := by decide +kernel
theorem d_PT_isFirst_10 : decode b_PT_isFirst 10 = .ok (.invokevirtual 41, 3) := by decide +kernel
theorem d_PT_isFirst_13 : decode b_PT_isFirst 13 = .ok (.ifCond .eq 5, 3) := by decide +kernel
theorem d_PT_isFirst_16 : decode b_PT_isFirst 16 = .ok (.iconst 0, 1) := by decide +kernel
theorem d_PT_isFirst_17 : decode b_PT_isFirst 17 = .ok (.ireturn, 1) := by decide +kernel
theorem d_PT_isFirst_18 : decode b_PT_isFirst 18 = .ok (.iinc 2 1, 3) := by decide +kernel
theorem d_PT_isFirst_21 : decode b_PT_isFirst 21 = .ok (.goto (-19), 3) := by decide +kernel
theorem d_PT_isFirst_24 : decode b_PT_isFirst 24 = .ok (.iconst 1, 1) := by decide +kernel
theorem d_PT_isFirst_25 : decode b_PT_isFirst 25 = .ok (.ireturn, 1) := by decide +kernel
theorem d_PT_isSamePiece_0 : decode b_PT_isSamePiece 0 = .ok (.aload_n 0, 1) := by decide +kernel
theorem d_PT_isSamePiece_1 : decode b_PT_isSamePiece 1 = .ok (.iload_n 1, 1) := by decide +kernel
theorem d_PT_isSamePiece_2 : decode b_PT_isSamePiece 2 = .ok (.invokevirtual 45, 3) := by decide +kernel
theorem d_PT_isSamePiece_5 : decode b_PT_isSamePiece 5 = .ok (.ifCond .eq 31, 3) := by decide +kernel
theorem d_PT_isSamePiece_8 : decode b_PT_isSamePiece 8 = .ok (.aload_n 0, 1) := by decide +kernel
theorem d_PT_isSamePiece_9 : decode b_PT_isSamePiece 9 = .ok (.iload_n 2, 1) := by decide +kernel
theorem d_PT_isSamePiece_10 : decode b_PT_isSamePiece 10 = .ok (.invokevirtual 45, 3) := by decide +kernel
theorem d_PT_isSamePiece_13 : decode b_PT_isSamePiece 13 = .ok (.ifCond .eq 23, 3) := by decide +kernel
theorem d_PT_isSamePiece_16 : decode b_PT_isSamePiece 16 = .ok (.aload_n 0, 1) := by decide +kernel
theorem d_PT_isSamePiece_17 : decode b_PT_isSamePiece 17 = .ok (.getfield 9, 3) := by decide +kernel
theorem d_PT_isSamePiece_20 : decode b_PT_isSamePiece 20 = .ok (.iload_n 1, 1) := by decide +kernel
theorem d_PT_isSamePiece_21 : decode b_PT_isSamePiece 21 = .ok (.laload, 1) := by decide +kernel
theorem d_PT_isSamePiece_22 : decode b_PT_isSamePiece 22 = .ok (.aload_n 0, 1) := by decide +kernel
theorem d_PT_isSamePiece_23 : decode b_PT_isSamePiece 23 = .ok (.getfield 9, 3) := by decide +kernel
theorem d_PT_isSamePiece_26 : decode b_PT_isSamePiece 26 = .ok (.iload_n 2, 1) := by decide +kernel
theorem d_PT_isSamePiece_27 : decode b_PT_isSamePiece 27 = .ok (.laload, 1) := by decide +kernel
theorem d_PT_isSamePiece_28 : decode b_PT_isSamePiece 28 = .ok (.lcmp, 1) := by decide +kernel
theorem d_PT_isSamePiece_29 : decode b_PT_isSamePiece 29 = .ok (.ifCond .ne 7, 3) := by decide +kernel
theorem d_PT_isSamePiece_32 : decode b_PT_isSamePiece 32 = .ok (.iconst 1, 1) := by decide +kernel
theorem d_PT_isSamePiece_33 : decode b_PT_isSamePiece 33 = .ok (.goto 4, 3) := by decide +kernel
theorem d_PT_isSamePiece_36 : decode b_PT_isSamePiece 36 = .ok (.iconst 0, 1) := by decide +kernel
theorem d_PT_isSamePiece_37 : decode b_PT_isSamePiece 37 = .ok (.ireturn, 1) := by decide +kernel
theorem d_PT_isPlace_0 : decode b_PT_isPlace 0 = .ok (.iload_n 1, 1) := by decide +kernel
theorem d_PT_isPlace_1 : decode b_PT_isPlace 1 = .ok (.ifCond .lt 24, 3) := by decide +kernel
theorem d_PT_isPlace_4 : decode b_PT_isPlace 4 = .ok (.iload_n 1, 1) := by decide +kernel
theorem d_PT_isPlace_5 : decode b_PT_isPlace 5 = .ok (.aload_n 0, 1) := by decide +kernel
theorem d_PT_isPlace_6 : decode b_PT_isPlace 6 = .ok (.getfield 15, 3) := by decide +kernel
theorem d_PT_isPlace_9 : decode b_PT_isPlace 9 = .ok (.if_icmp .ge 16, 3) := by decide +kernel
theorem d_PT_isPlace_12 : decode b_PT_isPlace 12 = .ok (.iload_n 1, 1) := by decide +kernel
theorem d_PT_isPlace_13 : decode b_PT_isPlace 13 = .ok (.aload_n 0, 1) := by decide +kernel
theorem d_PT_isPlace_14 : decode b_PT_isPlace 14 = .ok (.getfield 9, 3) := by decide +kernel
theorem d_PT_isPlace_17 : decode b_PT_isPlace 17 = .ok (.arraylength, 1) := by decide +kernel
theorem d_PT_isPlace_18 : decode b_PT_isPlace 18 = .ok (.if_icmp .ge 7, 3) := by decide +kernel
theorem d_PT_isPlace_21 : decode b_PT_isPlace 21 = .ok (.iconst 1, 1) := by decide +kernel
theorem d_PT_isPlace_22 : decode b_PT_isPlace 22 = .ok (.goto 4, 3) := by decide +kernel
theorem d_PT_isPlace_25 : decode b_PT_isPlace 25 = .ok (.iconst 0, 1) := by decide +kernel
theorem d_PT_isPlace_26 : decode b_PT_isPlace 26 = .ok (.ireturn, 1) := by decide +kernel
theorem d_PT_isCounted_0 : decode b_PT_isCounted 0 = .ok (.iload 4, 2) := by decide +kernel
theorem d_PT_isCounted_2 : decode b_PT_isCounted 2 = .ok (.tableswitch 73 1 3 #[26, 46, 66], 26) := by decide +kernel
theorem d_PT_isCounted_28 : decode b_PT_isCounted 28 = .ok (.aload_n 0, 1) := by decide +kernel
theorem d_PT_isCounted_29 : decode b_PT_isCounted 29 = .ok (.aload_n 1, 1) := by decide +kernel
theorem d_PT_isCounted_30 : decode b_PT_isCounted 30 = .ok (.iload_n 2, 1) := by decide +kernel
theorem d_PT_isCounted_31 : decode b_PT_isCounted 31 = .ok (.iload_n 3, 1) := by decide +kernel
theorem d_PT_isCounted_32 : decode b_PT_isCounted 32 = .ok (.invokevirtual 48, 3) := by decide +kernel
theorem d_PT_isCounted_35 : decode b_PT_isCounted 35 = .ok (.invokestatic 52, 3) := by decide +kernel
theorem d_PT_isCounted_38 : decode b_PT_isCounted 38 = .ok (.iconst 2, 1) := by decide +kernel
theorem d_PT_isCounted_39 : decode b_PT_isCounted 39 = .ok (.if_icmp .lt 7, 3) := by decide +kernel
theorem d_PT_isCounted_42 : decode b_PT_isCounted 42 = .ok (.iconst 1, 1) := by decide +kernel
theorem d_PT_isCounted_43 : decode b_PT_isCounted 43 = .ok (.goto 4, 3) := by decide +kernel
theorem d_PT_isCounted_46 : decode b_PT_isCounted 46 = .ok (.iconst 0, 1) := by decide +kernel
theorem d_PT_isCounted_47 : decode b_PT_isCounted 47 = .ok (.ireturn, 1) := by decide +kernel
theorem d_PT_isCounted_48 : decode b_PT_isCounted 48 = .ok (.aload_n 0, 1) := by decide +kernel
theorem d_PT_isCounted_49 : decode b_PT_isCounted 49 = .ok (.aload_n 1, 1) := by decide +kernel
theorem d_PT_isCounted_50 : decode b_PT_isCounted 50 = .ok (.iload_n 2, 1) := by decide +kernel
theorem d_PT_isCounted_51 : decode b_PT_isCounted 51 = .ok (.iconst (-1), 1) := by decide +kernel
theorem d_PT_isCounted_52 : decode b_PT_isCounted 52 = .ok (.invokevirtual 48, 3) := by decide +kernel
theorem d_PT_isCounted_55 : decode b_PT_isCounted 55 = .ok (.invokestatic 52, 3) := by decide +kernel
theorem d_PT_isCounted_58 : decode b_PT_isCounted 58 = .ok (.iconst 2, 1) := by decide +kernel
theorem d_PT_isCounted_59 : decode b_PT_isCounted 59 = .ok (.if_icmp .lt 7, 3) := by decide +kernel
theorem d_PT_isCounted_62 : decode b_PT_isCounted 62 = .ok (.iconst 1, 1) := by decide +kernel
theorem d_PT_isCounted_63 : decode b_PT_isCounted 63 = .ok (.goto 4, 3) := by decide +kernel
theorem d_PT_isCounted_66 : decode b_PT_isCounted 66 = .ok (.iconst 0, 1) := by decide +kernel
theorem d_PT_isCounted_67 : decode b_PT_isCounted 67 = .ok (.ireturn, 1) := by decide +kernel
theorem d_PT_isCounted_68 : decode b_PT_isCounted 68 = .ok (.aload_n 1, 1) := by decide +kernel
theorem d_PT_isCounted_69 : decode b_PT_isCounted 69 = .ok (.iload_n 2, 1) := by decide +kernel
theorem d_PT_isCounted_70 : decode b_PT_isCounted 70 = .ok (.iload_n 3, 1) := by decide +kernel
theorem d_PT_isCounted_71 : decode b_PT_isCounted 71 = .ok (.invokevirtual 57, 3) := by decide +kernel
theorem d_PT_isCounted_74 : decode b_PT_isCounted 74 = .ok (.ireturn, 1) := by decide +kernel
theorem d_PT_isCounted_75 : decode b_PT_isCounted 75 = .ok (.iconst 1, 1) := by decide +kernel
theorem d_PT_isCounted_76 : decode b_PT_isCounted 76 = .ok (.ireturn, 1) := by decide +kernel
theorem d_PT_neighbours_0 : decode b_PT_neighbours 0 = .ok (.iconst 0, 1) := by decide +kernel
theorem d_PT_neighbours_1 : decode b_PT_neighbours 1 = .ok (.istore 4, 2) := by decide +kernel
theorem d_PT_neighbours_3 : decode b_PT_neighbours 3 = .ok (.iload_n 2, 1) := by decide +kernel
theorem d_PT_neighbours_4 : decode b_PT_neighbours 4 = .ok (.istore 5, 2) := by decide +kernel
theorem d_PT_neighbours_6 : decode b_PT_neighbours 6 = .ok (.iload 5, 2) := by decide +kernel
theorem d_PT_neighbours_8 : decode b_PT_neighbours 8 = .ok (.aload_n 0, 1) := by decide +kernel
theorem d_PT_neighbours_9 : decode b_PT_neighbours 9 = .ok (.getfield 15, 3) := by decide +kernel
theorem d_PT_neighbours_12 : decode b_PT_neighbours 12 = .ok (.if_icmp .ge 44, 3) := by decide +kernel
theorem d_PT_neighbours_15 : decode b_PT_neighbours 15 = .ok (.aload_n 1, 1) := by decide +kernel
theorem d_PT_neighbours_16 : decode b_PT_neighbours 16 = .ok (.iload 5, 2) := by decide +kernel
theorem d_PT_neighbours_18 : decode b_PT_neighbours 18 = .ok (.iload_n 3, 1) := by decide +kernel
theorem d_PT_neighbours_19 : decode b_PT_neighbours 19 = .ok (.iadd, 1) := by decide +kernel
theorem d_PT_neighbours_20 : decode b_PT_neighbours 20 = .ok (.invokevirtual 37, 3) := by decide +kernel
theorem d_PT_neighbours_23 : decode b_PT_neighbours 23 = .ok (.istore 6, 2) := by decide +kernel
theorem d_PT_neighbours_25 : decode b_PT_neighbours 25 = .ok (.iload 6, 2) := by decide +kernel
theorem d_PT_neighbours_27 : decode b_PT_neighbours 27 = .ok (.iconst (-1), 1) := by decide +kernel
theorem d_PT_neighbours_28 : decode b_PT_neighbours 28 = .ok (.if_icmp .eq 22, 3) := by decide +kernel
theorem d_PT_neighbours_31 : decode b_PT_neighbours 31 = .ok (.aload_n 0, 1) := by decide +kernel
theorem d_PT_neighbours_32 : decode b_PT_neighbours 32 = .ok (.iload_n 2, 1) := by decide +kernel
theorem d_PT_neighbours_33 : decode b_PT_neighbours 33 = .ok (.iload 5, 2) := by decide +kernel
theorem d_PT_neighbours_35 : decode b_PT_neighbours 35 = .ok (.invokevirtual 41, 3) := by decide +kernel
theorem d_PT_neighbours_38 : decode b_PT_neighbours 38 = .ok (.ifCond .eq 12, 3) := by decide +kernel
theorem d_PT_neighbours_41 : decode b_PT_neighbours 41 = .ok (.iload 4, 2) := by decide +kernel
theorem d_PT_neighbours_43 : decode b_PT_neighbours 43 = .ok (.iconst 1, 1) := by decide +kernel
theorem d_PT_neighbours_44 : decode b_PT_neighbours 44 = .ok (.iload 6, 2) := by decide +kernel
theorem d_PT_neighbours_46 : decode b_PT_neighbours 46 = .ok (.ishl, 1) := by decide +kernel
theorem d_PT_neighbours_47 : decode b_PT_neighbours 47 = .ok (.ior, 1) := by decide +kernel
theorem d_PT_neighbours_48 : decode b_PT_neighbours 48 = .ok (.istore 4, 2) := by decide +kernel
theorem d_PT_neighbours_50 : decode b_PT_neighbours 50 = .ok (.iinc 5 1, 3) := by decide +kernel
theorem d_PT_neighbours_53 : decode b_PT_neighbours 53 = .ok (.goto (-47), 3) := by decide +kernel
theorem d_PT_neighbours_56 : decode b_PT_neighbours 56 = .ok (.iload 4, 2) := by decide +kernel
theorem d_PT_neighbours_58 : decode b_PT_neighbours 58 = .ok (.ireturn, 1) := by decide +kernel
theorem d_PW_init_0 : decode b_PW_init 0 = .ok (.aload_n 0, 1) := by decide +kernel
theorem d_PW_init_1 : decode b_PW_init 1 = .ok (.invokespecial 3, 3) := by decide +kernel
theorem d_PW_init_4 : decode b_PW_init 4 = .ok (.aload_n 0, 1) := by decide +kernel
theorem d_PW_init_5 : decode b_PW_init 5 = .ok (.iconst 4, 1) := by decide +kernel
theorem d_PW_init_6 : decode b_PW_init 6 = .ok (.newarray .int, 2) := by decide +kernel
theorem d_PW_init_8 : decode b_PW_init 8 = .ok (.putfield 9, 3) := by decide +kernel
theorem d_PW_init_11 : decode b_PW_init 11 = .ok (.aload_n 0, 1) := by decide +kernel
theorem d_PW_init_12 : decode b_PW_init 12 = .ok (.iconst 4, 1) := by decide +kernel
theorem d_PW_init_13 : decode b_PW_init 13 = .ok (.newarray .int, 2) := by decide +kernel
theorem d_PW_init_15 : decode b_PW_init 15 = .ok (.putfield 15, 3) := by decide +kernel
theorem d_PW_init_18 : decode b_PW_init 18 = .ok (.return_, 1) := by decide +kernel
theorem d_PW_find_0 : decode b_PW_find 0 = .ok (.iconst 0, 1) := by decide +kernel
theorem d_PW_find_1 : decode b_PW_find 1 = .ok (.istore 4, 2) := by decide +kernel
theorem d_PW_find_3 : decode b_PW_find 3 = .ok (.iload 4, 2) := by decide +kernel
theorem d_PW_find_5 : decode b_PW_find 5 = .ok (.iconst 4, 1) := by decide +kernel
theorem d_PW_find_6 : decode b_PW_find 6 = .ok (.if_icmp .ge 27, 3) := by decide +kernel
theorem d_PW_find_9 : decode b_PW_find 9 = .ok (.aload_n 0, 1) := by decide +kernel
theorem d_PW_find_10 : decode b_PW_find 10 = .ok (.getfield 9, 3) := by decide +kernel
theorem d_PW_find_13 : decode b_PW_find 13 = .ok (.iload 4, 2) := by decide +kernel
theorem d_PW_find_15 : decode b_PW_find 15 = .ok (.iload 4, 2) := by decide +kernel
theorem d_PW_find_17 : decode b_PW_find 17 = .ok (.iload_n 2, 1) := by decide +kernel
theorem d_PW_find_18 : decode b_PW_find 18 = .ok (.if_icmp .ne 7, 3) := by decide +kernel
theorem d_PW_find_21 : decode b_PW_find 21 = .ok (.iconst 1, 1) := by decide +kernel
theorem d_PW_find_22 : decode b_PW_find 22 = .ok (.goto 4, 3) := by decide +kernel
theorem d_PW_find_25 : decode b_PW_find 25 = .ok (.iconst 0, 1) := by decide +kernel
theorem d_PW_find_26 : decode b_PW_find 26 = .ok (.iastore, 1) := by decide +kernel
theorem d_PW_find_27 : decode b_PW_find 27 = .ok (.iinc 4 1, 3) := by decide +kernel
theorem d_PW_find_30 : decode b_PW_find 30 = .ok (.goto (-27), 3) := by decide +kernel
theorem d_PW_find_33 : decode b_PW_find 33 = .ok (.iconst 0, 1) := by decide +kernel
theorem d_PW_find_34 : decode b_PW_find 34 = .ok (.istore 4, 2) := by decide +kernel
theorem d_PW_find_36 : decode b_PW_find 36 = .ok (.iload 4, 2) := by decide +kernel
theorem d_PW_find_38 : decode b_PW_find 38 = .ok (.iload_n 3, 1) := by decide +kernel
theorem d_PW_find_39 : decode b_PW_find 39 = .ok (.if_icmp .ge 23, 3) := by decide +kernel
theorem d_PW_find_42 : decode b_PW_find 42 = .ok (.aload_n 0, 1) := by decide +kernel
theorem d_PW_find_43 : decode b_PW_find 43 = .ok (.invokevirtual 18, 3) := by decide +kernel
theorem d_PW_find_46 : decode b_PW_find 46 = .ok (.ldc 22, 2) := by decide +kernel
theorem d_PW_find_48 : decode b_PW_find 48 = .ok (.if_icmp .gt 14, 3) := by decide +kernel
theorem d_PW_find_51 : decode b_PW_find 51 = .ok (.aload_n 0, 1) := by decide +kernel
theorem d_PW_find_52 : decode b_PW_find 52 = .ok (.aload_n 1, 1) := by decide +kernel
theorem d_PW_find_53 : decode b_PW_find 53 = .ok (.invokevirtual 23, 3) := by decide +kernel
theorem d_PW_find_56 : decode b_PW_find 56 = .ok (.iinc 4 1, 3) := by decide +kernel
theorem d_PW_find_59 : decode b_PW_find 59 = .ok (.goto (-23), 3) := by decide +kernel
theorem d_PW_find_62 : decode b_PW_find 62 = .ok (.aload_n 0, 1) := by decide +kernel
theorem d_PW_find_63 : decode b_PW_find 63 = .ok (.invokevirtual 18, 3) := by decide +kernel
theorem d_PW_find_66 : decode b_PW_find 66 = .ok (.ldc 22, 2) := by decide +kernel
theorem d_PW_find_68 : decode b_PW_find 68 = .ok (.if_icmp .gt 7, 3) := by decide +kernel
theorem d_PW_find_71 : decode b_PW_find 71 = .ok (.iconst 1, 1) := by decide +kernel
theorem d_PW_find_72 : decode b_PW_find 72 = .ok (.goto 4, 3) := by decide +kernel
theorem d_PW_find_75 : decode b_PW_find 75 = .ok (.iconst 0, 1) := by decide +kernel
theorem d_PW_find_76 : decode b_PW_find 76 = .ok (.ireturn, 1) := by decide +kernel
theorem d_PW_goOn_0 : decode b_PW_goOn 0 = .ok (.iconst 0, 1) := by decide +kernel
theorem d_PW_goOn_1 : decode b_PW_goOn 1 = .ok (.istore_n 2, 1) := by decide +kernel
theorem d_PW_goOn_2 : decode b_PW_goOn 2 = .ok (.iload_n 2, 1) := by decide +kernel
theorem d_PW_goOn_3 : decode b_PW_goOn 3 = .ok (.iconst 4, 1) := by decide +kernel
theorem d_PW_goOn_4 : decode b_PW_goOn 4 = .ok (.if_icmp .ge 54, 3) := by decide +kernel
theorem d_PW_goOn_7 : decode b_PW_goOn 7 = .ok (.aload_n 0, 1) := by decide +kernel
theorem d_PW_goOn_8 : decode b_PW_goOn 8 = .ok (.getfield 15, 3) := by decide +kernel
theorem d_PW_goOn_11 : decode b_PW_goOn 11 = .ok (.iload_n 2, 1) := by decide +kernel
theorem d_PW_goOn_12 : decode b_PW_goOn 12 = .ok (.iconst 0, 1) := by decide +kernel
theorem d_PW_goOn_13 : decode b_PW_goOn 13 = .ok (.iastore, 1) := by decide +kernel
theorem d_PW_goOn_14 : decode b_PW_goOn 14 = .ok (.iconst 0, 1) := by decide +kernel
theorem d_PW_goOn_15 : decode b_PW_goOn 15 = .ok (.istore_n 3, 1) := by decide +kernel
theorem d_PW_goOn_16 : decode b_PW_goOn 16 = .ok (.iload_n 3, 1) := by decide +kernel
theorem d_PW_goOn_17 : decode b_PW_goOn 17 = .ok (.iconst 4, 1) := by decide +kernel
theorem d_PW_goOn_18 : decode b_PW_goOn 18 = .ok (.if_icmp .ge 34, 3) := by decide +kernel
theorem d_PW_goOn_21 : decode b_PW_goOn 21 = .ok (.aload_n 0, 1) := by decide +kernel
theorem d_PW_goOn_22 : decode b_PW_goOn 22 = .ok (.getfield 15, 3) := by decide +kernel
theorem d_PW_goOn_25 : decode b_PW_goOn 25 = .ok (.iload_n 2, 1) := by decide +kernel
theorem d_PW_goOn_26 : decode b_PW_goOn 26 = .ok (.dup2, 1) := by decide +kernel
theorem d_PW_goOn_27 : decode b_PW_goOn 27 = .ok (.iaload, 1) := by decide +kernel
theorem d_PW_goOn_28 : decode b_PW_goOn 28 = .ok (.aload_n 0, 1) := by decide +kernel
theorem d_PW_goOn_29 : decode b_PW_goOn 29 = .ok (.getfield 9, 3) := by decide +kernel
theorem d_PW_goOn_32 : decode b_PW_goOn 32 = .ok (.iload_n 3, 1) := by decide +kernel
theorem d_PW_goOn_33 : decode b_PW_goOn 33 = .ok (.iaload, 1) := by decide +kernel
theorem d_PW_goOn_34 : decode b_PW_goOn 34 = .ok (.aload_n 1, 1) := by decide +kernel
theorem d_PW_goOn_35 : decode b_PW_goOn 35 = .ok (.iload_n 3, 1) := by decide +kernel
theorem d_PW_goOn_36 : decode b_PW_goOn 36 = .ok (.invokevirtual 27, 3) := by decide +kernel
theorem d_PW_goOn_39 : decode b_PW_goOn 39 = .ok (.iload_n 2, 1) := by decide +kernel
theorem d_PW_goOn_40 : decode b_PW_goOn 40 = .ok (.invokevirtual 33, 3) := by decide +kernel
theorem d_PW_goOn_43 : decode b_PW_goOn 43 = .ok (.imul, 1) := by decide +kernel
theorem d_PW_goOn_44 : decode b_PW_goOn 44 = .ok (.iadd, 1) := by decide +kernel
theorem d_PW_goOn_45 : decode b_PW_goOn 45 = .ok (.iastore, 1) := by decide +kernel
theorem d_PW_goOn_46 : decode b_PW_goOn 46 = .ok (.iinc 3 1, 3) := by decide +kernel
theorem d_PW_goOn_49 : decode b_PW_goOn 49 = .ok (.goto (-33), 3) := by decide +kernel
theorem d_PW_goOn_52 : decode b_PW_goOn 52 = .ok (.iinc 2 1, 3) := by decide +kernel
theorem d_PW_goOn_55 : decode b_PW_goOn 55 = .ok (.goto (-53), 3) := by decide +kernel
theorem d_PW_goOn_58 : decode b_PW_goOn 58 = .ok (.aload_n 0, 1) := by decide +kernel
theorem d_PW_goOn_59 : decode b_PW_goOn 59 = .ok (.getfield 15, 3) := by decide +kernel
theorem d_PW_goOn_62 : decode b_PW_goOn 62 = .ok (.iconst 0, 1) := by decide +kernel
theorem d_PW_goOn_63 : decode b_PW_goOn 63 = .ok (.aload_n 0, 1) := by decide +kernel
theorem d_PW_goOn_64 : decode b_PW_goOn 64 = .ok (.getfield 9, 3) := by decide +kernel
theorem d_PW_goOn_67 : decode b_PW_goOn 67 = .ok (.iconst 0, 1) := by decide +kernel
theorem d_PW_goOn_68 : decode b_PW_goOn 68 = .ok (.iconst 4, 1) := by decide +kernel
theorem d_PW_goOn_69 : decode b_PW_goOn 69 = .ok (.invokestatic 39, 3) := by decide +kernel
theorem d_PW_goOn_72 : decode b_PW_goOn 72 = .ok (.return_, 1) := by decide +kernel
theorem d_PW_total_0 : decode b_PW_total 0 = .ok (.iconst 0, 1) := by decide +kernel
theorem d_PW_total_1 : decode b_PW_total 1 = .ok (.istore_n 1, 1) := by decide +kernel
theorem d_PW_total_2 : decode b_PW_total 2 = .ok (.iconst 0, 1) := by decide +kernel
theorem d_PW_total_3 : decode b_PW_total 3 = .ok (.istore_n 2, 1) := by decide +kernel
theorem d_PW_total_4 : decode b_PW_total 4 = .ok (.iload_n 2, 1) := by decide +kernel
theorem d_PW_total_5 : decode b_PW_total 5 = .ok (.iconst 4, 1) := by decide +kernel
theorem d_PW_total_6 : decode b_PW_total 6 = .ok (.if_icmp .ge 18, 3) := by decide +kernel
theorem d_PW_total_9 : decode b_PW_total 9 = .ok (.iload_n 1, 1) := by decide +kernel
theorem d_PW_total_10 : decode b_PW_total 10 = .ok (.aload_n 0, 1) := by decide +kernel
theorem d_PW_total_11 : decode b_PW_total 11 = .ok (.getfield 9, 3) := by decide +kernel
theorem d_PW_total_14 : decode b_PW_total 14 = .ok (.iload_n 2, 1) := by decide +kernel
theorem d_PW_total_15 : decode b_PW_total 15 = .ok (.iaload, 1) := by decide +kernel
theorem d_PW_total_16 : decode b_PW_total 16 = .ok (.iadd, 1) := by decide +kernel
theorem d_PW_total_17 : decode b_PW_total 17 = .ok (.istore_n 1, 1) := by decide +kernel
theorem d_PW_total_18 : decode b_PW_total 18 = .ok (.iinc 2 1, 3) := by decide +kernel
theorem d_PW_total_21 : decode b_PW_total 21 = .ok (.goto (-17), 3) := by decide +kernel
theorem d_PW_total_24 : decode b_PW_total 24 = .ok (.iload_n 1, 1) := by decide +kernel
theorem d_PW_total_25 : decode b_PW_total 25 = .ok (.ireturn, 1) := by decide +kernel
theorem d_PW_countOf_0 : decode b_PW_countOf 0 = .ok (.iload_n 1, 1) := by decide +kernel
theorem d_PW_countOf_1 : decode b_PW_countOf 1 = .ok (.invokestatic 45, 3) := by decide +kernel
theorem d_PW_countOf_4 : decode b_PW_countOf 4 = .ok (.ifCond .eq 12, 3) := by decide +kernel
theorem d_PW_countOf_7 : decode b_PW_countOf 7 = .ok (.aload_n 0, 1) := by decide +kernel
theorem d_PW_countOf_8 : decode b_PW_countOf 8 = .ok (.getfield 9, 3) := by decide +kernel
theorem d_PW_countOf_11 : decode b_PW_countOf 11 = .ok (.iload_n 1, 1) := by decide +kernel
theorem d_PW_countOf_12 : decode b_PW_countOf 12 = .ok (.iaload, 1) := by decide +kernel
theorem d_PW_countOf_13 : decode b_PW_countOf 13 = .ok (.goto 4, 3) := by decide +kernel
theorem d_PW_countOf_16 : decode b_PW_countOf 16 = .ok (.iconst 0, 1) := by decide +kernel
theorem d_PW_countOf_17 : decode b_PW_countOf 17 = .ok (.ireturn, 1) := by decide +kernel
theorem d_RT_init_0 : decode b_RT_init 0 = .ok (.aload_n 0, 1) := by decide +kernel
theorem d_RT_init_1 : decode b_RT_init 1 = .ok (.invokespecial 3, 3) := by decide +kernel
theorem d_RT_init_4 : decode b_RT_init 4 = .ok (.aload_n 0, 1) := by decide +kernel
theorem d_RT_init_5 : decode b_RT_init 5 = .ok (.sipush 300, 3) := by decide +kernel
theorem d_RT_init_8 : decode b_RT_init 8 = .ok (.newarray .int, 2) := by decide +kernel
theorem d_RT_init_10 : decode b_RT_init 10 = .ok (.putfield 9, 3) := by decide +kernel
theorem d_RT_init_13 : decode b_RT_init 13 = .ok (.aload_n 0, 1) := by decide +kernel
theorem d_RT_init_14 : decode b_RT_init 14 = .ok (.iconst 0, 1) := by decide +kernel
theorem d_RT_init_15 : decode b_RT_init 15 = .ok (.putfield 15, 3) := by decide +kernel
theorem d_RT_init_18 : decode b_RT_init 18 = .ok (.aload_n 0, 1) := by decide +kernel
theorem d_RT_init_19 : decode b_RT_init 19 = .ok (.sipush 300, 3) := by decide +kernel
theorem d_RT_init_22 : decode b_RT_init 22 = .ok (.newarray .int, 2) := by decide +kernel
theorem d_RT_init_24 : decode b_RT_init 24 = .ok (.putfield 19, 3) := by decide +kernel
theorem d_RT_init_27 : decode b_RT_init 27 = .ok (.aload_n 0, 1) := by decide +kernel
theorem d_RT_init_28 : decode b_RT_init 28 = .ok (.sipush 300, 3) := by decide +kernel
theorem d_RT_init_31 : decode b_RT_init 31 = .ok (.newarray .int, 2) := by decide +kernel
theorem d_RT_init_33 : decode b_RT_init 33 = .ok (.putfield 22, 3) := by decide +kernel
theorem d_RT_init_36 : decode b_RT_init 36 = .ok (.aload_n 0, 1) := by decide +kernel
theorem d_RT_init_37 : decode b_RT_init 37 = .ok (.sipush 300, 3) := by decide +kernel
theorem d_RT_init_40 : decode b_RT_init 40 = .ok (.newarray .int, 2) := by decide +kernel
theorem d_RT_init_42 : decode b_RT_init 42 = .ok (.putfield 25, 3) := by decide +kernel
theorem d_RT_init_45 : decode b_RT_init 45 = .ok (.aload_n 0, 1) := by decide +kernel
theorem d_RT_init_46 : decode b_RT_init 46 = .ok (.iconst 0, 1) := by decide +kernel
theorem d_RT_init_47 : decode b_RT_init 47 = .ok (.putfield 28, 3) := by decide +kernel
theorem d_RT_init_50 : decode b_RT_init 50 = .ok (.return_, 1) := by decide +kernel
theorem d_RT_find_0 : decode b_RT_find 0 = .ok (.aload_n 0, 1) := by decide +kernel
theorem d_RT_find_1 : decode b_RT_find 1 = .ok (.iconst 0, 1) := by decide +kernel
theorem d_RT_find_2 : decode b_RT_find 2 = .ok (.putfield 15, 3) := by decide +kernel
theorem d_RT_find_5 : decode b_RT_find 5 = .ok (.aload_n 0, 1) := by decide +kernel
theorem d_RT_find_6 : decode b_RT_find 6 = .ok (.iconst 0, 1) := by decide +kernel
theorem d_RT_find_7 : decode b_RT_find 7 = .ok (.putfield 28, 3) := by decide +kernel
theorem d_RT_find_10 : decode b_RT_find 10 = .ok (.aload_n 2, 1) := by decide +kernel
theorem d_RT_find_11 : decode b_RT_find 11 = .ok (.invokevirtual 31, 3) := by decide +kernel
theorem d_RT_find_14 : decode b_RT_find 14 = .ok (.iconst 1, 1) := by decide +kernel
theorem d_RT_find_15 : decode b_RT_find 15 = .ok (.if_icmp .ge 4, 3) := by decide +kernel
theorem d_RT_find_18 : decode b_RT_find 18 = .ok (.return_, 1) := by decide +kernel
theorem d_RT_find_19 : decode b_RT_find 19 = .ok (.iconst 0, 1) := by decide +kernel
theorem d_RT_find_20 : decode b_RT_find 20 = .ok (.istore_n 3, 1) := by decide +kernel
theorem d_RT_find_21 : decode b_RT_find 21 = .ok (.iload_n 3, 1) := by decide +kernel
theorem d_RT_find_22 : decode b_RT_find 22 = .ok (.aload_n 2, 1) := by decide +kernel
theorem d_RT_find_23 : decode b_RT_find 23 = .ok (.invokevirtual 31, 3) := by decide +kernel
theorem d_RT_find_26 : decode b_RT_find 26 = .ok (.iadd, 1) := by decide +kernel
theorem d_RT_find_27 : decode b_RT_find 27 = .ok (.aload_n 1, 1) := by decide +kernel
theorem d_RT_find_28 : decode b_RT_find 28 = .ok (.invokevirtual 31, 3) := by decide +kernel
theorem d_RT_find_31 : decode b_RT_find 31 = .ok (.if_icmp .gt 50, 3) := by decide +kernel
theorem d_RT_find_34 : decode b_RT_find 34 = .ok (.aload_n 0, 1) := by decide +kernel
theorem d_RT_find_35 : decode b_RT_find 35 = .ok (.getfield 15, 3) := by decide +kernel
theorem d_RT_find_38 : decode b_RT_find 38 = .ok (.aload_n 0, 1) := by decide +kernel
theorem d_RT_find_39 : decode b_RT_find 39 = .ok (.getfield 9, 3) := by decide +kernel
theorem d_RT_find_42 : decode b_RT_find 42 = .ok (.arraylength, 1) := by decide +kernel
theorem d_RT_find_43 : decode b_RT_find 43 = .ok (.if_icmp .ge 32, 3) := by decide +kernel
theorem d_RT_find_46 : decode b_RT_find 46 = .ok (.aload_n 1, 1) := by decide +kernel
theorem d_RT_find_47 : decode b_RT_find 47 = .ok (.iload_n 3, 1) := by decide +kernel
theorem d_RT_find_48 : decode b_RT_find 48 = .ok (.aload_n 2, 1) := by decide +kernel
theorem d_RT_find_49 : decode b_RT_find 49 = .ok (.invokevirtual 37, 3) := by decide +kernel
theorem d_RT_find_52 : decode b_RT_find 52 = .ok (.ifCond .eq 23, 3) := by decide +kernel
theorem d_RT_find_55 : decode b_RT_find 55 = .ok (.aload_n 0, 1) := by decide +kernel
theorem d_RT_find_56 : decode b_RT_find 56 = .ok (.getfield 9, 3) := by decide +kernel
theorem d_RT_find_59 : decode b_RT_find 59 = .ok (.aload_n 0, 1) := by decide +kernel
theorem d_RT_find_60 : decode b_RT_find 60 = .ok (.getfield 15, 3) := by decide +kernel
theorem d_RT_find_63 : decode b_RT_find 63 = .ok (.iload_n 3, 1) := by decide +kernel
theorem d_RT_find_64 : decode b_RT_find 64 = .ok (.iastore, 1) := by decide +kernel
theorem d_RT_find_65 : decode b_RT_find 65 = .ok (.aload_n 0, 1) := by decide +kernel
theorem d_RT_find_66 : decode b_RT_find 66 = .ok (.dup, 1) := by decide +kernel
theorem d_RT_find_67 : decode b_RT_find 67 = .ok (.getfield 15, 3) := by decide +kernel
theorem d_RT_find_70 : decode b_RT_find 70 = .ok (.iconst 1, 1) := by decide +kernel
theorem d_RT_find_71 : decode b_RT_find 71 = .ok (.iadd, 1) := by decide +kernel
theorem d_RT_find_72 : decode b_RT_find 72 = .ok (.putfield 15, 3) := by decide +kernel
theorem d_RT_find_75 : decode b_RT_find 75 = .ok (.iinc 3 1, 3) := by decide +kernel
theorem d_RT_find_78 : decode b_RT_find 78 = .ok (.goto (-57), 3) := by decide +kernel
theorem d_RT_find_81 : decode b_RT_find 81 = .ok (.iconst 0, 1) := by decide +kernel
theorem d_RT_find_82 : decode b_RT_find 82 = .ok (.istore_n 3, 1) := by decide +kernel
theorem d_RT_find_83 : decode b_RT_find 83 = .ok (.iload_n 3, 1) := by decide +kernel
theorem d_RT_find_84 : decode b_RT_find 84 = .ok (.aload_n 0, 1) := by decide +kernel
theorem d_RT_find_85 : decode b_RT_find 85 = .ok (.invokevirtual 41, 3) := by decide +kernel
theorem d_RT_find_88 : decode b_RT_find 88 = .ok (.if_icmp .ge 15, 3) := by decide +kernel
theorem d_RT_find_91 : decode b_RT_find 91 = .ok (.aload_n 0, 1) := by decide +kernel
theorem d_RT_find_92 : decode b_RT_find 92 = .ok (.aload_n 1, 1) := by decide +kernel
theorem d_RT_find_93 : decode b_RT_find 93 = .ok (.iload_n 3, 1) := by decide +kernel
theorem d_RT_find_94 : decode b_RT_find 94 = .ok (.invokevirtual 44, 3) := by decide +kernel
theorem d_RT_find_97 : decode b_RT_find 97 = .ok (.iinc 3 1, 3) := by decide +kernel
theorem d_RT_find_100 : decode b_RT_find 100 = .ok (.goto (-17), 3) := by decide +kernel
theorem d_RT_find_103 : decode b_RT_find 103 = .ok (.return_, 1) := by decide +kernel
theorem d_RT_addReturn_0 : decode b_RT_addReturn 0 = .ok (.iconst 0, 1) := by decide +kernel
theorem d_RT_addReturn_1 : decode b_RT_addReturn 1 = .ok (.istore_n 3, 1) := by decide +kernel
theorem d_RT_addReturn_2 : decode b_RT_addReturn 2 = .ok (.iload_n 3, 1) := by decide +kernel
theorem d_RT_addReturn_3 : decode b_RT_addReturn 3 = .ok (.aload_n 0, 1) := by decide +kernel
theorem d_RT_addReturn_4 : decode b_RT_addReturn 4 = .ok (.getfield 28, 3) := by decide +kernel
theorem d_RT_addReturn_7 : decode b_RT_addReturn 7 = .ok (.if_icmp .ge 24, 3) := by decide +kernel
theorem d_RT_addReturn_10 : decode b_RT_addReturn 10 = .ok (.aload_n 0, 1) := by decide +kernel
theorem d_RT_addReturn_11 : decode b_RT_addReturn 11 = .ok (.aload_n 1, 1) := by decide +kernel
theorem d_RT_addReturn_12 : decode b_RT_addReturn 12 = .ok (.aload_n 0, 1) := by decide +kernel
theorem d_RT_addReturn_13 : decode b_RT_addReturn 13 = .ok (.getfield 22, 3) := by decide +kernel
theorem d_RT_addReturn_16 : decode b_RT_addReturn 16 = .ok (.iload_n 3, 1) := by decide +kernel
theorem d_RT_addReturn_17 : decode b_RT_addReturn 17 = .ok (.iaload, 1) := by decide +kernel
theorem d_RT_addReturn_18 : decode b_RT_addReturn 18 = .ok (.iload_n 2, 1) := by decide +kernel
theorem d_RT_addReturn_19 : decode b_RT_addReturn 19 = .ok (.invokevirtual 48, 3) := by decide +kernel
theorem d_RT_addReturn_22 : decode b_RT_addReturn 22 = .ok (.ifCond .ne 9, 3) := by decide +kernel
theorem d_RT_addReturn_25 : decode b_RT_addReturn 25 = .ok (.iinc 3 1, 3) := by decide +kernel
theorem d_RT_addReturn_28 : decode b_RT_addReturn 28 = .ok (.goto (-26), 3) := by decide +kernel
theorem d_RT_addReturn_31 : decode b_RT_addReturn 31 = .ok (.iload_n 3, 1) := by decide +kernel
theorem d_RT_addReturn_32 : decode b_RT_addReturn 32 = .ok (.aload_n 0, 1) := by decide +kernel
theorem d_RT_addReturn_33 : decode b_RT_addReturn 33 = .ok (.getfield 22, 3) := by decide +kernel
theorem d_RT_addReturn_36 : decode b_RT_addReturn 36 = .ok (.arraylength, 1) := by decide +kernel
theorem d_RT_addReturn_37 : decode b_RT_addReturn 37 = .ok (.if_icmp .ge 16, 3) := by decide +kernel
theorem d_RT_addReturn_40 : decode b_RT_addReturn 40 = .ok (.iload_n 2, 1) := by decide +kernel
theorem d_RT_addReturn_41 : decode b_RT_addReturn 41 = .ok (.ifCond .lt 12, 3) := by decide +kernel
theorem d_RT_addReturn_44 : decode b_RT_addReturn 44 = .ok (.iload_n 2, 1) := by decide +kernel
theorem d_RT_addReturn_45 : decode b_RT_addReturn 45 = .ok (.aload_n 0, 1) := by decide +kernel
theorem d_RT_addReturn_46 : decode b_RT_addReturn 46 = .ok (.getfield 19, 3) := by decide +kernel
theorem d_RT_addReturn_49 : decode b_RT_addReturn 49 = .ok (.arraylength, 1) := by decide +kernel
theorem d_RT_addReturn_50 : decode b_RT_addReturn 50 = .ok (.if_icmp .lt 4, 3) := by decide +kernel
theorem d_RT_addReturn_53 : decode b_RT_addReturn 53 = .ok (.return_, 1) := by decide +kernel
theorem d_RT_addReturn_54 : decode b_RT_addReturn 54 = .ok (.iload_n 3, 1) := by decide +kernel
theorem d_RT_addReturn_55 : decode b_RT_addReturn 55 = .ok (.aload_n 0, 1) := by decide +kernel
theorem d_RT_addReturn_56 : decode b_RT_addReturn 56 = .ok (.getfield 28, 3) := by decide +kernel
theorem d_RT_addReturn_59 : decode b_RT_addReturn 59 = .ok (.if_icmp .ne 27, 3) := by decide +kernel
theorem d_RT_addReturn_62 : decode b_RT_addReturn 62 = .ok (.aload_n 0, 1) := by decide +kernel
theorem d_RT_addReturn_63 : decode b_RT_addReturn 63 = .ok (.getfield 22, 3) := by decide +kernel
theorem d_RT_addReturn_66 : decode b_RT_addReturn 66 = .ok (.iload_n 3, 1) := by decide +kernel
theorem d_RT_addReturn_67 : decode b_RT_addReturn 67 = .ok (.iload_n 2, 1) := by decide +kernel
theorem d_RT_addReturn_68 : decode b_RT_addReturn 68 = .ok (.iastore, 1) := by decide +kernel
theorem d_RT_addReturn_69 : decode b_RT_addReturn 69 = .ok (.aload_n 0, 1) := by decide +kernel
theorem d_RT_addReturn_70 : decode b_RT_addReturn 70 = .ok (.getfield 25, 3) := by decide +kernel
theorem d_RT_addReturn_73 : decode b_RT_addReturn 73 = .ok (.iload_n 3, 1) := by decide +kernel
theorem d_RT_addReturn_74 : decode b_RT_addReturn 74 = .ok (.iconst 0, 1) := by decide +kernel
theorem d_RT_addReturn_75 : decode b_RT_addReturn 75 = .ok (.iastore, 1) := by decide +kernel
theorem d_RT_addReturn_76 : decode b_RT_addReturn 76 = .ok (.aload_n 0, 1) := by decide +kernel
theorem d_RT_addReturn_77 : decode b_RT_addReturn 77 = .ok (.dup, 1) := by decide +kernel
theorem d_RT_addReturn_78 : decode b_RT_addReturn 78 = .ok (.getfield 28, 3) := by decide +kernel
theorem d_RT_addReturn_81 : decode b_RT_addReturn 81 = .ok (.iconst 1, 1) := by decide +kernel
theorem d_RT_addReturn_82 : decode b_RT_addReturn 82 = .ok (.iadd, 1) := by decide +kernel
theorem d_RT_addReturn_83 : decode b_RT_addReturn 83 = .ok (.putfield 28, 3) := by decide +kernel
theorem d_RT_addReturn_86 : decode b_RT_addReturn 86 = .ok (.aload_n 0, 1) := by decide +kernel
theorem d_RT_addReturn_87 : decode b_RT_addReturn 87 = .ok (.getfield 25, 3) := by decide +kernel
theorem d_RT_addReturn_90 : decode b_RT_addReturn 90 = .ok (.iload_n 3, 1) := by decide +kernel
theorem d_RT_addReturn_91 : decode b_RT_addReturn 91 = .ok (.dup2, 1) := by decide +kernel
theorem d_RT_addReturn_92 : decode b_RT_addReturn 92 = .ok (.iaload, 1) := by decide +kernel
theorem d_RT_addReturn_93 : decode b_RT_addReturn 93 = .ok (.iconst 1, 1) := by decide +kernel
theorem d_RT_addReturn_94 : decode b_RT_addReturn 94 = .ok (.iadd, 1) := by decide +kernel
theorem d_RT_addReturn_95 : decode b_RT_addReturn 95 = .ok (.iastore, 1) := by decide +kernel
theorem d_RT_addReturn_96 : decode b_RT_addReturn 96 = .ok (.aload_n 0, 1) := by decide +kernel
theorem d_RT_addReturn_97 : decode b_RT_addReturn 97 = .ok (.getfield 19, 3) := by decide +kernel
theorem d_RT_addReturn_100 : decode b_RT_addReturn 100 = .ok (.iload_n 2, 1) := by decide +kernel
theorem d_RT_addReturn_101 : decode b_RT_addReturn 101 = .ok (.iload_n 3, 1) := by decide +kernel
theorem d_RT_addReturn_102 : decode b_RT_addReturn 102 = .ok (.iastore, 1) := by decide +kernel
theorem d_RT_addReturn_103 : decode b_RT_addReturn 103 = .ok (.return_, 1) := by decide +kernel
theorem d_RT_isSameReturn_0 : decode b_RT_isSameReturn 0 = .ok (.aload_n 0, 1) := by decide +kernel
theorem d_RT_isSameReturn_1 : decode b_RT_isSameReturn 1 = .ok (.iload_n 2, 1) := by decide +kernel
theorem d_RT_isSameReturn_2 : decode b_RT_isSameReturn 2 = .ok (.invokevirtual 52, 3) := by decide +kernel
theorem d_RT_isSameReturn_5 : decode b_RT_isSameReturn 5 = .ok (.istore 4, 2) := by decide +kernel
theorem d_RT_isSameReturn_7 : decode b_RT_isSameReturn 7 = .ok (.iload 4, 2) := by decide +kernel
theorem d_RT_isSameReturn_9 : decode b_RT_isSameReturn 9 = .ok (.aload_n 0, 1) := by decide +kernel
theorem d_RT_isSameReturn_10 : decode b_RT_isSameReturn 10 = .ok (.iload_n 3, 1) := by decide +kernel
theorem d_RT_isSameReturn_11 : decode b_RT_isSameReturn 11 = .ok (.invokevirtual 52, 3) := by decide +kernel
theorem d_RT_isSameReturn_14 : decode b_RT_isSameReturn 14 = .ok (.if_icmp .ne 26, 3) := by decide +kernel
theorem d_RT_isSameReturn_17 : decode b_RT_isSameReturn 17 = .ok (.aload_n 1, 1) := by decide +kernel
theorem d_RT_isSameReturn_18 : decode b_RT_isSameReturn 18 = .ok (.aload_n 0, 1) := by decide +kernel
theorem d_RT_isSameReturn_19 : decode b_RT_isSameReturn 19 = .ok (.iload_n 2, 1) := by decide +kernel
theorem d_RT_isSameReturn_20 : decode b_RT_isSameReturn 20 = .ok (.invokevirtual 56, 3) := by decide +kernel
theorem d_RT_isSameReturn_23 : decode b_RT_isSameReturn 23 = .ok (.aload_n 0, 1) := by decide +kernel
theorem d_RT_isSameReturn_24 : decode b_RT_isSameReturn 24 = .ok (.iload_n 3, 1) := by decide +kernel
theorem d_RT_isSameReturn_25 : decode b_RT_isSameReturn 25 = .ok (.invokevirtual 56, 3) := by decide +kernel
theorem d_RT_isSameReturn_28 : decode b_RT_isSameReturn 28 = .ok (.iload 4, 2) := by decide +kernel
theorem d_RT_isSameReturn_30 : decode b_RT_isSameReturn 30 = .ok (.invokevirtual 59, 3) := by decide +kernel
theorem d_RT_isSameReturn_33 : decode b_RT_isSameReturn 33 = .ok (.ifCond .eq 7, 3) := by decide +kernel
theorem d_RT_isSameReturn_36 : decode b_RT_isSameReturn 36 = .ok (.iconst 1, 1) := by decide +kernel
theorem d_RT_isSameReturn_37 : decode b_RT_isSameReturn 37 = .ok (.goto 4, 3) := by decide +kernel
theorem d_RT_isSameReturn_40 : decode b_RT_isSameReturn 40 = .ok (.iconst 0, 1) := by decide +kernel
theorem d_RT_isSameReturn_41 : decode b_RT_isSameReturn 41 = .ok (.ireturn, 1) := by decide +kernel
theorem d_RT_spanOf_0 : decode b_RT_spanOf 0 = .ok (.aload_n 0, 1) := by decide +kernel
theorem d_RT_spanOf_1 : decode b_RT_spanOf 1 = .ok (.iload_n 1, 1) := by decide +kernel
theorem d_RT_spanOf_2 : decode b_RT_spanOf 2 = .ok (.iconst 1, 1) := by decide +kernel
theorem d_RT_spanOf_3 : decode b_RT_spanOf 3 = .ok (.iadd, 1) := by decide +kernel
theorem d_RT_spanOf_4 : decode b_RT_spanOf 4 = .ok (.invokevirtual 56, 3) := by decide +kernel
theorem d_RT_spanOf_7 : decode b_RT_spanOf 7 = .ok (.aload_n 0, 1) := by decide +kernel
theorem d_RT_spanOf_8 : decode b_RT_spanOf 8 = .ok (.iload_n 1, 1) := by decide +kernel
theorem d_RT_spanOf_9 : decode b_RT_spanOf 9 = .ok (.invokevirtual 56, 3) := by decide +kernel
theorem d_RT_spanOf_12 : decode b_RT_spanOf 12 = .ok (.isub, 1) := by decide +kernel
theorem d_RT_spanOf_13 : decode b_RT_spanOf 13 = .ok (.ireturn, 1) := by decide +kernel
theorem d_RT_found_0 : decode b_RT_found 0 = .ok (.aload_n 0, 1) := by decide +kernel
theorem d_RT_found_1 : decode b_RT_found 1 = .ok (.getfield 15, 3) := by decide +kernel
theorem d_RT_found_4 : decode b_RT_found 4 = .ok (.ireturn, 1) := by decide +kernel
theorem d_RT_placeOf_0 : decode b_RT_placeOf 0 = .ok (.iload_n 1, 1) := by decide +kernel
theorem d_RT_placeOf_1 : decode b_RT_placeOf 1 = .ok (.ifCond .lt 20, 3) := by decide +kernel
theorem d_RT_placeOf_4 : decode b_RT_placeOf 4 = .ok (.iload_n 1, 1) := by decide +kernel
theorem d_RT_placeOf_5 : decode b_RT_placeOf 5 = .ok (.aload_n 0, 1) := by decide +kernel
theorem d_RT_placeOf_6 : decode b_RT_placeOf 6 = .ok (.getfield 15, 3) := by decide +kernel
theorem d_RT_placeOf_9 : decode b_RT_placeOf 9 = .ok (.if_icmp .ge 12, 3) := by decide +kernel
theorem d_RT_placeOf_12 : decode b_RT_placeOf 12 = .ok (.aload_n 0, 1) := by decide +kernel
theorem d_RT_placeOf_13 : decode b_RT_placeOf 13 = .ok (.getfield 9, 3) := by decide +kernel
theorem d_RT_placeOf_16 : decode b_RT_placeOf 16 = .ok (.iload_n 1, 1) := by decide +kernel
theorem d_RT_placeOf_17 : decode b_RT_placeOf 17 = .ok (.iaload, 1) := by decide +kernel
theorem d_RT_placeOf_18 : decode b_RT_placeOf 18 = .ok (.goto 4, 3) := by decide +kernel
theorem d_RT_placeOf_21 : decode b_RT_placeOf 21 = .ok (.iconst 0, 1) := by decide +kernel
theorem d_RT_placeOf_22 : decode b_RT_placeOf 22 = .ok (.ireturn, 1) := by decide +kernel
theorem d_RT_rowLength_0 : decode b_RT_rowLength 0 = .ok (.aload_n 0, 1) := by decide +kernel
theorem d_RT_rowLength_1 : decode b_RT_rowLength 1 = .ok (.getfield 15, 3) := by decide +kernel
theorem d_RT_rowLength_4 : decode b_RT_rowLength 4 = .ok (.iconst 1, 1) := by decide +kernel
theorem d_RT_rowLength_5 : decode b_RT_rowLength 5 = .ok (.isub, 1) := by decide +kernel
theorem d_RT_rowLength_6 : decode b_RT_rowLength 6 = .ok (.iconst 0, 1) := by decide +kernel
theorem d_RT_rowLength_7 : decode b_RT_rowLength 7 = .ok (.invokestatic 63, 3) := by decide +kernel
theorem d_RT_rowLength_10 : decode b_RT_rowLength 10 = .ok (.ireturn, 1) := by decide +kernel
theorem d_RT_numberAt_0 : decode b_RT_numberAt 0 = .ok (.iload_n 1, 1) := by decide +kernel
theorem d_RT_numberAt_1 : decode b_RT_numberAt 1 = .ok (.ifCond .lt 20, 3) := by decide +kernel
theorem d_RT_numberAt_4 : decode b_RT_numberAt 4 = .ok (.iload_n 1, 1) := by decide +kernel
theorem d_RT_numberAt_5 : decode b_RT_numberAt 5 = .ok (.aload_n 0, 1) := by decide +kernel
theorem d_RT_numberAt_6 : decode b_RT_numberAt 6 = .ok (.invokevirtual 41, 3) := by decide +kernel
theorem d_RT_numberAt_9 : decode b_RT_numberAt 9 = .ok (.if_icmp .ge 12, 3) := by decide +kernel
theorem d_RT_numberAt_12 : decode b_RT_numberAt 12 = .ok (.aload_n 0, 1) := by decide +kernel
theorem d_RT_numberAt_13 : decode b_RT_numberAt 13 = .ok (.getfield 19, 3) := by decide +kernel
theorem d_RT_numberAt_16 : decode b_RT_numberAt 16 = .ok (.iload_n 1, 1) := by decide +kernel
theorem d_RT_numberAt_17 : decode b_RT_numberAt 17 = .ok (.iaload, 1) := by decide +kernel
theorem d_RT_numberAt_18 : decode b_RT_numberAt 18 = .ok (.goto 4, 3) := by decide +kernel
theorem d_RT_numberAt_21 : decode b_RT_numberAt 21 = .ok (.iconst 0, 1) := by decide +kernel
theorem d_RT_numberAt_22 : decode b_RT_numberAt 22 = .ok (.ireturn, 1) := by decide +kernel
theorem d_RT_different_0 : decode b_RT_different 0 = .ok (.aload_n 0, 1) := by decide +kernel
theorem d_RT_different_1 : decode b_RT_different 1 = .ok (.getfield 28, 3) := by decide +kernel
theorem d_RT_different_4 : decode b_RT_different 4 = .ok (.ireturn, 1) := by decide +kernel
theorem d_RT_lengthOf_0 : decode b_RT_lengthOf 0 = .ok (.aload_n 0, 1) := by decide +kernel
theorem d_RT_lengthOf_1 : decode b_RT_lengthOf 1 = .ok (.iload_n 1, 1) := by decide +kernel
theorem d_RT_lengthOf_2 : decode b_RT_lengthOf 2 = .ok (.invokevirtual 69, 3) := by decide +kernel
theorem d_RT_lengthOf_5 : decode b_RT_lengthOf 5 = .ok (.ifCond .eq 16, 3) := by decide +kernel
theorem d_RT_lengthOf_8 : decode b_RT_lengthOf 8 = .ok (.aload_n 0, 1) := by decide +kernel
theorem d_RT_lengthOf_9 : decode b_RT_lengthOf 9 = .ok (.aload_n 0, 1) := by decide +kernel
theorem d_RT_lengthOf_10 : decode b_RT_lengthOf 10 = .ok (.getfield 22, 3) := by decide +kernel
theorem d_RT_lengthOf_13 : decode b_RT_lengthOf 13 = .ok (.iload_n 1, 1) := by decide +kernel
theorem d_RT_lengthOf_14 : decode b_RT_lengthOf 14 = .ok (.iaload, 1) := by decide +kernel
theorem d_RT_lengthOf_15 : decode b_RT_lengthOf 15 = .ok (.invokevirtual 52, 3) := by decide +kernel
theorem d_RT_lengthOf_18 : decode b_RT_lengthOf 18 = .ok (.goto 4, 3) := by decide +kernel
theorem d_RT_lengthOf_21 : decode b_RT_lengthOf 21 = .ok (.iconst 0, 1) := by decide +kernel
theorem d_RT_lengthOf_22 : decode b_RT_lengthOf 22 = .ok (.ireturn, 1) := by decide +kernel
theorem d_RT_firstPlaceOf_0 : decode b_RT_firstPlaceOf 0 = .ok (.aload_n 0, 1) := by decide +kernel
theorem d_RT_firstPlaceOf_1 : decode b_RT_firstPlaceOf 1 = .ok (.iload_n 1, 1) := by decide +kernel
theorem d_RT_firstPlaceOf_2 : decode b_RT_firstPlaceOf 2 = .ok (.invokevirtual 69, 3) := by decide +kernel
theorem d_RT_firstPlaceOf_5 : decode b_RT_firstPlaceOf 5 = .ok (.ifCond .eq 16, 3) := by decide +kernel
theorem d_RT_firstPlaceOf_8 : decode b_RT_firstPlaceOf 8 = .ok (.aload_n 0, 1) := by decide +kernel
theorem d_RT_firstPlaceOf_9 : decode b_RT_firstPlaceOf 9 = .ok (.aload_n 0, 1) := by decide +kernel
theorem d_RT_firstPlaceOf_10 : decode b_RT_firstPlaceOf 10 = .ok (.getfield 22, 3) := by decide +kernel
theorem d_RT_firstPlaceOf_13 : decode b_RT_firstPlaceOf 13 = .ok (.iload_n 1, 1) := by decide +kernel
theorem d_RT_firstPlaceOf_14 : decode b_RT_firstPlaceOf 14 = .ok (.iaload, 1) := by decide +kernel
theorem d_RT_firstPlaceOf_15 : decode b_RT_firstPlaceOf 15 = .ok (.invokevirtual 56, 3) := by decide +kernel
theorem d_RT_firstPlaceOf_18 : decode b_RT_firstPlaceOf 18 = .ok (.goto 4, 3) := by decide +kernel
theorem d_RT_firstPlaceOf_21 : decode b_RT_firstPlaceOf 21 = .ok (.iconst 0, 1) := by decide +kernel
theorem d_RT_firstPlaceOf_22 : decode b_RT_firstPlaceOf 22 = .ok (.ireturn, 1) := by decide +kernel
theorem d_RT_timesOf_0 : decode b_RT_timesOf 0 = .ok (.aload_n 0, 1) := by decide +kernel
theorem d_RT_timesOf_1 : decode b_RT_timesOf 1 = .ok (.iload_n 1, 1) := by decide +kernel
theorem d_RT_timesOf_2 : decode b_RT_timesOf 2 = .ok (.invokevirtual 69, 3) := by decide +kernel
theorem d_RT_timesOf_5 : decode b_RT_timesOf 5 = .ok (.ifCond .eq 12, 3) := by decide +kernel
theorem d_RT_timesOf_8 : decode b_RT_timesOf 8 = .ok (.aload_n 0, 1) := by decide +kernel
theorem d_RT_timesOf_9 : decode b_RT_timesOf 9 = .ok (.getfield 25, 3) := by decide +kernel
theorem d_RT_timesOf_12 : decode b_RT_timesOf 12 = .ok (.iload_n 1, 1) := by decide +kernel
theorem d_RT_timesOf_13 : decode b_RT_timesOf 13 = .ok (.iaload, 1) := by decide +kernel
theorem d_RT_timesOf_14 : decode b_RT_timesOf 14 = .ok (.goto 4, 3) := by decide +kernel
theorem d_RT_timesOf_17 : decode b_RT_timesOf 17 = .ok (.iconst 0, 1) := by decide +kernel
theorem d_RT_timesOf_18 : decode b_RT_timesOf 18 = .ok (.ireturn, 1) := by decide +kernel
theorem d_RT_isReturn_0 : decode b_RT_isReturn 0 = .ok (.iload_n 1, 1) := by decide +kernel
theorem d_RT_isReturn_1 : decode b_RT_isReturn 1 = .ok (.ifCond .lt 15, 3) := by decide +kernel
theorem d_RT_isReturn_4 : decode b_RT_isReturn 4 = .ok (.iload_n 1, 1) := by decide +kernel
theorem d_RT_isReturn_5 : decode b_RT_isReturn 5 = .ok (.aload_n 0, 1) := by decide +kernel
theorem d_RT_isReturn_6 : decode b_RT_isReturn 6 = .ok (.getfield 28, 3) := by decide +kernel
theorem d_RT_isReturn_9 : decode b_RT_isReturn 9 = .ok (.if_icmp .ge 7, 3) := by decide +kernel
theorem d_RT_isReturn_12 : decode b_RT_isReturn 12 = .ok (.iconst 1, 1) := by decide +kernel
theorem d_RT_isReturn_13 : decode b_RT_isReturn 13 = .ok (.goto 4, 3) := by decide +kernel
theorem d_RT_isReturn_16 : decode b_RT_isReturn 16 = .ok (.iconst 0, 1) := by decide +kernel
theorem d_RT_isReturn_17 : decode b_RT_isReturn 17 = .ok (.ireturn, 1) := by decide +kernel
theorem d_RU_init_0 : decode b_RU_init 0 = .ok (.aload_n 0, 1) := by decide +kernel
theorem d_RU_init_1 : decode b_RU_init 1 = .ok (.invokespecial 3, 3) := by decide +kernel
theorem d_RU_init_4 : decode b_RU_init 4 = .ok (.aload_n 0, 1) := by decide +kernel
theorem d_RU_init_5 : decode b_RU_init 5 = .ok (.iconst 4, 1) := by decide +kernel
theorem d_RU_init_6 : decode b_RU_init 6 = .ok (.anewarray 9, 3) := by decide +kernel
theorem d_RU_init_9 : decode b_RU_init 9 = .ok (.putfield 11, 3) := by decide +kernel
theorem d_RU_init_12 : decode b_RU_init 12 = .ok (.aload_n 0, 1) := by decide +kernel
theorem d_RU_init_13 : decode b_RU_init 13 = .ok (.new 9, 3) := by decide +kernel
theorem d_RU_init_16 : decode b_RU_init 16 = .ok (.dup, 1) := by decide +kernel
theorem d_RU_init_17 : decode b_RU_init 17 = .ok (.iconst 0, 1) := by decide +kernel
theorem d_RU_init_18 : decode b_RU_init 18 = .ok (.invokespecial 17, 3) := by decide +kernel
theorem d_RU_init_21 : decode b_RU_init 21 = .ok (.putfield 20, 3) := by decide +kernel
theorem d_RU_init_24 : decode b_RU_init 24 = .ok (.iconst 0, 1) := by decide +kernel
theorem d_RU_init_25 : decode b_RU_init 25 = .ok (.istore_n 1, 1) := by decide +kernel
theorem d_RU_init_26 : decode b_RU_init 26 = .ok (.iload_n 1, 1) := by decide +kernel
theorem d_RU_init_27 : decode b_RU_init 27 = .ok (.iconst 4, 1) := by decide +kernel
theorem d_RU_init_28 : decode b_RU_init 28 = .ok (.if_icmp .ge 32, 3) := by decide +kernel
theorem d_RU_init_31 : decode b_RU_init 31 = .ok (.new 9, 3) := by decide +kernel
theorem d_RU_init_34 : decode b_RU_init 34 = .ok (.dup, 1) := by decide +kernel
theorem d_RU_init_35 : decode b_RU_init 35 = .ok (.bipush 8, 2) := by decide +kernel
theorem d_RU_init_37 : decode b_RU_init 37 = .ok (.invokespecial 17, 3) := by decide +kernel
theorem d_RU_init_40 : decode b_RU_init 40 = .ok (.astore_n 2, 1) := by decide +kernel
theorem d_RU_init_41 : decode b_RU_init 41 = .ok (.aload_n 2, 1) := by decide +kernel
theorem d_RU_init_42 : decode b_RU_init 42 = .ok (.iload_n 1, 1) := by decide +kernel
theorem d_RU_init_43 : decode b_RU_init 43 = .ok (.invokevirtual 24, 3) := by decide +kernel
theorem d_RU_init_46 : decode b_RU_init 46 = .ok (.pop, 1) := by decide +kernel
theorem d_RU_init_47 : decode b_RU_init 47 = .ok (.aload_n 0, 1) := by decide +kernel
theorem d_RU_init_48 : decode b_RU_init 48 = .ok (.getfield 11, 3) := by decide +kernel
theorem d_RU_init_51 : decode b_RU_init 51 = .ok (.iload_n 1, 1) := by decide +kernel
theorem d_RU_init_52 : decode b_RU_init 52 = .ok (.aload_n 2, 1) := by decide +kernel
theorem d_RU_init_53 : decode b_RU_init 53 = .ok (.aastore, 1) := by decide +kernel
theorem d_RU_init_54 : decode b_RU_init 54 = .ok (.iinc 1 1, 3) := by decide +kernel
theorem d_RU_init_57 : decode b_RU_init 57 = .ok (.goto (-31), 3) := by decide +kernel
theorem d_RU_init_60 : decode b_RU_init 60 = .ok (.return_, 1) := by decide +kernel
theorem d_RU_imageOf_0 : decode b_RU_imageOf 0 = .ok (.iload_n 1, 1) := by decide +kernel
theorem d_RU_imageOf_1 : decode b_RU_imageOf 1 = .ok (.invokestatic 28, 3) := by decide +kernel
theorem d_RU_imageOf_4 : decode b_RU_imageOf 4 = .ok (.ifCond .eq 12, 3) := by decide +kernel
theorem d_RU_imageOf_7 : decode b_RU_imageOf 7 = .ok (.aload_n 0, 1) := by decide +kernel
theorem d_RU_imageOf_8 : decode b_RU_imageOf 8 = .ok (.getfield 11, 3) := by decide +kernel
theorem d_RU_imageOf_11 : decode b_RU_imageOf 11 = .ok (.iload_n 1, 1) := by decide +kernel
theorem d_RU_imageOf_12 : decode b_RU_imageOf 12 = .ok (.aaload, 1) := by decide +kernel
theorem d_RU_imageOf_13 : decode b_RU_imageOf 13 = .ok (.goto 7, 3) := by decide +kernel
theorem d_RU_imageOf_16 : decode b_RU_imageOf 16 = .ok (.aload_n 0, 1) := by decide +kernel
theorem d_RU_imageOf_17 : decode b_RU_imageOf 17 = .ok (.getfield 20, 3) := by decide +kernel
theorem d_RU_imageOf_20 : decode b_RU_imageOf 20 = .ok (.areturn, 1) := by decide +kernel
theorem d_RU_become_0 : decode b_RU_become 0 = .ok (.iconst 0, 1) := by decide +kernel
theorem d_RU_become_1 : decode b_RU_become 1 = .ok (.istore_n 2, 1) := by decide +kernel
theorem d_RU_become_2 : decode b_RU_become 2 = .ok (.iload_n 2, 1) := by decide +kernel
theorem d_RU_become_3 : decode b_RU_become 3 = .ok (.iconst 4, 1) := by decide +kernel
theorem d_RU_become_4 : decode b_RU_become 4 = .ok (.if_icmp .ge 22, 3) := by decide +kernel
theorem d_RU_become_7 : decode b_RU_become 7 = .ok (.aload_n 0, 1) := by decide +kernel
theorem d_RU_become_8 : decode b_RU_become 8 = .ok (.iload_n 2, 1) := by decide +kernel
theorem d_RU_become_9 : decode b_RU_become 9 = .ok (.invokevirtual 31, 3) := by decide +kernel
theorem d_RU_become_12 : decode b_RU_become 12 = .ok (.aload_n 1, 1) := by decide +kernel
theorem d_RU_become_13 : decode b_RU_become 13 = .ok (.iload_n 2, 1) := by decide +kernel
theorem d_RU_become_14 : decode b_RU_become 14 = .ok (.invokevirtual 31, 3) := by decide +kernel
theorem d_RU_become_17 : decode b_RU_become 17 = .ok (.invokevirtual 35, 3) := by decide +kernel
theorem d_RU_become_20 : decode b_RU_become 20 = .ok (.iinc 2 1, 3) := by decide +kernel
theorem d_RU_become_23 : decode b_RU_become 23 = .ok (.goto (-21), 3) := by decide +kernel
theorem d_RU_become_26 : decode b_RU_become 26 = .ok (.return_, 1) := by decide +kernel
theorem d_RU_same_0 : decode b_RU_same 0 = .ok (.iconst 0, 1) := by decide +kernel
theorem d_RU_same_1 : decode b_RU_same 1 = .ok (.istore_n 2, 1) := by decide +kernel
theorem d_RU_same_2 : decode b_RU_same 2 = .ok (.iload_n 2, 1) := by decide +kernel
theorem d_RU_same_3 : decode b_RU_same 3 = .ok (.iconst 4, 1) := by decide +kernel
theorem d_RU_same_4 : decode b_RU_same 4 = .ok (.if_icmp .ge 27, 3) := by decide +kernel
theorem d_RU_same_7 : decode b_RU_same 7 = .ok (.aload_n 0, 1) := by decide +kernel
theorem d_RU_same_8 : decode b_RU_same 8 = .ok (.iload_n 2, 1) := by decide +kernel
theorem d_RU_same_9 : decode b_RU_same 9 = .ok (.invokevirtual 31, 3) := by decide +kernel
theorem d_RU_same_12 : decode b_RU_same 12 = .ok (.aload_n 1, 1) := by decide +kernel
theorem d_RU_same_13 : decode b_RU_same 13 = .ok (.iload_n 2, 1) := by decide +kernel
theorem d_RU_same_14 : decode b_RU_same 14 = .ok (.invokevirtual 31, 3) := by decide +kernel
theorem d_RU_same_17 : decode b_RU_same 17 = .ok (.invokevirtual 39, 3) := by decide +kernel
theorem d_RU_same_20 : decode b_RU_same 20 = .ok (.ifCond .ne 5, 3) := by decide +kernel
theorem d_RU_same_23 : decode b_RU_same 23 = .ok (.iconst 0, 1) := by decide +kernel
theorem d_RU_same_24 : decode b_RU_same 24 = .ok (.ireturn, 1) := by decide +kernel
theorem d_RU_same_25 : decode b_RU_same 25 = .ok (.iinc 2 1, 3) := by decide +kernel
theorem d_RU_same_28 : decode b_RU_same 28 = .ok (.goto (-26), 3) := by decide +kernel
theorem d_RU_same_31 : decode b_RU_same 31 = .ok (.iconst 1, 1) := by decide +kernel
theorem d_RU_same_32 : decode b_RU_same 32 = .ok (.ireturn, 1) := by decide +kernel
theorem d_RU_total_0 : decode b_RU_total 0 = .ok (.iconst 0, 1) := by decide +kernel
theorem d_RU_total_1 : decode b_RU_total 1 = .ok (.istore_n 1, 1) := by decide +kernel
theorem d_RU_total_2 : decode b_RU_total 2 = .ok (.iconst 0, 1) := by decide +kernel
theorem d_RU_total_3 : decode b_RU_total 3 = .ok (.istore_n 2, 1) := by decide +kernel
theorem d_RU_total_4 : decode b_RU_total 4 = .ok (.iload_n 2, 1) := by decide +kernel
theorem d_RU_total_5 : decode b_RU_total 5 = .ok (.iconst 4, 1) := by decide +kernel
theorem d_RU_total_6 : decode b_RU_total 6 = .ok (.if_icmp .ge 20, 3) := by decide +kernel
theorem d_RU_total_9 : decode b_RU_total 9 = .ok (.iload_n 1, 1) := by decide +kernel
theorem d_RU_total_10 : decode b_RU_total 10 = .ok (.aload_n 0, 1) := by decide +kernel
theorem d_RU_total_11 : decode b_RU_total 11 = .ok (.iload_n 2, 1) := by decide +kernel
theorem d_RU_total_12 : decode b_RU_total 12 = .ok (.invokevirtual 31, 3) := by decide +kernel
theorem d_RU_total_15 : decode b_RU_total 15 = .ok (.invokevirtual 43, 3) := by decide +kernel
theorem d_RU_total_18 : decode b_RU_total 18 = .ok (.iadd, 1) := by decide +kernel
theorem d_RU_total_19 : decode b_RU_total 19 = .ok (.istore_n 1, 1) := by decide +kernel
theorem d_RU_total_20 : decode b_RU_total 20 = .ok (.iinc 2 1, 3) := by decide +kernel
theorem d_RU_total_23 : decode b_RU_total 23 = .ok (.goto (-19), 3) := by decide +kernel
theorem d_RU_total_26 : decode b_RU_total 26 = .ok (.iload_n 1, 1) := by decide +kernel
theorem d_RU_total_27 : decode b_RU_total 27 = .ok (.ireturn, 1) := by decide +kernel
theorem d_RU_addImage_0 : decode b_RU_addImage 0 = .ok (.iconst 0, 1) := by decide +kernel
theorem d_RU_addImage_1 : decode b_RU_addImage 1 = .ok (.istore_n 3, 1) := by decide +kernel
theorem d_RU_addImage_2 : decode b_RU_addImage 2 = .ok (.iload_n 3, 1) := by decide +kernel
theorem d_RU_addImage_3 : decode b_RU_addImage 3 = .ok (.aload_n 1, 1) := by decide +kernel
theorem d_RU_addImage_4 : decode b_RU_addImage 4 = .ok (.invokevirtual 43, 3) := by decide +kernel
theorem d_RU_addImage_7 : decode b_RU_addImage 7 = .ok (.if_icmp .ge 27, 3) := by decide +kernel
theorem d_RU_addImage_10 : decode b_RU_addImage 10 = .ok (.aload_n 2, 1) := by decide +kernel
theorem d_RU_addImage_11 : decode b_RU_addImage 11 = .ok (.aload_n 0, 1) := by decide +kernel
theorem d_RU_addImage_12 : decode b_RU_addImage 12 = .ok (.aload_n 1, 1) := by decide +kernel
theorem d_RU_addImage_13 : decode b_RU_addImage 13 = .ok (.iload_n 3, 1) := by decide +kernel
theorem d_RU_addImage_14 : decode b_RU_addImage 14 = .ok (.invokevirtual 47, 3) := by decide +kernel
theorem d_RU_addImage_17 : decode b_RU_addImage 17 = .ok (.invokevirtual 31, 3) := by decide +kernel
theorem d_RU_addImage_20 : decode b_RU_addImage 20 = .ok (.invokevirtual 51, 3) := by decide +kernel
theorem d_RU_addImage_23 : decode b_RU_addImage 23 = .ok (.ifCond .ne 5, 3) := by decide +kernel
theorem d_RU_addImage_26 : decode b_RU_addImage 26 = .ok (.iconst 0, 1) := by decide +kernel
theorem d_RU_addImage_27 : decode b_RU_addImage 27 = .ok (.ireturn, 1) := by decide +kernel
theorem d_RU_addImage_28 : decode b_RU_addImage 28 = .ok (.iinc 3 1, 3) := by decide +kernel
theorem d_RU_addImage_31 : decode b_RU_addImage 31 = .ok (.goto (-29), 3) := by decide +kernel
theorem d_RU_addImage_34 : decode b_RU_addImage 34 = .ok (.iconst 1, 1) := by decide +kernel
theorem d_RU_addImage_35 : decode b_RU_addImage 35 = .ok (.ireturn, 1) := by decide +kernel
theorem d_RU_becomeSquareOf_0 : decode b_RU_becomeSquareOf 0 = .ok (.iconst 0, 1) := by decide +kernel
theorem d_RU_becomeSquareOf_1 : decode b_RU_becomeSquareOf 1 = .ok (.istore_n 2, 1) := by decide +kernel
theorem d_RU_becomeSquareOf_2 : decode b_RU_becomeSquareOf 2 = .ok (.iload_n 2, 1) := by decide +kernel
theorem d_RU_becomeSquareOf_3 : decode b_RU_becomeSquareOf 3 = .ok (.iconst 4, 1) := by decide +kernel
theorem d_RU_becomeSquareOf_4 : decode b_RU_becomeSquareOf 4 = .ok (.if_icmp .ge 34, 3) := by decide +kernel
theorem d_RU_becomeSquareOf_7 : decode b_RU_becomeSquareOf 7 = .ok (.aload_n 0, 1) := by decide +kernel
theorem d_RU_becomeSquareOf_8 : decode b_RU_becomeSquareOf 8 = .ok (.iload_n 2, 1) := by decide +kernel
theorem d_RU_becomeSquareOf_9 : decode b_RU_becomeSquareOf 9 = .ok (.invokevirtual 31, 3) := by decide +kernel
theorem d_RU_becomeSquareOf_12 : decode b_RU_becomeSquareOf 12 = .ok (.astore_n 3, 1) := by decide +kernel
theorem d_RU_becomeSquareOf_13 : decode b_RU_becomeSquareOf 13 = .ok (.aload_n 3, 1) := by decide +kernel
theorem d_RU_becomeSquareOf_14 : decode b_RU_becomeSquareOf 14 = .ok (.invokevirtual 54, 3) := by decide +kernel
theorem d_RU_becomeSquareOf_17 : decode b_RU_becomeSquareOf 17 = .ok (.aload_n 1, 1) := by decide +kernel
theorem d_RU_becomeSquareOf_18 : decode b_RU_becomeSquareOf 18 = .ok (.aload_n 1, 1) := by decide +kernel
theorem d_RU_becomeSquareOf_19 : decode b_RU_becomeSquareOf 19 = .ok (.iload_n 2, 1) := by decide +kernel
theorem d_RU_becomeSquareOf_20 : decode b_RU_becomeSquareOf 20 = .ok (.invokevirtual 31, 3) := by decide +kernel
theorem d_RU_becomeSquareOf_23 : decode b_RU_becomeSquareOf 23 = .ok (.aload_n 3, 1) := by decide +kernel
theorem d_RU_becomeSquareOf_24 : decode b_RU_becomeSquareOf 24 = .ok (.invokevirtual 57, 3) := by decide +kernel
theorem d_RU_becomeSquareOf_27 : decode b_RU_becomeSquareOf 27 = .ok (.ifCond .ne 5, 3) := by decide +kernel
theorem d_RU_becomeSquareOf_30 : decode b_RU_becomeSquareOf 30 = .ok (.iconst 0, 1) := by decide +kernel
theorem d_RU_becomeSquareOf_31 : decode b_RU_becomeSquareOf 31 = .ok (.ireturn, 1) := by decide +kernel
theorem d_RU_becomeSquareOf_32 : decode b_RU_becomeSquareOf 32 = .ok (.iinc 2 1, 3) := by decide +kernel
theorem d_RU_becomeSquareOf_35 : decode b_RU_becomeSquareOf 35 = .ok (.goto (-33), 3) := by decide +kernel
theorem d_RU_becomeSquareOf_38 : decode b_RU_becomeSquareOf 38 = .ok (.iconst 1, 1) := by decide +kernel
theorem d_RU_becomeSquareOf_39 : decode b_RU_becomeSquareOf 39 = .ok (.ireturn, 1) := by decide +kernel
theorem d_RU_commonEnd_0 : decode b_RU_commonEnd 0 = .ok (.aload_n 0, 1) := by decide +kernel
theorem d_RU_commonEnd_1 : decode b_RU_commonEnd 1 = .ok (.iconst 0, 1) := by decide +kernel
theorem d_RU_commonEnd_2 : decode b_RU_commonEnd 2 = .ok (.iload_n 1, 1) := by decide +kernel
theorem d_RU_commonEnd_3 : decode b_RU_commonEnd 3 = .ok (.invokevirtual 61, 3) := by decide +kernel
theorem d_RU_commonEnd_6 : decode b_RU_commonEnd 6 = .ok (.istore_n 2, 1) := by decide +kernel
theorem d_RU_commonEnd_7 : decode b_RU_commonEnd 7 = .ok (.iconst 1, 1) := by decide +kernel
theorem d_RU_commonEnd_8 : decode b_RU_commonEnd 8 = .ok (.istore_n 3, 1) := by decide +kernel
theorem d_RU_commonEnd_9 : decode b_RU_commonEnd 9 = .ok (.iload_n 3, 1) := by decide +kernel
theorem d_RU_commonEnd_10 : decode b_RU_commonEnd 10 = .ok (.iconst 4, 1) := by decide +kernel
theorem d_RU_commonEnd_11 : decode b_RU_commonEnd 11 = .ok (.if_icmp .ge 21, 3) := by decide +kernel
theorem d_RU_commonEnd_14 : decode b_RU_commonEnd 14 = .ok (.aload_n 0, 1) := by decide +kernel
theorem d_RU_commonEnd_15 : decode b_RU_commonEnd 15 = .ok (.iload_n 3, 1) := by decide +kernel
theorem d_RU_commonEnd_16 : decode b_RU_commonEnd 16 = .ok (.iload_n 1, 1) := by decide +kernel
theorem d_RU_commonEnd_17 : decode b_RU_commonEnd 17 = .ok (.invokevirtual 61, 3) := by decide +kernel
theorem d_RU_commonEnd_20 : decode b_RU_commonEnd 20 = .ok (.iload_n 2, 1) := by decide +kernel
theorem d_RU_commonEnd_21 : decode b_RU_commonEnd 21 = .ok (.if_icmp .eq 5, 3) := by decide +kernel
theorem d_RU_commonEnd_24 : decode b_RU_commonEnd 24 = .ok (.iconst (-1), 1) := by decide +kernel
theorem d_RU_commonEnd_25 : decode b_RU_commonEnd 25 = .ok (.ireturn, 1) := by decide +kernel
theorem d_RU_commonEnd_26 : decode b_RU_commonEnd 26 = .ok (.iinc 3 1, 3) := by decide +kernel
theorem d_RU_commonEnd_29 : decode b_RU_commonEnd 29 = .ok (.goto (-20), 3) := by decide +kernel
theorem d_RU_commonEnd_32 : decode b_RU_commonEnd 32 = .ok (.iload_n 2, 1) := by decide +kernel
theorem d_RU_commonEnd_33 : decode b_RU_commonEnd 33 = .ok (.ireturn, 1) := by decide +kernel
theorem d_RU_endOf_0 : decode b_RU_endOf 0 = .ok (.aload_n 0, 1) := by decide +kernel
theorem d_RU_endOf_1 : decode b_RU_endOf 1 = .ok (.iload_n 1, 1) := by decide +kernel
theorem d_RU_endOf_2 : decode b_RU_endOf 2 = .ok (.invokevirtual 31, 3) := by decide +kernel
theorem d_RU_endOf_5 : decode b_RU_endOf 5 = .ok (.astore_n 3, 1) := by decide +kernel
theorem d_RU_endOf_6 : decode b_RU_endOf 6 = .ok (.aload_n 3, 1) := by decide +kernel
theorem d_RU_endOf_7 : decode b_RU_endOf 7 = .ok (.iload_n 2, 1) := by decide +kernel
theorem d_RU_endOf_8 : decode b_RU_endOf 8 = .ok (.ifCond .eq 12, 3) := by decide +kernel
theorem d_RU_endOf_11 : decode b_RU_endOf 11 = .ok (.aload_n 3, 1) := by decide +kernel
theorem d_RU_endOf_12 : decode b_RU_endOf 12 = .ok (.invokevirtual 43, 3) := by decide +kernel
theorem d_RU_endOf_15 : decode b_RU_endOf 15 = .ok (.iconst 1, 1) := by decide +kernel
theorem d_RU_endOf_16 : decode b_RU_endOf 16 = .ok (.isub, 1) := by decide +kernel
theorem d_RU_endOf_17 : decode b_RU_endOf 17 = .ok (.goto 4, 3) := by decide +kernel
theorem d_RU_endOf_20 : decode b_RU_endOf 20 = .ok (.iconst 0, 1) := by decide +kernel
theorem d_RU_endOf_21 : decode b_RU_endOf 21 = .ok (.invokevirtual 47, 3) := by decide +kernel
theorem d_RU_endOf_24 : decode b_RU_endOf 24 = .ok (.ireturn, 1) := by decide +kernel
theorem d_RU_rotate_0 : decode b_RU_rotate 0 = .ok (.iconst 0, 1) := by decide +kernel
theorem d_RU_rotate_1 : decode b_RU_rotate 1 = .ok (.istore_n 2, 1) := by decide +kernel
theorem d_RU_rotate_2 : decode b_RU_rotate 2 = .ok (.iload_n 2, 1) := by decide +kernel
theorem d_RU_rotate_3 : decode b_RU_rotate 3 = .ok (.iconst 4, 1) := by decide +kernel
theorem d_RU_rotate_4 : decode b_RU_rotate 4 = .ok (.if_icmp .ge 18, 3) := by decide +kernel
theorem d_RU_rotate_7 : decode b_RU_rotate 7 = .ok (.aload_n 0, 1) := by decide +kernel
theorem d_RU_rotate_8 : decode b_RU_rotate 8 = .ok (.iload_n 2, 1) := by decide +kernel
theorem d_RU_rotate_9 : decode b_RU_rotate 9 = .ok (.invokevirtual 31, 3) := by decide +kernel
theorem d_RU_rotate_12 : decode b_RU_rotate 12 = .ok (.iload_n 1, 1) := by decide +kernel
theorem d_RU_rotate_13 : decode b_RU_rotate 13 = .ok (.invokevirtual 65, 3) := by decide +kernel
theorem d_RU_rotate_16 : decode b_RU_rotate 16 = .ok (.iinc 2 1, 3) := by decide +kernel
theorem d_RU_rotate_19 : decode b_RU_rotate 19 = .ok (.goto (-17), 3) := by decide +kernel
theorem d_RU_rotate_22 : decode b_RU_rotate 22 = .ok (.return_, 1) := by decide +kernel
theorem d_RU_exchange_0 : decode b_RU_exchange 0 = .ok (.iload_n 1, 1) := by decide +kernel
theorem d_RU_exchange_1 : decode b_RU_exchange 1 = .ok (.invokestatic 28, 3) := by decide +kernel
theorem d_RU_exchange_4 : decode b_RU_exchange 4 = .ok (.ifCond .eq 10, 3) := by decide +kernel
theorem d_RU_exchange_7 : decode b_RU_exchange 7 = .ok (.iload_n 2, 1) := by decide +kernel
theorem d_RU_exchange_8 : decode b_RU_exchange 8 = .ok (.invokestatic 28, 3) := by decide +kernel
theorem d_RU_exchange_11 : decode b_RU_exchange 11 = .ok (.ifCond .ne 4, 3) := by decide +kernel
theorem d_RU_exchange_14 : decode b_RU_exchange 14 = .ok (.return_, 1) := by decide +kernel
theorem d_RU_exchange_15 : decode b_RU_exchange 15 = .ok (.iconst 0, 1) := by decide +kernel
theorem d_RU_exchange_16 : decode b_RU_exchange 16 = .ok (.istore_n 3, 1) := by decide +kernel
theorem d_RU_exchange_17 : decode b_RU_exchange 17 = .ok (.iload_n 3, 1) := by decide +kernel
theorem d_RU_exchange_18 : decode b_RU_exchange 18 = .ok (.iconst 4, 1) := by decide +kernel
theorem d_RU_exchange_19 : decode b_RU_exchange 19 = .ok (.if_icmp .ge 19, 3) := by decide +kernel
theorem d_RU_exchange_22 : decode b_RU_exchange 22 = .ok (.aload_n 0, 1) := by decide +kernel
theorem d_RU_exchange_23 : decode b_RU_exchange 23 = .ok (.iload_n 3, 1) := by decide +kernel
theorem d_RU_exchange_24 : decode b_RU_exchange 24 = .ok (.invokevirtual 31, 3) := by decide +kernel
theorem d_RU_exchange_27 : decode b_RU_exchange 27 = .ok (.iload_n 1, 1) := by decide +kernel
theorem d_RU_exchange_28 : decode b_RU_exchange 28 = .ok (.iload_n 2, 1) := by decide +kernel
theorem d_RU_exchange_29 : decode b_RU_exchange 29 = .ok (.invokevirtual 69, 3) := by decide +kernel
theorem d_RU_exchange_32 : decode b_RU_exchange 32 = .ok (.iinc 3 1, 3) := by decide +kernel
theorem d_RU_exchange_35 : decode b_RU_exchange 35 = .ok (.goto (-18), 3) := by decide +kernel
theorem d_RU_exchange_38 : decode b_RU_exchange 38 = .ok (.aload_n 0, 1) := by decide +kernel
theorem d_RU_exchange_39 : decode b_RU_exchange 39 = .ok (.getfield 11, 3) := by decide +kernel
theorem d_RU_exchange_42 : decode b_RU_exchange 42 = .ok (.iload_n 1, 1) := by decide +kernel
theorem d_RU_exchange_43 : decode b_RU_exchange 43 = .ok (.aaload, 1) := by decide +kernel
theorem d_RU_exchange_44 : decode b_RU_exchange 44 = .ok (.astore_n 3, 1) := by decide +kernel
theorem d_RU_exchange_45 : decode b_RU_exchange 45 = .ok (.aload_n 0, 1) := by decide +kernel
theorem d_RU_exchange_46 : decode b_RU_exchange 46 = .ok (.getfield 11, 3) := by decide +kernel
theorem d_RU_exchange_49 : decode b_RU_exchange 49 = .ok (.iload_n 1, 1) := by decide +kernel
theorem d_RU_exchange_50 : decode b_RU_exchange 50 = .ok (.aload_n 0, 1) := by decide +kernel
theorem d_RU_exchange_51 : decode b_RU_exchange 51 = .ok (.getfield 11, 3) := by decide +kernel
theorem d_RU_exchange_54 : decode b_RU_exchange 54 = .ok (.iload_n 2, 1) := by decide +kernel
theorem d_RU_exchange_55 : decode b_RU_exchange 55 = .ok (.aaload, 1) := by decide +kernel
theorem d_RU_exchange_56 : decode b_RU_exchange 56 = .ok (.aastore, 1) := by decide +kernel
theorem d_RU_exchange_57 : decode b_RU_exchange 57 = .ok (.aload_n 0, 1) := by decide +kernel
theorem d_RU_exchange_58 : decode b_RU_exchange 58 = .ok (.getfield 11, 3) := by decide +kernel
theorem d_RU_exchange_61 : decode b_RU_exchange 61 = .ok (.iload_n 2, 1) := by decide +kernel
theorem d_RU_exchange_62 : decode b_RU_exchange 62 = .ok (.aload_n 3, 1) := by decide +kernel
theorem d_RU_exchange_63 : decode b_RU_exchange 63 = .ok (.aastore, 1) := by decide +kernel
theorem d_RU_exchange_64 : decode b_RU_exchange 64 = .ok (.return_, 1) := by decide +kernel
theorem d_RU_ledToFrom_0 : decode b_RU_ledToFrom 0 = .ok (.iconst 0, 1) := by decide +kernel
theorem d_RU_ledToFrom_1 : decode b_RU_ledToFrom 1 = .ok (.istore_n 2, 1) := by decide +kernel
theorem d_RU_ledToFrom_2 : decode b_RU_ledToFrom 2 = .ok (.iconst 0, 1) := by decide +kernel
theorem d_RU_ledToFrom_3 : decode b_RU_ledToFrom 3 = .ok (.istore_n 3, 1) := by decide +kernel
theorem d_RU_ledToFrom_4 : decode b_RU_ledToFrom 4 = .ok (.iload_n 3, 1) := by decide +kernel
theorem d_RU_ledToFrom_5 : decode b_RU_ledToFrom 5 = .ok (.iconst 4, 1) := by decide +kernel
theorem d_RU_ledToFrom_6 : decode b_RU_ledToFrom 6 = .ok (.if_icmp .ge 28, 3) := by decide +kernel
theorem d_RU_ledToFrom_9 : decode b_RU_ledToFrom 9 = .ok (.iload_n 1, 1) := by decide +kernel
theorem d_RU_ledToFrom_10 : decode b_RU_ledToFrom 10 = .ok (.iload_n 3, 1) := by decide +kernel
theorem d_RU_ledToFrom_11 : decode b_RU_ledToFrom 11 = .ok (.invokestatic 73, 3) := by decide +kernel
theorem d_RU_ledToFrom_14 : decode b_RU_ledToFrom 14 = .ok (.ifCond .eq 14, 3) := by decide +kernel
theorem d_RU_ledToFrom_17 : decode b_RU_ledToFrom 17 = .ok (.iload_n 2, 1) := by decide +kernel
theorem d_RU_ledToFrom_18 : decode b_RU_ledToFrom 18 = .ok (.aload_n 0, 1) := by decide +kernel
theorem d_RU_ledToFrom_19 : decode b_RU_ledToFrom 19 = .ok (.iload_n 3, 1) := by decide +kernel
theorem d_RU_ledToFrom_20 : decode b_RU_ledToFrom 20 = .ok (.invokevirtual 31, 3) := by decide +kernel
theorem d_RU_ledToFrom_23 : decode b_RU_ledToFrom 23 = .ok (.invokevirtual 77, 3) := by decide +kernel
theorem d_RU_ledToFrom_26 : decode b_RU_ledToFrom 26 = .ok (.ior, 1) := by decide +kernel
theorem d_RU_ledToFrom_27 : decode b_RU_ledToFrom 27 = .ok (.istore_n 2, 1) := by decide +kernel
theorem d_RU_ledToFrom_28 : decode b_RU_ledToFrom 28 = .ok (.iinc 3 1, 3) := by decide +kernel
theorem d_RU_ledToFrom_31 : decode b_RU_ledToFrom 31 = .ok (.goto (-27), 3) := by decide +kernel
theorem d_RU_ledToFrom_34 : decode b_RU_ledToFrom 34 = .ok (.iload_n 2, 1) := by decide +kernel
theorem d_RU_ledToFrom_35 : decode b_RU_ledToFrom 35 = .ok (.ireturn, 1) := by decide +kernel
theorem d_RU_reachedFrom_0 : decode b_RU_reachedFrom 0 = .ok (.iconst 1, 1) := by decide +kernel
theorem d_RU_reachedFrom_1 : decode b_RU_reachedFrom 1 = .ok (.iload_n 1, 1) := by decide +kernel
theorem d_RU_reachedFrom_2 : decode b_RU_reachedFrom 2 = .ok (.ishl, 1) := by decide +kernel
theorem d_RU_reachedFrom_3 : decode b_RU_reachedFrom 3 = .ok (.istore_n 2, 1) := by decide +kernel
theorem d_RU_reachedFrom_4 : decode b_RU_reachedFrom 4 = .ok (.iconst 0, 1) := by decide +kernel
theorem d_RU_reachedFrom_5 : decode b_RU_reachedFrom 5 = .ok (.istore_n 3, 1) := by decide +kernel
theorem d_RU_reachedFrom_6 : decode b_RU_reachedFrom 6 = .ok (.iload_n 3, 1) := by decide +kernel
theorem d_RU_reachedFrom_7 : decode b_RU_reachedFrom 7 = .ok (.iconst 4, 1) := by decide +kernel
theorem d_RU_reachedFrom_8 : decode b_RU_reachedFrom 8 = .ok (.if_icmp .ge 17, 3) := by decide +kernel
theorem d_RU_reachedFrom_11 : decode b_RU_reachedFrom 11 = .ok (.iload_n 2, 1) := by decide +kernel
theorem d_RU_reachedFrom_12 : decode b_RU_reachedFrom 12 = .ok (.aload_n 0, 1) := by decide +kernel
theorem d_RU_reachedFrom_13 : decode b_RU_reachedFrom 13 = .ok (.iload_n 2, 1) := by decide +kernel
theorem d_RU_reachedFrom_14 : decode b_RU_reachedFrom 14 = .ok (.invokevirtual 80, 3) := by decide +kernel
theorem d_RU_reachedFrom_17 : decode b_RU_reachedFrom 17 = .ok (.ior, 1) := by decide +kernel
theorem d_RU_reachedFrom_18 : decode b_RU_reachedFrom 18 = .ok (.istore_n 2, 1) := by decide +kernel
theorem d_RU_reachedFrom_19 : decode b_RU_reachedFrom 19 = .ok (.iinc 3 1, 3) := by decide +kernel
theorem d_RU_reachedFrom_22 : decode b_RU_reachedFrom 22 = .ok (.goto (-16), 3) := by decide +kernel
theorem d_RU_reachedFrom_25 : decode b_RU_reachedFrom 25 = .ok (.iload_n 2, 1) := by decide +kernel
theorem d_RU_reachedFrom_26 : decode b_RU_reachedFrom 26 = .ok (.ireturn, 1) := by decide +kernel
theorem d_RU_mixesBy_0 : decode b_RU_mixesBy 0 = .ok (.aload_n 0, 1) := by decide +kernel
theorem d_RU_mixesBy_1 : decode b_RU_mixesBy 1 = .ok (.iconst 0, 1) := by decide +kernel
theorem d_RU_mixesBy_2 : decode b_RU_mixesBy 2 = .ok (.invokevirtual 83, 3) := by decide +kernel
theorem d_RU_mixesBy_5 : decode b_RU_mixesBy 5 = .ok (.istore_n 2, 1) := by decide +kernel
theorem d_RU_mixesBy_6 : decode b_RU_mixesBy 6 = .ok (.iconst 0, 1) := by decide +kernel
theorem d_RU_mixesBy_7 : decode b_RU_mixesBy 7 = .ok (.istore_n 3, 1) := by decide +kernel
theorem d_RU_mixesBy_8 : decode b_RU_mixesBy 8 = .ok (.iload_n 3, 1) := by decide +kernel
theorem d_RU_mixesBy_9 : decode b_RU_mixesBy 9 = .ok (.iconst 4, 1) := by decide +kernel
theorem d_RU_mixesBy_10 : decode b_RU_mixesBy 10 = .ok (.if_icmp .ge 36, 3) := by decide +kernel
theorem d_RU_mixesBy_13 : decode b_RU_mixesBy 13 = .ok (.iload_n 2, 1) := by decide +kernel
theorem d_RU_mixesBy_14 : decode b_RU_mixesBy 14 = .ok (.aload_n 0, 1) := by decide +kernel
theorem d_RU_mixesBy_15 : decode b_RU_mixesBy 15 = .ok (.iload_n 3, 1) := by decide +kernel
theorem d_RU_mixesBy_16 : decode b_RU_mixesBy 16 = .ok (.iload_n 1, 1) := by decide +kernel
theorem d_RU_mixesBy_17 : decode b_RU_mixesBy 17 = .ok (.invokevirtual 86, 3) := by decide +kernel
theorem d_RU_mixesBy_20 : decode b_RU_mixesBy 20 = .ok (.iconst (-1), 1) := by decide +kernel
theorem d_RU_mixesBy_21 : decode b_RU_mixesBy 21 = .ok (.ixor, 1) := by decide +kernel
theorem d_RU_mixesBy_22 : decode b_RU_mixesBy 22 = .ok (.iand, 1) := by decide +kernel
theorem d_RU_mixesBy_23 : decode b_RU_mixesBy 23 = .ok (.istore 4, 2) := by decide +kernel
theorem d_RU_mixesBy_25 : decode b_RU_mixesBy 25 = .ok (.iload_n 2, 1) := by decide +kernel
theorem d_RU_mixesBy_26 : decode b_RU_mixesBy 26 = .ok (.iload_n 3, 1) := by decide +kernel
theorem d_RU_mixesBy_27 : decode b_RU_mixesBy 27 = .ok (.invokestatic 73, 3) := by decide +kernel
theorem d_RU_mixesBy_30 : decode b_RU_mixesBy 30 = .ok (.ifCond .eq 10, 3) := by decide +kernel
theorem d_RU_mixesBy_33 : decode b_RU_mixesBy 33 = .ok (.iload 4, 2) := by decide +kernel
theorem d_RU_mixesBy_35 : decode b_RU_mixesBy 35 = .ok (.ifCond .eq 5, 3) := by decide +kernel
theorem d_RU_mixesBy_38 : decode b_RU_mixesBy 38 = .ok (.iconst 0, 1) := by decide +kernel
theorem d_RU_mixesBy_39 : decode b_RU_mixesBy 39 = .ok (.ireturn, 1) := by decide +kernel
theorem d_RU_mixesBy_40 : decode b_RU_mixesBy 40 = .ok (.iinc 3 1, 3) := by decide +kernel
theorem d_RU_mixesBy_43 : decode b_RU_mixesBy 43 = .ok (.goto (-35), 3) := by decide +kernel
theorem d_RU_mixesBy_46 : decode b_RU_mixesBy 46 = .ok (.iconst 1, 1) := by decide +kernel
theorem d_RU_mixesBy_47 : decode b_RU_mixesBy 47 = .ok (.ireturn, 1) := by decide +kernel
theorem d_RU_lettersBehind_0 : decode b_RU_lettersBehind 0 = .ok (.iconst 1, 1) := by decide +kernel
theorem d_RU_lettersBehind_1 : decode b_RU_lettersBehind 1 = .ok (.iload_n 1, 1) := by decide +kernel
theorem d_RU_lettersBehind_2 : decode b_RU_lettersBehind 2 = .ok (.ishl, 1) := by decide +kernel
theorem d_RU_lettersBehind_3 : decode b_RU_lettersBehind 3 = .ok (.istore_n 3, 1) := by decide +kernel
theorem d_RU_lettersBehind_4 : decode b_RU_lettersBehind 4 = .ok (.iconst 0, 1) := by decide +kernel
theorem d_RU_lettersBehind_5 : decode b_RU_lettersBehind 5 = .ok (.istore 4, 2) := by decide +kernel
theorem d_RU_lettersBehind_7 : decode b_RU_lettersBehind 7 = .ok (.iload 4, 2) := by decide +kernel
theorem d_RU_lettersBehind_9 : decode b_RU_lettersBehind 9 = .ok (.iload_n 2, 1) := by decide +kernel
theorem d_RU_lettersBehind_10 : decode b_RU_lettersBehind 10 = .ok (.if_icmp .ge 15, 3) := by decide +kernel
theorem d_RU_lettersBehind_13 : decode b_RU_lettersBehind 13 = .ok (.aload_n 0, 1) := by decide +kernel
theorem d_RU_lettersBehind_14 : decode b_RU_lettersBehind 14 = .ok (.iload_n 3, 1) := by decide +kernel
theorem d_RU_lettersBehind_15 : decode b_RU_lettersBehind 15 = .ok (.invokevirtual 80, 3) := by decide +kernel
theorem d_RU_lettersBehind_18 : decode b_RU_lettersBehind 18 = .ok (.istore_n 3, 1) := by decide +kernel
theorem d_RU_lettersBehind_19 : decode b_RU_lettersBehind 19 = .ok (.iinc 4 1, 3) := by decide +kernel
theorem d_RU_lettersBehind_22 : decode b_RU_lettersBehind 22 = .ok (.goto (-15), 3) := by decide +kernel
theorem d_RU_lettersBehind_25 : decode b_RU_lettersBehind 25 = .ok (.iload_n 3, 1) := by decide +kernel
theorem d_RU_lettersBehind_26 : decode b_RU_lettersBehind 26 = .ok (.ireturn, 1) := by decide +kernel
theorem d_ST_init_0 : decode b_ST_init 0 = .ok (.aload_n 0, 1) := by decide +kernel
theorem d_ST_init_1 : decode b_ST_init 1 = .ok (.invokespecial 3, 3) := by decide +kernel
theorem d_ST_init_4 : decode b_ST_init 4 = .ok (.aload_n 0, 1) := by decide +kernel
theorem d_ST_init_5 : decode b_ST_init 5 = .ok (.new 9, 3) := by decide +kernel
theorem d_ST_init_8 : decode b_ST_init 8 = .ok (.dup, 1) := by decide +kernel
theorem d_ST_init_9 : decode b_ST_init 9 = .ok (.invokespecial 11, 3) := by decide +kernel
theorem d_ST_init_12 : decode b_ST_init 12 = .ok (.putfield 12, 3) := by decide +kernel
theorem d_ST_init_15 : decode b_ST_init 15 = .ok (.aload_n 0, 1) := by decide +kernel
theorem d_ST_init_16 : decode b_ST_init 16 = .ok (.new 18, 3) := by decide +kernel
theorem d_ST_init_19 : decode b_ST_init 19 = .ok (.dup, 1) := by decide +kernel
theorem d_ST_init_20 : decode b_ST_init 20 = .ok (.sipush 300, 3) := by decide +kernel
theorem d_ST_init_23 : decode b_ST_init 23 = .ok (.invokespecial 20, 3) := by decide +kernel
theorem d_ST_init_26 : decode b_ST_init 26 = .ok (.putfield 23, 3) := by decide +kernel
theorem d_ST_init_29 : decode b_ST_init 29 = .ok (.aload_n 0, 1) := by decide +kernel
theorem d_ST_init_30 : decode b_ST_init 30 = .ok (.new 18, 3) := by decide +kernel
theorem d_ST_init_33 : decode b_ST_init 33 = .ok (.dup, 1) := by decide +kernel
theorem d_ST_init_34 : decode b_ST_init 34 = .ok (.bipush 20, 2) := by decide +kernel
theorem d_ST_init_36 : decode b_ST_init 36 = .ok (.invokespecial 20, 3) := by decide +kernel
theorem d_ST_init_39 : decode b_ST_init 39 = .ok (.putfield 27, 3) := by decide +kernel
theorem d_ST_init_42 : decode b_ST_init 42 = .ok (.aload_n 0, 1) := by decide +kernel
theorem d_ST_init_43 : decode b_ST_init 43 = .ok (.getfield 23, 3) := by decide +kernel
theorem d_ST_init_46 : decode b_ST_init 46 = .ok (.iconst 0, 1) := by decide +kernel
theorem d_ST_init_47 : decode b_ST_init 47 = .ok (.invokevirtual 30, 3) := by decide +kernel
theorem d_ST_init_50 : decode b_ST_init 50 = .ok (.pop, 1) := by decide +kernel
theorem d_ST_init_51 : decode b_ST_init 51 = .ok (.return_, 1) := by decide +kernel
theorem d_ST_hasPiece_0 : decode b_ST_hasPiece 0 = .ok (.aload_n 0, 1) := by decide +kernel
theorem d_ST_hasPiece_1 : decode b_ST_hasPiece 1 = .ok (.getfield 27, 3) := by decide +kernel
theorem d_ST_hasPiece_4 : decode b_ST_hasPiece 4 = .ok (.invokevirtual 34, 3) := by decide +kernel
theorem d_ST_hasPiece_7 : decode b_ST_hasPiece 7 = .ok (.ifCond .le 7, 3) := by decide +kernel
theorem d_ST_hasPiece_10 : decode b_ST_hasPiece 10 = .ok (.iconst 1, 1) := by decide +kernel
theorem d_ST_hasPiece_11 : decode b_ST_hasPiece 11 = .ok (.goto 4, 3) := by decide +kernel
theorem d_ST_hasPiece_14 : decode b_ST_hasPiece 14 = .ok (.iconst 0, 1) := by decide +kernel
theorem d_ST_hasPiece_15 : decode b_ST_hasPiece 15 = .ok (.ireturn, 1) := by decide +kernel
theorem d_ST_become_0 : decode b_ST_become 0 = .ok (.aload_n 0, 1) := by decide +kernel
theorem d_ST_become_1 : decode b_ST_become 1 = .ok (.getfield 12, 3) := by decide +kernel
theorem d_ST_become_4 : decode b_ST_become 4 = .ok (.aload_n 1, 1) := by decide +kernel
theorem d_ST_become_5 : decode b_ST_become 5 = .ok (.getfield 12, 3) := by decide +kernel
theorem d_ST_become_8 : decode b_ST_become 8 = .ok (.invokevirtual 38, 3) := by decide +kernel
theorem d_ST_become_11 : decode b_ST_become 11 = .ok (.aload_n 0, 1) := by decide +kernel
theorem d_ST_become_12 : decode b_ST_become 12 = .ok (.getfield 23, 3) := by decide +kernel
theorem d_ST_become_15 : decode b_ST_become 15 = .ok (.aload_n 1, 1) := by decide +kernel
theorem d_ST_become_16 : decode b_ST_become 16 = .ok (.getfield 23, 3) := by decide +kernel
theorem d_ST_become_19 : decode b_ST_become 19 = .ok (.invokevirtual 42, 3) := by decide +kernel
theorem d_ST_become_22 : decode b_ST_become 22 = .ok (.aload_n 0, 1) := by decide +kernel
theorem d_ST_become_23 : decode b_ST_become 23 = .ok (.getfield 27, 3) := by decide +kernel
theorem d_ST_become_26 : decode b_ST_become 26 = .ok (.aload_n 1, 1) := by decide +kernel
theorem d_ST_become_27 : decode b_ST_become 27 = .ok (.getfield 27, 3) := by decide +kernel
theorem d_ST_become_30 : decode b_ST_become 30 = .ok (.invokevirtual 42, 3) := by decide +kernel
theorem d_ST_become_33 : decode b_ST_become 33 = .ok (.return_, 1) := by decide +kernel
theorem d_TX_init_0 : decode b_TX_init 0 = .ok (.aload_n 0, 1) := by decide +kernel
theorem d_TX_init_1 : decode b_TX_init 1 = .ok (.invokespecial 3, 3) := by decide +kernel
theorem d_TX_init_4 : decode b_TX_init 4 = .ok (.aload_n 0, 1) := by decide +kernel
theorem d_TX_init_5 : decode b_TX_init 5 = .ok (.bipush 60, 2) := by decide +kernel
theorem d_TX_init_7 : decode b_TX_init 7 = .ok (.newarray .char, 2) := by decide +kernel
theorem d_TX_init_9 : decode b_TX_init 9 = .ok (.putfield 9, 3) := by decide +kernel
theorem d_TX_init_12 : decode b_TX_init 12 = .ok (.aload_n 0, 1) := by decide +kernel
theorem d_TX_init_13 : decode b_TX_init 13 = .ok (.iconst 0, 1) := by decide +kernel
theorem d_TX_init_14 : decode b_TX_init 14 = .ok (.putfield 15, 3) := by decide +kernel
theorem d_TX_init_17 : decode b_TX_init 17 = .ok (.return_, 1) := by decide +kernel
theorem d_TX_length_0 : decode b_TX_length 0 = .ok (.aload_n 0, 1) := by decide +kernel
theorem d_TX_length_1 : decode b_TX_length 1 = .ok (.getfield 15, 3) := by decide +kernel
theorem d_TX_length_4 : decode b_TX_length 4 = .ok (.ireturn, 1) := by decide +kernel
theorem d_TX_clear_0 : decode b_TX_clear 0 = .ok (.aload_n 0, 1) := by decide +kernel
theorem d_TX_clear_1 : decode b_TX_clear 1 = .ok (.iconst 0, 1) := by decide +kernel
theorem d_TX_clear_2 : decode b_TX_clear 2 = .ok (.putfield 15, 3) := by decide +kernel
theorem d_TX_clear_5 : decode b_TX_clear 5 = .ok (.return_, 1) := by decide +kernel
theorem d_TX_add_0 : decode b_TX_add 0 = .ok (.aload_n 0, 1) := by decide +kernel
theorem d_TX_add_1 : decode b_TX_add 1 = .ok (.getfield 15, 3) := by decide +kernel
theorem d_TX_add_4 : decode b_TX_add 4 = .ok (.aload_n 0, 1) := by decide +kernel
theorem d_TX_add_5 : decode b_TX_add 5 = .ok (.getfield 9, 3) := by decide +kernel
theorem d_TX_add_8 : decode b_TX_add 8 = .ok (.arraylength, 1) := by decide +kernel
theorem d_TX_add_9 : decode b_TX_add 9 = .ok (.if_icmp .lt 5, 3) := by decide +kernel
theorem d_TX_add_12 : decode b_TX_add 12 = .ok (.iconst 0, 1) := by decide +kernel
theorem d_TX_add_13 : decode b_TX_add 13 = .ok (.ireturn, 1) := by decide +kernel
theorem d_TX_add_14 : decode b_TX_add 14 = .ok (.aload_n 0, 1) := by decide +kernel
theorem d_TX_add_15 : decode b_TX_add 15 = .ok (.getfield 9, 3) := by decide +kernel
theorem d_TX_add_18 : decode b_TX_add 18 = .ok (.aload_n 0, 1) := by decide +kernel
theorem d_TX_add_19 : decode b_TX_add 19 = .ok (.getfield 15, 3) := by decide +kernel
theorem d_TX_add_22 : decode b_TX_add 22 = .ok (.iload_n 1, 1) := by decide +kernel
theorem d_TX_add_23 : decode b_TX_add 23 = .ok (.castore, 1) := by decide +kernel
theorem d_TX_add_24 : decode b_TX_add 24 = .ok (.aload_n 0, 1) := by decide +kernel
theorem d_TX_add_25 : decode b_TX_add 25 = .ok (.dup, 1) := by decide +kernel
theorem d_TX_add_26 : decode b_TX_add 26 = .ok (.getfield 15, 3) := by decide +kernel
theorem d_TX_add_29 : decode b_TX_add 29 = .ok (.iconst 1, 1) := by decide +kernel
theorem d_TX_add_30 : decode b_TX_add 30 = .ok (.iadd, 1) := by decide +kernel
theorem d_TX_add_31 : decode b_TX_add 31 = .ok (.putfield 15, 3) := by decide +kernel
theorem d_TX_add_34 : decode b_TX_add 34 = .ok (.iconst 1, 1) := by decide +kernel
theorem d_TX_add_35 : decode b_TX_add 35 = .ok (.ireturn, 1) := by decide +kernel
theorem d_TX_hasAt_0 : decode b_TX_hasAt 0 = .ok (.iload_n 1, 1) := by decide +kernel
theorem d_TX_hasAt_1 : decode b_TX_hasAt 1 = .ok (.ifCond .lt 25, 3) := by decide +kernel
theorem d_TX_hasAt_4 : decode b_TX_hasAt 4 = .ok (.iload_n 1, 1) := by decide +kernel
theorem d_TX_hasAt_5 : decode b_TX_hasAt 5 = .ok (.aload_n 0, 1) := by decide +kernel
theorem d_TX_hasAt_6 : decode b_TX_hasAt 6 = .ok (.getfield 15, 3) := by decide +kernel
theorem d_TX_hasAt_9 : decode b_TX_hasAt 9 = .ok (.if_icmp .ge 17, 3) := by decide +kernel
theorem d_TX_hasAt_12 : decode b_TX_hasAt 12 = .ok (.aload_n 0, 1) := by decide +kernel
theorem d_TX_hasAt_13 : decode b_TX_hasAt 13 = .ok (.getfield 9, 3) := by decide +kernel
theorem d_TX_hasAt_16 : decode b_TX_hasAt 16 = .ok (.iload_n 1, 1) := by decide +kernel
theorem d_TX_hasAt_17 : decode b_TX_hasAt 17 = .ok (.caload, 1) := by decide +kernel
theorem d_TX_hasAt_18 : decode b_TX_hasAt 18 = .ok (.iload_n 2, 1) := by decide +kernel
theorem d_TX_hasAt_19 : decode b_TX_hasAt 19 = .ok (.if_icmp .ne 7, 3) := by decide +kernel
theorem d_TX_hasAt_22 : decode b_TX_hasAt 22 = .ok (.iconst 1, 1) := by decide +kernel
theorem d_TX_hasAt_23 : decode b_TX_hasAt 23 = .ok (.goto 4, 3) := by decide +kernel
theorem d_TX_hasAt_26 : decode b_TX_hasAt 26 = .ok (.iconst 0, 1) := by decide +kernel
theorem d_TX_hasAt_27 : decode b_TX_hasAt 27 = .ok (.ireturn, 1) := by decide +kernel
theorem d_TX_letterAt_0 : decode b_TX_letterAt 0 = .ok (.iload_n 1, 1) := by decide +kernel
theorem d_TX_letterAt_1 : decode b_TX_letterAt 1 = .ok (.ifCond .lt 11, 3) := by decide +kernel
theorem d_TX_letterAt_4 : decode b_TX_letterAt 4 = .ok (.iload_n 1, 1) := by decide +kernel
theorem d_TX_letterAt_5 : decode b_TX_letterAt 5 = .ok (.aload_n 0, 1) := by decide +kernel
theorem d_TX_letterAt_6 : decode b_TX_letterAt 6 = .ok (.getfield 15, 3) := by decide +kernel
theorem d_TX_letterAt_9 : decode b_TX_letterAt 9 = .ok (.if_icmp .lt 5, 3) := by decide +kernel
theorem d_TX_letterAt_12 : decode b_TX_letterAt 12 = .ok (.iconst (-1), 1) := by decide +kernel
theorem d_TX_letterAt_13 : decode b_TX_letterAt 13 = .ok (.ireturn, 1) := by decide +kernel
theorem d_TX_letterAt_14 : decode b_TX_letterAt 14 = .ok (.aload_n 0, 1) := by decide +kernel
theorem d_TX_letterAt_15 : decode b_TX_letterAt 15 = .ok (.getfield 9, 3) := by decide +kernel
theorem d_TX_letterAt_18 : decode b_TX_letterAt 18 = .ok (.iload_n 1, 1) := by decide +kernel
theorem d_TX_letterAt_19 : decode b_TX_letterAt 19 = .ok (.caload, 1) := by decide +kernel
theorem d_TX_letterAt_20 : decode b_TX_letterAt 20 = .ok (.bipush 97, 2) := by decide +kernel
theorem d_TX_letterAt_22 : decode b_TX_letterAt 22 = .ok (.isub, 1) := by decide +kernel
theorem d_TX_letterAt_23 : decode b_TX_letterAt 23 = .ok (.istore_n 2, 1) := by decide +kernel
theorem d_TX_letterAt_24 : decode b_TX_letterAt 24 = .ok (.iload_n 2, 1) := by decide +kernel
theorem d_TX_letterAt_25 : decode b_TX_letterAt 25 = .ok (.invokestatic 19, 3) := by decide +kernel
theorem d_TX_letterAt_28 : decode b_TX_letterAt 28 = .ok (.ifCond .eq 7, 3) := by decide +kernel
theorem d_TX_letterAt_31 : decode b_TX_letterAt 31 = .ok (.iload_n 2, 1) := by decide +kernel
theorem d_TX_letterAt_32 : decode b_TX_letterAt 32 = .ok (.goto 4, 3) := by decide +kernel
theorem d_TX_letterAt_35 : decode b_TX_letterAt 35 = .ok (.iconst (-1), 1) := by decide +kernel
theorem d_TX_letterAt_36 : decode b_TX_letterAt 36 = .ok (.ireturn, 1) := by decide +kernel
theorem d_TX_parts_0 : decode b_TX_parts 0 = .ok (.iconst 1, 1) := by decide +kernel
theorem d_TX_parts_1 : decode b_TX_parts 1 = .ok (.istore_n 1, 1) := by decide +kernel
theorem d_TX_parts_2 : decode b_TX_parts 2 = .ok (.iconst 0, 1) := by decide +kernel
theorem d_TX_parts_3 : decode b_TX_parts 3 = .ok (.istore_n 2, 1) := by decide +kernel
theorem d_TX_parts_4 : decode b_TX_parts 4 = .ok (.iload_n 2, 1) := by decide +kernel
theorem d_TX_parts_5 : decode b_TX_parts 5 = .ok (.aload_n 0, 1) := by decide +kernel
theorem d_TX_parts_6 : decode b_TX_parts 6 = .ok (.getfield 15, 3) := by decide +kernel
theorem d_TX_parts_9 : decode b_TX_parts 9 = .ok (.if_icmp .ge 22, 3) := by decide +kernel
theorem d_TX_parts_12 : decode b_TX_parts 12 = .ok (.aload_n 0, 1) := by decide +kernel
theorem d_TX_parts_13 : decode b_TX_parts 13 = .ok (.iload_n 2, 1) := by decide +kernel
theorem d_TX_parts_14 : decode b_TX_parts 14 = .ok (.bipush 59, 2) := by decide +kernel
theorem d_TX_parts_16 : decode b_TX_parts 16 = .ok (.invokevirtual 23, 3) := by decide +kernel
theorem d_TX_parts_19 : decode b_TX_parts 19 = .ok (.ifCond .eq 6, 3) := by decide +kernel
theorem d_TX_parts_22 : decode b_TX_parts 22 = .ok (.iinc 1 1, 3) := by decide +kernel
theorem d_TX_parts_25 : decode b_TX_parts 25 = .ok (.iinc 2 1, 3) := by decide +kernel
theorem d_TX_parts_28 : decode b_TX_parts 28 = .ok (.goto (-24), 3) := by decide +kernel
theorem d_TX_parts_31 : decode b_TX_parts 31 = .ok (.iload_n 1, 1) := by decide +kernel
theorem d_TX_parts_32 : decode b_TX_parts 32 = .ok (.ireturn, 1) := by decide +kernel
theorem d_TX_readInto_0 : decode b_TX_readInto 0 = .ok (.iconst 0, 1) := by decide +kernel
theorem d_TX_readInto_1 : decode b_TX_readInto 1 = .ok (.istore_n 2, 1) := by decide +kernel
theorem d_TX_readInto_2 : decode b_TX_readInto 2 = .ok (.aload_n 1, 1) := by decide +kernel
theorem d_TX_readInto_3 : decode b_TX_readInto 3 = .ok (.iconst (-1), 1) := by decide +kernel
theorem d_TX_readInto_4 : decode b_TX_readInto 4 = .ok (.invokevirtual 27, 3) := by decide +kernel
theorem d_TX_readInto_7 : decode b_TX_readInto 7 = .ok (.astore_n 3, 1) := by decide +kernel
theorem d_TX_readInto_8 : decode b_TX_readInto 8 = .ok (.iconst 0, 1) := by decide +kernel
theorem d_TX_readInto_9 : decode b_TX_readInto 9 = .ok (.istore 4, 2) := by decide +kernel
theorem d_TX_readInto_11 : decode b_TX_readInto 11 = .ok (.iload 4, 2) := by decide +kernel
theorem d_TX_readInto_13 : decode b_TX_readInto 13 = .ok (.aload_n 0, 1) := by decide +kernel
theorem d_TX_readInto_14 : decode b_TX_readInto 14 = .ok (.getfield 15, 3) := by decide +kernel
theorem d_TX_readInto_17 : decode b_TX_readInto 17 = .ok (.if_icmp .ge 109, 3) := by decide +kernel
theorem d_TX_readInto_20 : decode b_TX_readInto 20 = .ok (.aload_n 0, 1) := by decide +kernel
theorem d_TX_readInto_21 : decode b_TX_readInto 21 = .ok (.iload 4, 2) := by decide +kernel
theorem d_TX_readInto_23 : decode b_TX_readInto 23 = .ok (.invokevirtual 33, 3) := by decide +kernel
theorem d_TX_readInto_26 : decode b_TX_readInto 26 = .ok (.istore 5, 2) := by decide +kernel
theorem d_TX_readInto_28 : decode b_TX_readInto 28 = .ok (.iload_n 2, 1) := by decide +kernel
theorem d_TX_readInto_29 : decode b_TX_readInto 29 = .ok (.ifCond .ne 25, 3) := by decide +kernel
theorem d_TX_readInto_32 : decode b_TX_readInto 32 = .ok (.iload 5, 2) := by decide +kernel
theorem d_TX_readInto_34 : decode b_TX_readInto 34 = .ok (.iconst (-1), 1) := by decide +kernel
theorem d_TX_readInto_35 : decode b_TX_readInto 35 = .ok (.if_icmp .eq 19, 3) := by decide +kernel
theorem d_TX_readInto_38 : decode b_TX_readInto 38 = .ok (.aload_n 1, 1) := by decide +kernel
theorem d_TX_readInto_39 : decode b_TX_readInto 39 = .ok (.iload 5, 2) := by decide +kernel
theorem d_TX_readInto_41 : decode b_TX_readInto 41 = .ok (.invokevirtual 27, 3) := by decide +kernel
theorem d_TX_readInto_44 : decode b_TX_readInto 44 = .ok (.astore_n 3, 1) := by decide +kernel
theorem d_TX_readInto_45 : decode b_TX_readInto 45 = .ok (.aload_n 3, 1) := by decide +kernel
theorem d_TX_readInto_46 : decode b_TX_readInto 46 = .ok (.invokevirtual 37, 3) := by decide +kernel
theorem d_TX_readInto_49 : decode b_TX_readInto 49 = .ok (.iconst 1, 1) := by decide +kernel
theorem d_TX_readInto_50 : decode b_TX_readInto 50 = .ok (.istore_n 2, 1) := by decide +kernel
theorem d_TX_readInto_51 : decode b_TX_readInto 51 = .ok (.goto 69, 3) := by decide +kernel
theorem d_TX_readInto_54 : decode b_TX_readInto 54 = .ok (.iload_n 2, 1) := by decide +kernel
theorem d_TX_readInto_55 : decode b_TX_readInto 55 = .ok (.iconst 1, 1) := by decide +kernel
theorem d_TX_readInto_56 : decode b_TX_readInto 56 = .ok (.if_icmp .ne 19, 3) := by decide +kernel
theorem d_TX_readInto_59 : decode b_TX_readInto 59 = .ok (.aload_n 0, 1) := by decide +kernel
theorem d_TX_readInto_60 : decode b_TX_readInto 60 = .ok (.iload 4, 2) := by decide +kernel
theorem d_TX_readInto_62 : decode b_TX_readInto 62 = .ok (.bipush 61, 2) := by decide +kernel
theorem d_TX_readInto_64 : decode b_TX_readInto 64 = .ok (.invokevirtual 23, 3) := by decide +kernel
theorem d_TX_readInto_67 : decode b_TX_readInto 67 = .ok (.ifCond .eq 8, 3) := by decide +kernel
theorem d_TX_readInto_70 : decode b_TX_readInto 70 = .ok (.iconst 2, 1) := by decide +kernel
theorem d_TX_readInto_71 : decode b_TX_readInto 71 = .ok (.istore_n 2, 1) := by decide +kernel
theorem d_TX_readInto_72 : decode b_TX_readInto 72 = .ok (.goto 48, 3) := by decide +kernel
theorem d_TX_readInto_75 : decode b_TX_readInto 75 = .ok (.iload_n 2, 1) := by decide +kernel
theorem d_TX_readInto_76 : decode b_TX_readInto 76 = .ok (.iconst 2, 1) := by decide +kernel
theorem d_TX_readInto_77 : decode b_TX_readInto 77 = .ok (.if_icmp .ne 26, 3) := by decide +kernel
theorem d_TX_readInto_80 : decode b_TX_readInto 80 = .ok (.aload_n 3, 1) := by decide +kernel
theorem d_TX_readInto_81 : decode b_TX_readInto 81 = .ok (.invokevirtual 42, 3) := by decide +kernel
theorem d_TX_readInto_84 : decode b_TX_readInto 84 = .ok (.ifCond .le 19, 3) := by decide +kernel
theorem d_TX_readInto_87 : decode b_TX_readInto 87 = .ok (.aload_n 0, 1) := by decide +kernel
theorem d_TX_readInto_88 : decode b_TX_readInto 88 = .ok (.iload 4, 2) := by decide +kernel
theorem d_TX_readInto_90 : decode b_TX_readInto 90 = .ok (.bipush 59, 2) := by decide +kernel
theorem d_TX_readInto_92 : decode b_TX_readInto 92 = .ok (.invokevirtual 23, 3) := by decide +kernel
theorem d_TX_readInto_95 : decode b_TX_readInto 95 = .ok (.ifCond .eq 8, 3) := by decide +kernel
theorem d_TX_readInto_98 : decode b_TX_readInto 98 = .ok (.iconst 0, 1) := by decide +kernel
theorem d_TX_readInto_99 : decode b_TX_readInto 99 = .ok (.istore_n 2, 1) := by decide +kernel
theorem d_TX_readInto_100 : decode b_TX_readInto 100 = .ok (.goto 20, 3) := by decide +kernel
theorem d_TX_readInto_103 : decode b_TX_readInto 103 = .ok (.iload_n 2, 1) := by decide +kernel
theorem d_TX_readInto_104 : decode b_TX_readInto 104 = .ok (.iconst 2, 1) := by decide +kernel
theorem d_TX_readInto_105 : decode b_TX_readInto 105 = .ok (.if_icmp .ne 12, 3) := by decide +kernel
theorem d_TX_readInto_108 : decode b_TX_readInto 108 = .ok (.aload_n 3, 1) := by decide +kernel
theorem d_TX_readInto_109 : decode b_TX_readInto 109 = .ok (.iload 5, 2) := by decide +kernel
theorem d_TX_readInto_111 : decode b_TX_readInto 111 = .ok (.invokevirtual 45, 3) := by decide +kernel
theorem d_TX_readInto_114 : decode b_TX_readInto 114 = .ok (.ifCond .ne 6, 3) := by decide +kernel
theorem d_TX_readInto_117 : decode b_TX_readInto 117 = .ok (.iload 4, 2) := by decide +kernel
theorem d_TX_readInto_119 : decode b_TX_readInto 119 = .ok (.ireturn, 1) := by decide +kernel
theorem d_TX_readInto_120 : decode b_TX_readInto 120 = .ok (.iinc 4 1, 3) := by decide +kernel
theorem d_TX_readInto_123 : decode b_TX_readInto 123 = .ok (.goto (-112), 3) := by decide +kernel
theorem d_TX_readInto_126 : decode b_TX_readInto 126 = .ok (.iload_n 2, 1) := by decide +kernel
theorem d_TX_readInto_127 : decode b_TX_readInto 127 = .ok (.iconst 2, 1) := by decide +kernel
theorem d_TX_readInto_128 : decode b_TX_readInto 128 = .ok (.if_icmp .ne 14, 3) := by decide +kernel
theorem d_TX_readInto_131 : decode b_TX_readInto 131 = .ok (.aload_n 3, 1) := by decide +kernel
theorem d_TX_readInto_132 : decode b_TX_readInto 132 = .ok (.invokevirtual 42, 3) := by decide +kernel
theorem d_TX_readInto_135 : decode b_TX_readInto 135 = .ok (.ifCond .le 7, 3) := by decide +kernel
theorem d_TX_readInto_138 : decode b_TX_readInto 138 = .ok (.iconst (-1), 1) := by decide +kernel
theorem d_TX_readInto_139 : decode b_TX_readInto 139 = .ok (.goto 7, 3) := by decide +kernel
theorem d_TX_readInto_142 : decode b_TX_readInto 142 = .ok (.aload_n 0, 1) := by decide +kernel
theorem d_TX_readInto_143 : decode b_TX_readInto 143 = .ok (.getfield 15, 3) := by decide +kernel
theorem d_TX_readInto_146 : decode b_TX_readInto 146 = .ok (.ireturn, 1) := by decide +kernel
theorem d_TX_readInto2_0 : decode b_TX_readInto2 0 = .ok (.aload_n 1, 1) := by decide +kernel
theorem d_TX_readInto2_1 : decode b_TX_readInto2 1 = .ok (.invokevirtual 37, 3) := by decide +kernel
theorem d_TX_readInto2_4 : decode b_TX_readInto2 4 = .ok (.iconst 0, 1) := by decide +kernel
theorem d_TX_readInto2_5 : decode b_TX_readInto2 5 = .ok (.istore_n 2, 1) := by decide +kernel
theorem d_TX_readInto2_6 : decode b_TX_readInto2 6 = .ok (.iload_n 2, 1) := by decide +kernel
theorem d_TX_readInto2_7 : decode b_TX_readInto2 7 = .ok (.aload_n 0, 1) := by decide +kernel
theorem d_TX_readInto2_8 : decode b_TX_readInto2 8 = .ok (.getfield 15, 3) := by decide +kernel
theorem d_TX_readInto2_11 : decode b_TX_readInto2 11 = .ok (.if_icmp .ge 23, 3) := by decide +kernel
theorem d_TX_readInto2_14 : decode b_TX_readInto2 14 = .ok (.aload_n 1, 1) := by decide +kernel
theorem d_TX_readInto2_15 : decode b_TX_readInto2 15 = .ok (.aload_n 0, 1) := by decide +kernel
theorem d_TX_readInto2_16 : decode b_TX_readInto2 16 = .ok (.iload_n 2, 1) := by decide +kernel
theorem d_TX_readInto2_17 : decode b_TX_readInto2 17 = .ok (.invokevirtual 33, 3) := by decide +kernel
theorem d_TX_readInto2_20 : decode b_TX_readInto2 20 = .ok (.invokevirtual 45, 3) := by decide +kernel
theorem d_TX_readInto2_23 : decode b_TX_readInto2 23 = .ok (.ifCond .ne 5, 3) := by decide +kernel
theorem d_TX_readInto2_26 : decode b_TX_readInto2 26 = .ok (.iload_n 2, 1) := by decide +kernel
theorem d_TX_readInto2_27 : decode b_TX_readInto2 27 = .ok (.ireturn, 1) := by decide +kernel
theorem d_TX_readInto2_28 : decode b_TX_readInto2 28 = .ok (.iinc 2 1, 3) := by decide +kernel
theorem d_TX_readInto2_31 : decode b_TX_readInto2 31 = .ok (.goto (-25), 3) := by decide +kernel
theorem d_TX_readInto2_34 : decode b_TX_readInto2 34 = .ok (.aload_n 0, 1) := by decide +kernel
theorem d_TX_readInto2_35 : decode b_TX_readInto2 35 = .ok (.getfield 15, 3) := by decide +kernel
theorem d_TX_readInto2_38 : decode b_TX_readInto2 38 = .ok (.ifCond .le 7, 3) := by decide +kernel
theorem d_TX_readInto2_41 : decode b_TX_readInto2 41 = .ok (.iconst (-1), 1) := by decide +kernel
theorem d_TX_readInto2_42 : decode b_TX_readInto2 42 = .ok (.goto 7, 3) := by decide +kernel
theorem d_TX_readInto2_45 : decode b_TX_readInto2 45 = .ok (.aload_n 0, 1) := by decide +kernel
theorem d_TX_readInto2_46 : decode b_TX_readInto2 46 = .ok (.getfield 15, 3) := by decide +kernel
theorem d_TX_readInto2_49 : decode b_TX_readInto2 49 = .ok (.ireturn, 1) := by decide +kernel
theorem d_MW_init_0 : decode b_MW_init 0 = .ok (.aload_n 0, 1) := by decide +kernel
theorem d_MW_init_1 : decode b_MW_init 1 = .ok (.invokespecial 1, 3) := by decide +kernel
theorem d_MW_init_4 : decode b_MW_init 4 = .ok (.aload_n 0, 1) := by decide +kernel
theorem d_MW_init_5 : decode b_MW_init 5 = .ok (.new 7, 3) := by decide +kernel
theorem d_MW_init_8 : decode b_MW_init 8 = .ok (.dup, 1) := by decide +kernel
theorem d_MW_init_9 : decode b_MW_init 9 = .ok (.invokespecial 9, 3) := by decide +kernel
theorem d_MW_init_12 : decode b_MW_init 12 = .ok (.putfield 10, 3) := by decide +kernel
theorem d_MW_init_15 : decode b_MW_init 15 = .ok (.aload_n 0, 1) := by decide +kernel
theorem d_MW_init_16 : decode b_MW_init 16 = .ok (.new 7, 3) := by decide +kernel
theorem d_MW_init_19 : decode b_MW_init 19 = .ok (.dup, 1) := by decide +kernel
theorem d_MW_init_20 : decode b_MW_init 20 = .ok (.invokespecial 9, 3) := by decide +kernel
theorem d_MW_init_23 : decode b_MW_init 23 = .ok (.putfield 16, 3) := by decide +kernel
theorem d_MW_init_26 : decode b_MW_init 26 = .ok (.aload_n 0, 1) := by decide +kernel
theorem d_MW_init_27 : decode b_MW_init 27 = .ok (.iconst 0, 1) := by decide +kernel
theorem d_MW_init_28 : decode b_MW_init 28 = .ok (.putfield 19, 3) := by decide +kernel
theorem d_MW_init_31 : decode b_MW_init 31 = .ok (.aload_n 0, 1) := by decide +kernel
theorem d_MW_init_32 : decode b_MW_init 32 = .ok (.new 23, 3) := by decide +kernel
theorem d_MW_init_35 : decode b_MW_init 35 = .ok (.dup, 1) := by decide +kernel
theorem d_MW_init_36 : decode b_MW_init 36 = .ok (.invokespecial 25, 3) := by decide +kernel
theorem d_MW_init_39 : decode b_MW_init 39 = .ok (.putfield 26, 3) := by decide +kernel
theorem d_MW_init_42 : decode b_MW_init 42 = .ok (.aload_n 0, 1) := by decide +kernel
theorem d_MW_init_43 : decode b_MW_init 43 = .ok (.new 30, 3) := by decide +kernel
theorem d_MW_init_46 : decode b_MW_init 46 = .ok (.dup, 1) := by decide +kernel
theorem d_MW_init_47 : decode b_MW_init 47 = .ok (.invokespecial 32, 3) := by decide +kernel
theorem d_MW_init_50 : decode b_MW_init 50 = .ok (.putfield 33, 3) := by decide +kernel
theorem d_MW_init_53 : decode b_MW_init 53 = .ok (.aload_n 0, 1) := by decide +kernel
theorem d_MW_init_54 : decode b_MW_init 54 = .ok (.new 37, 3) := by decide +kernel
theorem d_MW_init_57 : decode b_MW_init 57 = .ok (.dup, 1) := by decide +kernel
theorem d_MW_init_58 : decode b_MW_init 58 = .ok (.invokespecial 39, 3) := by decide +kernel
theorem d_MW_init_61 : decode b_MW_init 61 = .ok (.putfield 40, 3) := by decide +kernel
theorem d_MW_init_64 : decode b_MW_init 64 = .ok (.aload_n 0, 1) := by decide +kernel
theorem d_MW_init_65 : decode b_MW_init 65 = .ok (.new 44, 3) := by decide +kernel
theorem d_MW_init_68 : decode b_MW_init 68 = .ok (.dup, 1) := by decide +kernel
theorem d_MW_init_69 : decode b_MW_init 69 = .ok (.sipush 300, 3) := by decide +kernel
theorem d_MW_init_72 : decode b_MW_init 72 = .ok (.invokespecial 46, 3) := by decide +kernel
theorem d_MW_init_75 : decode b_MW_init 75 = .ok (.putfield 49, 3) := by decide +kernel
theorem d_MW_init_78 : decode b_MW_init 78 = .ok (.aload_n 0, 1) := by decide +kernel
theorem d_MW_init_79 : decode b_MW_init 79 = .ok (.new 44, 3) := by decide +kernel
theorem d_MW_init_82 : decode b_MW_init 82 = .ok (.dup, 1) := by decide +kernel
theorem d_MW_init_83 : decode b_MW_init 83 = .ok (.sipush 300, 3) := by decide +kernel
theorem d_MW_init_86 : decode b_MW_init 86 = .ok (.invokespecial 46, 3) := by decide +kernel
theorem d_MW_init_89 : decode b_MW_init 89 = .ok (.putfield 53, 3) := by decide +kernel
theorem d_MW_init_92 : decode b_MW_init 92 = .ok (.aload_n 0, 1) := by decide +kernel
theorem d_MW_init_93 : decode b_MW_init 93 = .ok (.new 44, 3) := by decide +kernel
theorem d_MW_init_96 : decode b_MW_init 96 = .ok (.dup, 1) := by decide +kernel
theorem d_MW_init_97 : decode b_MW_init 97 = .ok (.bipush 20, 2) := by decide +kernel
theorem d_MW_init_99 : decode b_MW_init 99 = .ok (.invokespecial 46, 3) := by decide +kernel
theorem d_MW_init_102 : decode b_MW_init 102 = .ok (.putfield 56, 3) := by decide +kernel
theorem d_MW_init_105 : decode b_MW_init 105 = .ok (.aload_n 0, 1) := by decide +kernel
theorem d_MW_init_106 : decode b_MW_init 106 = .ok (.new 59, 3) := by decide +kernel
theorem d_MW_init_109 : decode b_MW_init 109 = .ok (.dup, 1) := by decide +kernel
theorem d_MW_init_110 : decode b_MW_init 110 = .ok (.invokespecial 61, 3) := by decide +kernel
theorem d_MW_init_113 : decode b_MW_init 113 = .ok (.putfield 62, 3) := by decide +kernel
theorem d_MW_init_116 : decode b_MW_init 116 = .ok (.aload_n 0, 1) := by decide +kernel
theorem d_MW_init_117 : decode b_MW_init 117 = .ok (.new 66, 3) := by decide +kernel
theorem d_MW_init_120 : decode b_MW_init 120 = .ok (.dup, 1) := by decide +kernel
theorem d_MW_init_121 : decode b_MW_init 121 = .ok (.invokespecial 68, 3) := by decide +kernel
theorem d_MW_init_124 : decode b_MW_init 124 = .ok (.putfield 69, 3) := by decide +kernel
theorem d_MW_init_127 : decode b_MW_init 127 = .ok (.aload_n 0, 1) := by decide +kernel
theorem d_MW_init_128 : decode b_MW_init 128 = .ok (.new 73, 3) := by decide +kernel
theorem d_MW_init_131 : decode b_MW_init 131 = .ok (.dup, 1) := by decide +kernel
theorem d_MW_init_132 : decode b_MW_init 132 = .ok (.invokespecial 75, 3) := by decide +kernel
theorem d_MW_init_135 : decode b_MW_init 135 = .ok (.putfield 76, 3) := by decide +kernel
theorem d_MW_init_138 : decode b_MW_init 138 = .ok (.aload_n 0, 1) := by decide +kernel
theorem d_MW_init_139 : decode b_MW_init 139 = .ok (.new 80, 3) := by decide +kernel
theorem d_MW_init_142 : decode b_MW_init 142 = .ok (.dup, 1) := by decide +kernel
theorem d_MW_init_143 : decode b_MW_init 143 = .ok (.invokespecial 82, 3) := by decide +kernel
theorem d_MW_init_146 : decode b_MW_init 146 = .ok (.putfield 83, 3) := by decide +kernel
theorem d_MW_init_149 : decode b_MW_init 149 = .ok (.aload_n 0, 1) := by decide +kernel
theorem d_MW_init_150 : decode b_MW_init 150 = .ok (.new 87, 3) := by decide +kernel
theorem d_MW_init_153 : decode b_MW_init 153 = .ok (.dup, 1) := by decide +kernel
theorem d_MW_init_154 : decode b_MW_init 154 = .ok (.invokespecial 89, 3) := by decide +kernel
theorem d_MW_init_157 : decode b_MW_init 157 = .ok (.putfield 90, 3) := by decide +kernel
theorem d_MW_init_160 : decode b_MW_init 160 = .ok (.return_, 1) := by decide +kernel
theorem d_MW_readRule_0 : decode b_MW_readRule 0 = .ok (.aload_n 0, 1) := by decide +kernel
theorem d_MW_readRule_1 : decode b_MW_readRule 1 = .ok (.getfield 40, 3) := by decide +kernel
theorem d_MW_readRule_4 : decode b_MW_readRule 4 = .ok (.aload_n 0, 1) := by decide +kernel
theorem d_MW_readRule_5 : decode b_MW_readRule 5 = .ok (.getfield 10, 3) := by decide +kernel
theorem d_MW_readRule_8 : decode b_MW_readRule 8 = .ok (.getfield 94, 3) := by decide +kernel
theorem d_MW_readRule_11 : decode b_MW_readRule 11 = .ok (.invokevirtual 97, 3) := by decide +kernel
theorem d_MW_readRule_14 : decode b_MW_readRule 14 = .ok (.aload_n 0, 1) := by decide +kernel
theorem d_MW_readRule_15 : decode b_MW_readRule 15 = .ok (.getfield 33, 3) := by decide +kernel
theorem d_MW_readRule_18 : decode b_MW_readRule 18 = .ok (.aload_n 0, 1) := by decide +kernel
theorem d_MW_readRule_19 : decode b_MW_readRule 19 = .ok (.getfield 40, 3) := by decide +kernel
theorem d_MW_readRule_22 : decode b_MW_readRule 22 = .ok (.invokevirtual 101, 3) := by decide +kernel
theorem d_MW_readRule_25 : decode b_MW_readRule 25 = .ok (.istore_n 1, 1) := by decide +kernel
theorem d_MW_readRule_26 : decode b_MW_readRule 26 = .ok (.iload_n 1, 1) := by decide +kernel
theorem d_MW_readRule_27 : decode b_MW_readRule 27 = .ok (.iconst (-1), 1) := by decide +kernel
theorem d_MW_readRule_28 : decode b_MW_readRule 28 = .ok (.if_icmp .eq 8, 3) := by decide +kernel
theorem d_MW_readRule_31 : decode b_MW_readRule 31 = .ok (.bipush (-100), 2) := by decide +kernel
theorem d_MW_readRule_33 : decode b_MW_readRule 33 = .ok (.iload_n 1, 1) := by decide +kernel
theorem d_MW_readRule_34 : decode b_MW_readRule 34 = .ok (.isub, 1) := by decide +kernel
theorem d_MW_readRule_35 : decode b_MW_readRule 35 = .ok (.ireturn, 1) := by decide +kernel
theorem d_MW_readRule_36 : decode b_MW_readRule 36 = .ok (.aload_n 0, 1) := by decide +kernel
theorem d_MW_readRule_37 : decode b_MW_readRule 37 = .ok (.invokevirtual 105, 3) := by decide +kernel
theorem d_MW_readRule_40 : decode b_MW_readRule 40 = .ok (.ifCond .eq 13, 3) := by decide +kernel
theorem d_MW_readRule_43 : decode b_MW_readRule 43 = .ok (.aload_n 0, 1) := by decide +kernel
theorem d_MW_readRule_44 : decode b_MW_readRule 44 = .ok (.getfield 33, 3) := by decide +kernel
theorem d_MW_readRule_47 : decode b_MW_readRule 47 = .ok (.invokevirtual 109, 3) := by decide +kernel
theorem d_MW_readRule_50 : decode b_MW_readRule 50 = .ok (.goto 5, 3) := by decide +kernel
theorem d_MW_readRule_53 : decode b_MW_readRule 53 = .ok (.bipush (-5), 2) := by decide +kernel
theorem d_MW_readRule_55 : decode b_MW_readRule 55 = .ok (.ireturn, 1) := by decide +kernel
theorem d_MW_square_0 : decode b_MW_square 0 = .ok (.aload_n 0, 1) := by decide +kernel
theorem d_MW_square_1 : decode b_MW_square 1 = .ok (.getfield 40, 3) := by decide +kernel
theorem d_MW_square_4 : decode b_MW_square 4 = .ok (.aload_n 0, 1) := by decide +kernel
theorem d_MW_square_5 : decode b_MW_square 5 = .ok (.getfield 10, 3) := by decide +kernel
theorem d_MW_square_8 : decode b_MW_square 8 = .ok (.getfield 94, 3) := by decide +kernel
theorem d_MW_square_11 : decode b_MW_square 11 = .ok (.invokevirtual 113, 3) := by decide +kernel
theorem d_MW_square_14 : decode b_MW_square 14 = .ok (.ifCond .ne 6, 3) := by decide +kernel
theorem d_MW_square_17 : decode b_MW_square 17 = .ok (.bipush (-3), 2) := by decide +kernel
theorem d_MW_square_19 : decode b_MW_square 19 = .ok (.ireturn, 1) := by decide +kernel
theorem d_MW_square_20 : decode b_MW_square 20 = .ok (.aload_n 0, 1) := by decide +kernel
theorem d_MW_square_21 : decode b_MW_square 21 = .ok (.invokevirtual 105, 3) := by decide +kernel
theorem d_MW_square_24 : decode b_MW_square 24 = .ok (.ifCond .eq 16, 3) := by decide +kernel
theorem d_MW_square_27 : decode b_MW_square 27 = .ok (.aload_n 0, 1) := by decide +kernel
theorem d_MW_square_28 : decode b_MW_square 28 = .ok (.getfield 10, 3) := by decide +kernel
theorem d_MW_square_31 : decode b_MW_square 31 = .ok (.getfield 94, 3) := by decide +kernel
theorem d_MW_square_34 : decode b_MW_square 34 = .ok (.invokevirtual 117, 3) := by decide +kernel
theorem d_MW_square_37 : decode b_MW_square 37 = .ok (.goto 5, 3) := by decide +kernel
theorem d_MW_square_40 : decode b_MW_square 40 = .ok (.bipush (-5), 2) := by decide +kernel
theorem d_MW_square_42 : decode b_MW_square 42 = .ok (.ireturn, 1) := by decide +kernel
theorem d_MW_shift_0 : decode b_MW_shift 0 = .ok (.aload_n 0, 1) := by decide +kernel
theorem d_MW_shift_1 : decode b_MW_shift 1 = .ok (.getfield 10, 3) := by decide +kernel
theorem d_MW_shift_4 : decode b_MW_shift 4 = .ok (.getfield 94, 3) := by decide +kernel
theorem d_MW_shift_7 : decode b_MW_shift 7 = .ok (.iload_n 1, 1) := by decide +kernel
theorem d_MW_shift_8 : decode b_MW_shift 8 = .ok (.invokevirtual 120, 3) := by decide +kernel
theorem d_MW_shift_11 : decode b_MW_shift 11 = .ok (.istore_n 2, 1) := by decide +kernel
theorem d_MW_shift_12 : decode b_MW_shift 12 = .ok (.iload_n 2, 1) := by decide +kernel
theorem d_MW_shift_13 : decode b_MW_shift 13 = .ok (.iconst (-1), 1) := by decide +kernel
theorem d_MW_shift_14 : decode b_MW_shift 14 = .ok (.if_icmp .ne 6, 3) := by decide +kernel
theorem d_MW_shift_17 : decode b_MW_shift 17 = .ok (.bipush (-4), 2) := by decide +kernel
theorem d_MW_shift_19 : decode b_MW_shift 19 = .ok (.ireturn, 1) := by decide +kernel
theorem d_MW_shift_20 : decode b_MW_shift 20 = .ok (.aload_n 0, 1) := by decide +kernel
theorem d_MW_shift_21 : decode b_MW_shift 21 = .ok (.getfield 40, 3) := by decide +kernel
theorem d_MW_shift_24 : decode b_MW_shift 24 = .ok (.aload_n 0, 1) := by decide +kernel
theorem d_MW_shift_25 : decode b_MW_shift 25 = .ok (.getfield 10, 3) := by decide +kernel
theorem d_MW_shift_28 : decode b_MW_shift 28 = .ok (.getfield 94, 3) := by decide +kernel
theorem d_MW_shift_31 : decode b_MW_shift 31 = .ok (.invokevirtual 97, 3) := by decide +kernel
theorem d_MW_shift_34 : decode b_MW_shift 34 = .ok (.aload_n 0, 1) := by decide +kernel
theorem d_MW_shift_35 : decode b_MW_shift 35 = .ok (.getfield 40, 3) := by decide +kernel
theorem d_MW_shift_38 : decode b_MW_shift 38 = .ok (.iload_n 1, 1) := by decide +kernel
theorem d_MW_shift_39 : decode b_MW_shift 39 = .ok (.invokevirtual 124, 3) := by decide +kernel
theorem d_MW_shift_42 : decode b_MW_shift 42 = .ok (.aload_n 0, 1) := by decide +kernel
theorem d_MW_shift_43 : decode b_MW_shift 43 = .ok (.invokevirtual 105, 3) := by decide +kernel
theorem d_MW_shift_46 : decode b_MW_shift 46 = .ok (.ifCond .eq 7, 3) := by decide +kernel
theorem d_MW_shift_49 : decode b_MW_shift 49 = .ok (.iload_n 2, 1) := by decide +kernel
theorem d_MW_shift_50 : decode b_MW_shift 50 = .ok (.goto 5, 3) := by decide +kernel
theorem d_MW_shift_53 : decode b_MW_shift 53 = .ok (.bipush (-5), 2) := by decide +kernel
theorem d_MW_shift_55 : decode b_MW_shift 55 = .ok (.ireturn, 1) := by decide +kernel
theorem d_MW_swap_0 : decode b_MW_swap 0 = .ok (.iload_n 1, 1) := by decide +kernel
theorem d_MW_swap_1 : decode b_MW_swap 1 = .ok (.invokestatic 128, 3) := by decide +kernel
theorem d_MW_swap_4 : decode b_MW_swap 4 = .ok (.ifCond .eq 10, 3) := by decide +kernel
theorem d_MW_swap_7 : decode b_MW_swap 7 = .ok (.iload_n 2, 1) := by decide +kernel
theorem d_MW_swap_8 : decode b_MW_swap 8 = .ok (.invokestatic 128, 3) := by decide +kernel
theorem d_MW_swap_11 : decode b_MW_swap 11 = .ok (.ifCond .ne 5, 3) := by decide +kernel
theorem d_MW_swap_14 : decode b_MW_swap 14 = .ok (.iconst (-1), 1) := by decide +kernel
theorem d_MW_swap_15 : decode b_MW_swap 15 = .ok (.ireturn, 1) := by decide +kernel
theorem d_MW_swap_16 : decode b_MW_swap 16 = .ok (.iload_n 1, 1) := by decide +kernel
theorem d_MW_swap_17 : decode b_MW_swap 17 = .ok (.iload_n 2, 1) := by decide +kernel
theorem d_MW_swap_18 : decode b_MW_swap 18 = .ok (.if_icmp .ne 6, 3) := by decide +kernel
theorem d_MW_swap_21 : decode b_MW_swap 21 = .ok (.bipush (-5), 2) := by decide +kernel
theorem d_MW_swap_23 : decode b_MW_swap 23 = .ok (.ireturn, 1) := by decide +kernel
theorem d_MW_swap_24 : decode b_MW_swap 24 = .ok (.aload_n 0, 1) := by decide +kernel
theorem d_MW_swap_25 : decode b_MW_swap 25 = .ok (.getfield 10, 3) := by decide +kernel
theorem d_MW_swap_28 : decode b_MW_swap 28 = .ok (.getfield 132, 3) := by decide +kernel
theorem d_MW_swap_31 : decode b_MW_swap 31 = .ok (.iload_n 1, 1) := by decide +kernel
theorem d_MW_swap_32 : decode b_MW_swap 32 = .ok (.invokevirtual 135, 3) := by decide +kernel
theorem d_MW_swap_35 : decode b_MW_swap 35 = .ok (.aload_n 0, 1) := by decide +kernel
theorem d_MW_swap_36 : decode b_MW_swap 36 = .ok (.getfield 10, 3) := by decide +kernel
theorem d_MW_swap_39 : decode b_MW_swap 39 = .ok (.getfield 132, 3) := by decide +kernel
theorem d_MW_swap_42 : decode b_MW_swap 42 = .ok (.iload_n 2, 1) := by decide +kernel
theorem d_MW_swap_43 : decode b_MW_swap 43 = .ok (.invokevirtual 135, 3) := by decide +kernel
theorem d_MW_swap_46 : decode b_MW_swap 46 = .ok (.iadd, 1) := by decide +kernel
theorem d_MW_swap_47 : decode b_MW_swap 47 = .ok (.istore_n 3, 1) := by decide +kernel
theorem d_MW_swap_48 : decode b_MW_swap 48 = .ok (.aload_n 0, 1) := by decide +kernel
theorem d_MW_swap_49 : decode b_MW_swap 49 = .ok (.getfield 26, 3) := by decide +kernel
theorem d_MW_swap_52 : decode b_MW_swap 52 = .ok (.aload_n 0, 1) := by decide +kernel
theorem d_MW_swap_53 : decode b_MW_swap 53 = .ok (.getfield 10, 3) := by decide +kernel
theorem d_MW_swap_56 : decode b_MW_swap 56 = .ok (.invokevirtual 139, 3) := by decide +kernel
theorem d_MW_swap_59 : decode b_MW_swap 59 = .ok (.aload_n 0, 1) := by decide +kernel
theorem d_MW_swap_60 : decode b_MW_swap 60 = .ok (.getfield 10, 3) := by decide +kernel
theorem d_MW_swap_63 : decode b_MW_swap 63 = .ok (.getfield 94, 3) := by decide +kernel
theorem d_MW_swap_66 : decode b_MW_swap 66 = .ok (.iload_n 1, 1) := by decide +kernel
theorem d_MW_swap_67 : decode b_MW_swap 67 = .ok (.iload_n 2, 1) := by decide +kernel
theorem d_MW_swap_68 : decode b_MW_swap 68 = .ok (.invokevirtual 143, 3) := by decide +kernel
theorem d_MW_swap_71 : decode b_MW_swap 71 = .ok (.aload_n 0, 1) := by decide +kernel
theorem d_MW_swap_72 : decode b_MW_swap 72 = .ok (.getfield 10, 3) := by decide +kernel
theorem d_MW_swap_75 : decode b_MW_swap 75 = .ok (.getfield 132, 3) := by decide +kernel
theorem d_MW_swap_78 : decode b_MW_swap 78 = .ok (.iload_n 1, 1) := by decide +kernel
theorem d_MW_swap_79 : decode b_MW_swap 79 = .ok (.iload_n 2, 1) := by decide +kernel
theorem d_MW_swap_80 : decode b_MW_swap 80 = .ok (.invokevirtual 147, 3) := by decide +kernel
theorem d_MW_swap_83 : decode b_MW_swap 83 = .ok (.iload_n 3, 1) := by decide +kernel
theorem d_MW_swap_84 : decode b_MW_swap 84 = .ok (.ireturn, 1) := by decide +kernel
theorem d_MW_start_0 : decode b_MW_start 0 = .ok (.iload_n 1, 1) := by decide +kernel
theorem d_MW_start_1 : decode b_MW_start 1 = .ok (.invokestatic 128, 3) := by decide +kernel
theorem d_MW_start_4 : decode b_MW_start 4 = .ok (.ifCond .ne 5, 3) := by decide +kernel
theorem d_MW_start_7 : decode b_MW_start 7 = .ok (.iconst (-1), 1) := by decide +kernel
theorem d_MW_start_8 : decode b_MW_start 8 = .ok (.ireturn, 1) := by decide +kernel
theorem d_MW_start_9 : decode b_MW_start 9 = .ok (.aload_n 0, 1) := by decide +kernel
theorem d_MW_start_10 : decode b_MW_start 10 = .ok (.getfield 10, 3) := by decide +kernel
theorem d_MW_start_13 : decode b_MW_start 13 = .ok (.getfield 132, 3) := by decide +kernel
theorem d_MW_start_16 : decode b_MW_start 16 = .ok (.invokevirtual 148, 3) := by decide +kernel
theorem d_MW_start_19 : decode b_MW_start 19 = .ok (.istore_n 2, 1) := by decide +kernel
theorem d_MW_start_20 : decode b_MW_start 20 = .ok (.aload_n 0, 1) := by decide +kernel
theorem d_MW_start_21 : decode b_MW_start 21 = .ok (.getfield 49, 3) := by decide +kernel
theorem d_MW_start_24 : decode b_MW_start 24 = .ok (.invokevirtual 151, 3) := by decide +kernel
theorem d_MW_start_27 : decode b_MW_start 27 = .ok (.aload_n 0, 1) := by decide +kernel
theorem d_MW_start_28 : decode b_MW_start 28 = .ok (.getfield 49, 3) := by decide +kernel
theorem d_MW_start_31 : decode b_MW_start 31 = .ok (.iload_n 1, 1) := by decide +kernel
theorem d_MW_start_32 : decode b_MW_start 32 = .ok (.invokevirtual 154, 3) := by decide +kernel
theorem d_MW_start_35 : decode b_MW_start 35 = .ok (.pop, 1) := by decide +kernel
theorem d_MW_start_36 : decode b_MW_start 36 = .ok (.aload_n 0, 1) := by decide +kernel
theorem d_MW_start_37 : decode b_MW_start 37 = .ok (.invokevirtual 157, 3) := by decide +kernel
theorem d_MW_start_40 : decode b_MW_start 40 = .ok (.ifCond .eq 7, 3) := by decide +kernel
theorem d_MW_start_43 : decode b_MW_start 43 = .ok (.iload_n 2, 1) := by decide +kernel
theorem d_MW_start_44 : decode b_MW_start 44 = .ok (.goto 5, 3) := by decide +kernel
theorem d_MW_start_47 : decode b_MW_start 47 = .ok (.bipush (-5), 2) := by decide +kernel
theorem d_MW_start_49 : decode b_MW_start 49 = .ok (.ireturn, 1) := by decide +kernel
theorem d_MW_grow_0 : decode b_MW_grow 0 = .ok (.iload_n 1, 1) := by decide +kernel
theorem d_MW_grow_1 : decode b_MW_grow 1 = .ok (.iconst 1, 1) := by decide +kernel
theorem d_MW_grow_2 : decode b_MW_grow 2 = .ok (.if_icmp .lt 9, 3) := by decide +kernel
theorem d_MW_grow_5 : decode b_MW_grow 5 = .ok (.iload_n 1, 1) := by decide +kernel
theorem d_MW_grow_6 : decode b_MW_grow 6 = .ok (.bipush 20, 2) := by decide +kernel
theorem d_MW_grow_8 : decode b_MW_grow 8 = .ok (.if_icmp .le 6, 3) := by decide +kernel
theorem d_MW_grow_11 : decode b_MW_grow 11 = .ok (.bipush (-2), 2) := by decide +kernel
theorem d_MW_grow_13 : decode b_MW_grow 13 = .ok (.ireturn, 1) := by decide +kernel
theorem d_MW_grow_14 : decode b_MW_grow 14 = .ok (.aload_n 0, 1) := by decide +kernel
theorem d_MW_grow_15 : decode b_MW_grow 15 = .ok (.getfield 49, 3) := by decide +kernel
theorem d_MW_grow_18 : decode b_MW_grow 18 = .ok (.aload_n 0, 1) := by decide +kernel
theorem d_MW_grow_19 : decode b_MW_grow 19 = .ok (.getfield 10, 3) := by decide +kernel
theorem d_MW_grow_22 : decode b_MW_grow 22 = .ok (.getfield 132, 3) := by decide +kernel
theorem d_MW_grow_25 : decode b_MW_grow 25 = .ok (.invokevirtual 160, 3) := by decide +kernel
theorem d_MW_grow_28 : decode b_MW_grow 28 = .ok (.iconst 0, 1) := by decide +kernel
theorem d_MW_grow_29 : decode b_MW_grow 29 = .ok (.istore_n 2, 1) := by decide +kernel
theorem d_MW_grow_30 : decode b_MW_grow 30 = .ok (.iload_n 2, 1) := by decide +kernel
theorem d_MW_grow_31 : decode b_MW_grow 31 = .ok (.iload_n 1, 1) := by decide +kernel
theorem d_MW_grow_32 : decode b_MW_grow 32 = .ok (.if_icmp .ge 46, 3) := by decide +kernel
theorem d_MW_grow_35 : decode b_MW_grow 35 = .ok (.aload_n 0, 1) := by decide +kernel
theorem d_MW_grow_36 : decode b_MW_grow 36 = .ok (.getfield 53, 3) := by decide +kernel
theorem d_MW_grow_39 : decode b_MW_grow 39 = .ok (.invokevirtual 151, 3) := by decide +kernel
theorem d_MW_grow_42 : decode b_MW_grow 42 = .ok (.aload_n 0, 1) := by decide +kernel
theorem d_MW_grow_43 : decode b_MW_grow 43 = .ok (.getfield 10, 3) := by decide +kernel
theorem d_MW_grow_46 : decode b_MW_grow 46 = .ok (.getfield 94, 3) := by decide +kernel
theorem d_MW_grow_49 : decode b_MW_grow 49 = .ok (.aload_n 0, 1) := by decide +kernel
theorem d_MW_grow_50 : decode b_MW_grow 50 = .ok (.getfield 49, 3) := by decide +kernel
theorem d_MW_grow_53 : decode b_MW_grow 53 = .ok (.aload_n 0, 1) := by decide +kernel
theorem d_MW_grow_54 : decode b_MW_grow 54 = .ok (.getfield 53, 3) := by decide +kernel
theorem d_MW_grow_57 : decode b_MW_grow 57 = .ok (.invokevirtual 163, 3) := by decide +kernel
theorem d_MW_grow_60 : decode b_MW_grow 60 = .ok (.pop, 1) := by decide +kernel
theorem d_MW_grow_61 : decode b_MW_grow 61 = .ok (.aload_n 0, 1) := by decide +kernel
theorem d_MW_grow_62 : decode b_MW_grow 62 = .ok (.getfield 49, 3) := by decide +kernel
theorem d_MW_grow_65 : decode b_MW_grow 65 = .ok (.aload_n 0, 1) := by decide +kernel
theorem d_MW_grow_66 : decode b_MW_grow 66 = .ok (.getfield 53, 3) := by decide +kernel
theorem d_MW_grow_69 : decode b_MW_grow 69 = .ok (.invokevirtual 160, 3) := by decide +kernel
theorem d_MW_grow_72 : decode b_MW_grow 72 = .ok (.iinc 2 1, 3) := by decide +kernel
theorem d_MW_grow_75 : decode b_MW_grow 75 = .ok (.goto (-45), 3) := by decide +kernel
theorem d_MW_grow_78 : decode b_MW_grow 78 = .ok (.aload_n 0, 1) := by decide +kernel
theorem d_MW_grow_79 : decode b_MW_grow 79 = .ok (.invokevirtual 157, 3) := by decide +kernel
theorem d_MW_grow_82 : decode b_MW_grow 82 = .ok (.ifCond .eq 16, 3) := by decide +kernel
theorem d_MW_grow_85 : decode b_MW_grow 85 = .ok (.aload_n 0, 1) := by decide +kernel
theorem d_MW_grow_86 : decode b_MW_grow 86 = .ok (.getfield 10, 3) := by decide +kernel
theorem d_MW_grow_89 : decode b_MW_grow 89 = .ok (.getfield 132, 3) := by decide +kernel
theorem d_MW_grow_92 : decode b_MW_grow 92 = .ok (.invokevirtual 148, 3) := by decide +kernel
theorem d_MW_grow_95 : decode b_MW_grow 95 = .ok (.goto 5, 3) := by decide +kernel
theorem d_MW_grow_98 : decode b_MW_grow 98 = .ok (.bipush (-5), 2) := by decide +kernel
theorem d_MW_grow_100 : decode b_MW_grow 100 = .ok (.ireturn, 1) := by decide +kernel
theorem d_MW_cut_0 : decode b_MW_cut 0 = .ok (.aload_n 0, 1) := by decide +kernel
theorem d_MW_cut_1 : decode b_MW_cut 1 = .ok (.getfield 10, 3) := by decide +kernel
theorem d_MW_cut_4 : decode b_MW_cut 4 = .ok (.getfield 132, 3) := by decide +kernel
theorem d_MW_cut_7 : decode b_MW_cut 7 = .ok (.invokevirtual 148, 3) := by decide +kernel
theorem d_MW_cut_10 : decode b_MW_cut 10 = .ok (.istore_n 2, 1) := by decide +kernel
theorem d_MW_cut_11 : decode b_MW_cut 11 = .ok (.iload_n 1, 1) := by decide +kernel
theorem d_MW_cut_12 : decode b_MW_cut 12 = .ok (.iconst 1, 1) := by decide +kernel
theorem d_MW_cut_13 : decode b_MW_cut 13 = .ok (.if_icmp .lt 8, 3) := by decide +kernel
theorem d_MW_cut_16 : decode b_MW_cut 16 = .ok (.iload_n 1, 1) := by decide +kernel
theorem d_MW_cut_17 : decode b_MW_cut 17 = .ok (.iload_n 2, 1) := by decide +kernel
theorem d_MW_cut_18 : decode b_MW_cut 18 = .ok (.if_icmp .le 6, 3) := by decide +kernel
theorem d_MW_cut_21 : decode b_MW_cut 21 = .ok (.bipush (-2), 2) := by decide +kernel
theorem d_MW_cut_23 : decode b_MW_cut 23 = .ok (.ireturn, 1) := by decide +kernel
theorem d_MW_cut_24 : decode b_MW_cut 24 = .ok (.aload_n 0, 1) := by decide +kernel
theorem d_MW_cut_25 : decode b_MW_cut 25 = .ok (.getfield 49, 3) := by decide +kernel
theorem d_MW_cut_28 : decode b_MW_cut 28 = .ok (.aload_n 0, 1) := by decide +kernel
theorem d_MW_cut_29 : decode b_MW_cut 29 = .ok (.getfield 10, 3) := by decide +kernel
theorem d_MW_cut_32 : decode b_MW_cut 32 = .ok (.getfield 132, 3) := by decide +kernel
theorem d_MW_cut_35 : decode b_MW_cut 35 = .ok (.invokevirtual 160, 3) := by decide +kernel
theorem d_MW_cut_38 : decode b_MW_cut 38 = .ok (.aload_n 0, 1) := by decide +kernel
theorem d_MW_cut_39 : decode b_MW_cut 39 = .ok (.getfield 49, 3) := by decide +kernel
theorem d_MW_cut_42 : decode b_MW_cut 42 = .ok (.iload_n 1, 1) := by decide +kernel
theorem d_MW_cut_43 : decode b_MW_cut 43 = .ok (.invokevirtual 167, 3) := by decide +kernel
theorem d_MW_cut_46 : decode b_MW_cut 46 = .ok (.aload_n 0, 1) := by decide +kernel
theorem d_MW_cut_47 : decode b_MW_cut 47 = .ok (.invokevirtual 157, 3) := by decide +kernel
theorem d_MW_cut_50 : decode b_MW_cut 50 = .ok (.ifCond .eq 9, 3) := by decide +kernel
theorem d_MW_cut_53 : decode b_MW_cut 53 = .ok (.iload_n 2, 1) := by decide +kernel
theorem d_MW_cut_54 : decode b_MW_cut 54 = .ok (.iload_n 1, 1) := by decide +kernel
theorem d_MW_cut_55 : decode b_MW_cut 55 = .ok (.isub, 1) := by decide +kernel
theorem d_MW_cut_56 : decode b_MW_cut 56 = .ok (.goto 5, 3) := by decide +kernel
theorem d_MW_cut_59 : decode b_MW_cut 59 = .ok (.bipush (-5), 2) := by decide +kernel
theorem d_MW_cut_61 : decode b_MW_cut 61 = .ok (.ireturn, 1) := by decide +kernel
theorem d_MW_derive_0 : decode b_MW_derive 0 = .ok (.aload_n 0, 1) := by decide +kernel
theorem d_MW_derive_1 : decode b_MW_derive 1 = .ok (.getfield 90, 3) := by decide +kernel
theorem d_MW_derive_4 : decode b_MW_derive 4 = .ok (.aload_n 0, 1) := by decide +kernel
theorem d_MW_derive_5 : decode b_MW_derive 5 = .ok (.getfield 10, 3) := by decide +kernel
theorem d_MW_derive_8 : decode b_MW_derive 8 = .ok (.getfield 132, 3) := by decide +kernel
theorem d_MW_derive_11 : decode b_MW_derive 11 = .ok (.aload_n 0, 1) := by decide +kernel
theorem d_MW_derive_12 : decode b_MW_derive 12 = .ok (.getfield 10, 3) := by decide +kernel
theorem d_MW_derive_15 : decode b_MW_derive 15 = .ok (.getfield 170, 3) := by decide +kernel
theorem d_MW_derive_18 : decode b_MW_derive 18 = .ok (.invokevirtual 173, 3) := by decide +kernel
theorem d_MW_derive_21 : decode b_MW_derive 21 = .ok (.aload_n 0, 1) := by decide +kernel
theorem d_MW_derive_22 : decode b_MW_derive 22 = .ok (.getfield 90, 3) := by decide +kernel
theorem d_MW_derive_25 : decode b_MW_derive 25 = .ok (.invokevirtual 177, 3) := by decide +kernel
theorem d_MW_derive_28 : decode b_MW_derive 28 = .ok (.iconst 1, 1) := by decide +kernel
theorem d_MW_derive_29 : decode b_MW_derive 29 = .ok (.if_icmp .lt 14, 3) := by decide +kernel
theorem d_MW_derive_32 : decode b_MW_derive 32 = .ok (.aload_n 0, 1) := by decide +kernel
theorem d_MW_derive_33 : decode b_MW_derive 33 = .ok (.getfield 90, 3) := by decide +kernel
theorem d_MW_derive_36 : decode b_MW_derive 36 = .ok (.invokevirtual 180, 3) := by decide +kernel
theorem d_MW_derive_39 : decode b_MW_derive 39 = .ok (.iconst 4, 1) := by decide +kernel
theorem d_MW_derive_40 : decode b_MW_derive 40 = .ok (.if_icmp .le 6, 3) := by decide +kernel
theorem d_MW_derive_43 : decode b_MW_derive 43 = .ok (.bipush (-4), 2) := by decide +kernel
theorem d_MW_derive_45 : decode b_MW_derive 45 = .ok (.ireturn, 1) := by decide +kernel
theorem d_MW_derive_46 : decode b_MW_derive 46 = .ok (.aload_n 0, 1) := by decide +kernel
theorem d_MW_derive_47 : decode b_MW_derive 47 = .ok (.getfield 49, 3) := by decide +kernel
theorem d_MW_derive_50 : decode b_MW_derive 50 = .ok (.invokevirtual 151, 3) := by decide +kernel
theorem d_MW_derive_53 : decode b_MW_derive 53 = .ok (.iconst 0, 1) := by decide +kernel
theorem d_MW_derive_54 : decode b_MW_derive 54 = .ok (.istore_n 1, 1) := by decide +kernel
theorem d_MW_derive_55 : decode b_MW_derive 55 = .ok (.iload_n 1, 1) := by decide +kernel
theorem d_MW_derive_56 : decode b_MW_derive 56 = .ok (.aload_n 0, 1) := by decide +kernel
theorem d_MW_derive_57 : decode b_MW_derive 57 = .ok (.getfield 90, 3) := by decide +kernel
theorem d_MW_derive_60 : decode b_MW_derive 60 = .ok (.invokevirtual 177, 3) := by decide +kernel
theorem d_MW_derive_63 : decode b_MW_derive 63 = .ok (.if_icmp .ge 25, 3) := by decide +kernel
theorem d_MW_derive_66 : decode b_MW_derive 66 = .ok (.aload_n 0, 1) := by decide +kernel
theorem d_MW_derive_67 : decode b_MW_derive 67 = .ok (.getfield 49, 3) := by decide +kernel
theorem d_MW_derive_70 : decode b_MW_derive 70 = .ok (.aload_n 0, 1) := by decide +kernel
theorem d_MW_derive_71 : decode b_MW_derive 71 = .ok (.getfield 90, 3) := by decide +kernel
theorem d_MW_derive_74 : decode b_MW_derive 74 = .ok (.iload_n 1, 1) := by decide +kernel
theorem d_MW_derive_75 : decode b_MW_derive 75 = .ok (.invokevirtual 183, 3) := by decide +kernel
theorem d_MW_derive_78 : decode b_MW_derive 78 = .ok (.invokevirtual 154, 3) := by decide +kernel
theorem d_MW_derive_81 : decode b_MW_derive 81 = .ok (.pop, 1) := by decide +kernel
theorem d_MW_derive_82 : decode b_MW_derive 82 = .ok (.iinc 1 1, 3) := by decide +kernel
theorem d_MW_derive_85 : decode b_MW_derive 85 = .ok (.goto (-30), 3) := by decide +kernel
theorem d_MW_derive_88 : decode b_MW_derive 88 = .ok (.aload_n 0, 1) := by decide +kernel
theorem d_MW_derive_89 : decode b_MW_derive 89 = .ok (.invokevirtual 157, 3) := by decide +kernel
theorem d_MW_derive_92 : decode b_MW_derive 92 = .ok (.ifCond .eq 16, 3) := by decide +kernel
theorem d_MW_derive_95 : decode b_MW_derive 95 = .ok (.aload_n 0, 1) := by decide +kernel
theorem d_MW_derive_96 : decode b_MW_derive 96 = .ok (.getfield 10, 3) := by decide +kernel
theorem d_MW_derive_99 : decode b_MW_derive 99 = .ok (.getfield 132, 3) := by decide +kernel
theorem d_MW_derive_102 : decode b_MW_derive 102 = .ok (.invokevirtual 148, 3) := by decide +kernel
theorem d_MW_derive_105 : decode b_MW_derive 105 = .ok (.goto 5, 3) := by decide +kernel
theorem d_MW_derive_108 : decode b_MW_derive 108 = .ok (.bipush (-5), 2) := by decide +kernel
theorem d_MW_derive_110 : decode b_MW_derive 110 = .ok (.ireturn, 1) := by decide +kernel
theorem d_MW_look_0 : decode b_MW_look 0 = .ok (.aload_n 0, 1) := by decide +kernel
theorem d_MW_look_1 : decode b_MW_look 1 = .ok (.getfield 33, 3) := by decide +kernel
theorem d_MW_look_4 : decode b_MW_look 4 = .ok (.aload_n 0, 1) := by decide +kernel
theorem d_MW_look_5 : decode b_MW_look 5 = .ok (.getfield 56, 3) := by decide +kernel
theorem d_MW_look_8 : decode b_MW_look 8 = .ok (.invokevirtual 186, 3) := by decide +kernel
theorem d_MW_look_11 : decode b_MW_look 11 = .ok (.istore_n 1, 1) := by decide +kernel
theorem d_MW_look_12 : decode b_MW_look 12 = .ok (.iload_n 1, 1) := by decide +kernel
theorem d_MW_look_13 : decode b_MW_look 13 = .ok (.iconst (-1), 1) := by decide +kernel
theorem d_MW_look_14 : decode b_MW_look 14 = .ok (.if_icmp .eq 8, 3) := by decide +kernel
theorem d_MW_look_17 : decode b_MW_look 17 = .ok (.bipush (-100), 2) := by decide +kernel
theorem d_MW_look_19 : decode b_MW_look 19 = .ok (.iload_n 1, 1) := by decide +kernel
theorem d_MW_look_20 : decode b_MW_look 20 = .ok (.isub, 1) := by decide +kernel
theorem d_MW_look_21 : decode b_MW_look 21 = .ok (.ireturn, 1) := by decide +kernel
theorem d_MW_look_22 : decode b_MW_look 22 = .ok (.aload_n 0, 1) := by decide +kernel
theorem d_MW_look_23 : decode b_MW_look 23 = .ok (.getfield 56, 3) := by decide +kernel
theorem d_MW_look_26 : decode b_MW_look 26 = .ok (.aload_n 0, 1) := by decide +kernel
theorem d_MW_look_27 : decode b_MW_look 27 = .ok (.getfield 10, 3) := by decide +kernel
theorem d_MW_look_30 : decode b_MW_look 30 = .ok (.getfield 170, 3) := by decide +kernel
theorem d_MW_look_33 : decode b_MW_look 33 = .ok (.invokevirtual 189, 3) := by decide +kernel
theorem d_MW_look_36 : decode b_MW_look 36 = .ok (.ifCond .eq 6, 3) := by decide +kernel
theorem d_MW_look_39 : decode b_MW_look 39 = .ok (.bipush (-5), 2) := by decide +kernel
theorem d_MW_look_41 : decode b_MW_look 41 = .ok (.ireturn, 1) := by decide +kernel
theorem d_MW_look_42 : decode b_MW_look 42 = .ok (.aload_n 0, 1) := by decide +kernel
theorem d_MW_look_43 : decode b_MW_look 43 = .ok (.getfield 26, 3) := by decide +kernel
theorem d_MW_look_46 : decode b_MW_look 46 = .ok (.aload_n 0, 1) := by decide +kernel
theorem d_MW_look_47 : decode b_MW_look 47 = .ok (.getfield 10, 3) := by decide +kernel
theorem d_MW_look_50 : decode b_MW_look 50 = .ok (.invokevirtual 139, 3) := by decide +kernel
theorem d_MW_look_53 : decode b_MW_look 53 = .ok (.aload_n 0, 1) := by decide +kernel
theorem d_MW_look_54 : decode b_MW_look 54 = .ok (.getfield 10, 3) := by decide +kernel
theorem d_MW_look_57 : decode b_MW_look 57 = .ok (.getfield 170, 3) := by decide +kernel
theorem d_MW_look_60 : decode b_MW_look 60 = .ok (.aload_n 0, 1) := by decide +kernel
theorem d_MW_look_61 : decode b_MW_look 61 = .ok (.getfield 56, 3) := by decide +kernel
theorem d_MW_look_64 : decode b_MW_look 64 = .ok (.invokevirtual 160, 3) := by decide +kernel
theorem d_MW_look_67 : decode b_MW_look 67 = .ok (.aload_n 0, 1) := by decide +kernel
theorem d_MW_look_68 : decode b_MW_look 68 = .ok (.getfield 90, 3) := by decide +kernel
theorem d_MW_look_71 : decode b_MW_look 71 = .ok (.aload_n 0, 1) := by decide +kernel
theorem d_MW_look_72 : decode b_MW_look 72 = .ok (.getfield 10, 3) := by decide +kernel
theorem d_MW_look_75 : decode b_MW_look 75 = .ok (.getfield 132, 3) := by decide +kernel
theorem d_MW_look_78 : decode b_MW_look 78 = .ok (.aload_n 0, 1) := by decide +kernel
theorem d_MW_look_79 : decode b_MW_look 79 = .ok (.getfield 10, 3) := by decide +kernel
theorem d_MW_look_82 : decode b_MW_look 82 = .ok (.getfield 170, 3) := by decide +kernel
theorem d_MW_look_85 : decode b_MW_look 85 = .ok (.invokevirtual 173, 3) := by decide +kernel
theorem d_MW_look_88 : decode b_MW_look 88 = .ok (.aload_n 0, 1) := by decide +kernel
theorem d_MW_look_89 : decode b_MW_look 89 = .ok (.getfield 90, 3) := by decide +kernel
theorem d_MW_look_92 : decode b_MW_look 92 = .ok (.invokevirtual 193, 3) := by decide +kernel
theorem d_MW_look_95 : decode b_MW_look 95 = .ok (.ireturn, 1) := by decide +kernel
theorem d_MW_type_0 : decode b_MW_type 0 = .ok (.aload_n 0, 1) := by decide +kernel
theorem d_MW_type_1 : decode b_MW_type 1 = .ok (.getfield 33, 3) := by decide +kernel
theorem d_MW_type_4 : decode b_MW_type 4 = .ok (.iload_n 1, 1) := by decide +kernel
theorem d_MW_type_5 : decode b_MW_type 5 = .ok (.invokevirtual 196, 3) := by decide +kernel
theorem d_MW_type_8 : decode b_MW_type 8 = .ok (.ifCond .eq 13, 3) := by decide +kernel
theorem d_MW_type_11 : decode b_MW_type 11 = .ok (.aload_n 0, 1) := by decide +kernel
theorem d_MW_type_12 : decode b_MW_type 12 = .ok (.getfield 33, 3) := by decide +kernel
theorem d_MW_type_15 : decode b_MW_type 15 = .ok (.invokevirtual 199, 3) := by decide +kernel
theorem d_MW_type_18 : decode b_MW_type 18 = .ok (.goto 5, 3) := by decide +kernel
theorem d_MW_type_21 : decode b_MW_type 21 = .ok (.bipush (-3), 2) := by decide +kernel
theorem d_MW_type_23 : decode b_MW_type 23 = .ok (.ireturn, 1) := by decide +kernel
theorem d_MW_clearText_0 : decode b_MW_clearText 0 = .ok (.aload_n 0, 1) := by decide +kernel
theorem d_MW_clearText_1 : decode b_MW_clearText 1 = .ok (.getfield 33, 3) := by decide +kernel
theorem d_MW_clearText_4 : decode b_MW_clearText 4 = .ok (.invokevirtual 199, 3) := by decide +kernel
theorem d_MW_clearText_7 : decode b_MW_clearText 7 = .ok (.istore_n 1, 1) := by decide +kernel
theorem d_MW_clearText_8 : decode b_MW_clearText 8 = .ok (.aload_n 0, 1) := by decide +kernel
theorem d_MW_clearText_9 : decode b_MW_clearText 9 = .ok (.getfield 33, 3) := by decide +kernel
theorem d_MW_clearText_12 : decode b_MW_clearText 12 = .ok (.invokevirtual 200, 3) := by decide +kernel
theorem d_MW_clearText_15 : decode b_MW_clearText 15 = .ok (.iload_n 1, 1) := by decide +kernel
theorem d_MW_clearText_16 : decode b_MW_clearText 16 = .ok (.ireturn, 1) := by decide +kernel
theorem d_MW_undo_0 : decode b_MW_undo 0 = .ok (.aload_n 0, 1) := by decide +kernel
theorem d_MW_undo_1 : decode b_MW_undo 1 = .ok (.getfield 26, 3) := by decide +kernel
theorem d_MW_undo_4 : decode b_MW_undo 4 = .ok (.aload_n 0, 1) := by decide +kernel
theorem d_MW_undo_5 : decode b_MW_undo 5 = .ok (.getfield 10, 3) := by decide +kernel
theorem d_MW_undo_8 : decode b_MW_undo 8 = .ok (.invokevirtual 201, 3) := by decide +kernel
theorem d_MW_undo_11 : decode b_MW_undo 11 = .ok (.ifCond .eq 13, 3) := by decide +kernel
theorem d_MW_undo_14 : decode b_MW_undo 14 = .ok (.aload_n 0, 1) := by decide +kernel
theorem d_MW_undo_15 : decode b_MW_undo 15 = .ok (.getfield 26, 3) := by decide +kernel
theorem d_MW_undo_18 : decode b_MW_undo 18 = .ok (.invokevirtual 205, 3) := by decide +kernel
theorem d_MW_undo_21 : decode b_MW_undo 21 = .ok (.goto 5, 3) := by decide +kernel
theorem d_MW_undo_24 : decode b_MW_undo 24 = .ok (.bipush (-5), 2) := by decide +kernel
theorem d_MW_undo_26 : decode b_MW_undo 26 = .ok (.ireturn, 1) := by decide +kernel
theorem d_MW_keep_0 : decode b_MW_keep 0 = .ok (.aload_n 0, 1) := by decide +kernel
theorem d_MW_keep_1 : decode b_MW_keep 1 = .ok (.getfield 16, 3) := by decide +kernel
theorem d_MW_keep_4 : decode b_MW_keep 4 = .ok (.aload_n 0, 1) := by decide +kernel
theorem d_MW_keep_5 : decode b_MW_keep 5 = .ok (.getfield 10, 3) := by decide +kernel
theorem d_MW_keep_8 : decode b_MW_keep 8 = .ok (.invokevirtual 208, 3) := by decide +kernel
theorem d_MW_keep_11 : decode b_MW_keep 11 = .ok (.aload_n 0, 1) := by decide +kernel
theorem d_MW_keep_12 : decode b_MW_keep 12 = .ok (.iconst 1, 1) := by decide +kernel
theorem d_MW_keep_13 : decode b_MW_keep 13 = .ok (.putfield 19, 3) := by decide +kernel
theorem d_MW_keep_16 : decode b_MW_keep 16 = .ok (.aload_n 0, 1) := by decide +kernel
theorem d_MW_keep_17 : decode b_MW_keep 17 = .ok (.getfield 10, 3) := by decide +kernel
theorem d_MW_keep_20 : decode b_MW_keep 20 = .ok (.getfield 132, 3) := by decide +kernel
theorem d_MW_keep_23 : decode b_MW_keep 23 = .ok (.invokevirtual 148, 3) := by decide +kernel
theorem d_MW_keep_26 : decode b_MW_keep 26 = .ok (.ireturn, 1) := by decide +kernel
theorem d_MW_restore_0 : decode b_MW_restore 0 = .ok (.aload_n 0, 1) := by decide +kernel
theorem d_MW_restore_1 : decode b_MW_restore 1 = .ok (.getfield 19, 3) := by decide +kernel
theorem d_MW_restore_4 : decode b_MW_restore 4 = .ok (.ifCond .ne 6, 3) := by decide +kernel
theorem d_MW_restore_7 : decode b_MW_restore 7 = .ok (.bipush (-5), 2) := by decide +kernel
theorem d_MW_restore_9 : decode b_MW_restore 9 = .ok (.ireturn, 1) := by decide +kernel
theorem d_MW_restore_10 : decode b_MW_restore 10 = .ok (.aload_n 0, 1) := by decide +kernel
theorem d_MW_restore_11 : decode b_MW_restore 11 = .ok (.getfield 26, 3) := by decide +kernel
theorem d_MW_restore_14 : decode b_MW_restore 14 = .ok (.aload_n 0, 1) := by decide +kernel
theorem d_MW_restore_15 : decode b_MW_restore 15 = .ok (.getfield 10, 3) := by decide +kernel
theorem d_MW_restore_18 : decode b_MW_restore 18 = .ok (.invokevirtual 139, 3) := by decide +kernel
theorem d_MW_restore_21 : decode b_MW_restore 21 = .ok (.aload_n 0, 1) := by decide +kernel
theorem d_MW_restore_22 : decode b_MW_restore 22 = .ok (.getfield 10, 3) := by decide +kernel
theorem d_MW_restore_25 : decode b_MW_restore 25 = .ok (.aload_n 0, 1) := by decide +kernel
theorem d_MW_restore_26 : decode b_MW_restore 26 = .ok (.getfield 16, 3) := by decide +kernel
theorem d_MW_restore_29 : decode b_MW_restore 29 = .ok (.invokevirtual 208, 3) := by decide +kernel
theorem d_MW_restore_32 : decode b_MW_restore 32 = .ok (.aload_n 0, 1) := by decide +kernel
theorem d_MW_restore_33 : decode b_MW_restore 33 = .ok (.getfield 10, 3) := by decide +kernel
theorem d_MW_restore_36 : decode b_MW_restore 36 = .ok (.getfield 132, 3) := by decide +kernel
theorem d_MW_restore_39 : decode b_MW_restore 39 = .ok (.invokevirtual 148, 3) := by decide +kernel
theorem d_MW_restore_42 : decode b_MW_restore 42 = .ok (.ireturn, 1) := by decide +kernel
theorem d_MW_image_0 : decode b_MW_image 0 = .ok (.aload_n 0, 1) := by decide +kernel
theorem d_MW_image_1 : decode b_MW_image 1 = .ok (.getfield 10, 3) := by decide +kernel
theorem d_MW_image_4 : decode b_MW_image 4 = .ok (.getfield 94, 3) := by decide +kernel
theorem d_MW_image_7 : decode b_MW_image 7 = .ok (.iload_n 1, 1) := by decide +kernel
theorem d_MW_image_8 : decode b_MW_image 8 = .ok (.invokevirtual 210, 3) := by decide +kernel
theorem d_MW_image_11 : decode b_MW_image 11 = .ok (.iload_n 2, 1) := by decide +kernel
theorem d_MW_image_12 : decode b_MW_image 12 = .ok (.invokevirtual 214, 3) := by decide +kernel
theorem d_MW_image_15 : decode b_MW_image 15 = .ok (.istore_n 3, 1) := by decide +kernel
theorem d_MW_image_16 : decode b_MW_image 16 = .ok (.iload_n 3, 1) := by decide +kernel
theorem d_MW_image_17 : decode b_MW_image 17 = .ok (.iconst (-1), 1) := by decide +kernel
theorem d_MW_image_18 : decode b_MW_image 18 = .ok (.if_icmp .ne 7, 3) := by decide +kernel
theorem d_MW_image_21 : decode b_MW_image 21 = .ok (.iconst (-1), 1) := by decide +kernel
theorem d_MW_image_22 : decode b_MW_image 22 = .ok (.goto 4, 3) := by decide +kernel
theorem d_MW_image_25 : decode b_MW_image 25 = .ok (.iload_n 3, 1) := by decide +kernel
theorem d_MW_image_26 : decode b_MW_image 26 = .ok (.ireturn, 1) := by decide +kernel
theorem d_MW_rule_0 : decode b_MW_rule 0 = .ok (.iload_n 1, 1) := by decide +kernel
theorem d_MW_rule_1 : decode b_MW_rule 1 = .ok (.invokestatic 128, 3) := by decide +kernel
theorem d_MW_rule_4 : decode b_MW_rule 4 = .ok (.ifCond .ne 5, 3) := by decide +kernel
theorem d_MW_rule_7 : decode b_MW_rule 7 = .ok (.iconst (-1), 1) := by decide +kernel
theorem d_MW_rule_8 : decode b_MW_rule 8 = .ok (.ireturn, 1) := by decide +kernel
theorem d_MW_rule_9 : decode b_MW_rule 9 = .ok (.aload_n 0, 1) := by decide +kernel
theorem d_MW_rule_10 : decode b_MW_rule 10 = .ok (.getfield 10, 3) := by decide +kernel
theorem d_MW_rule_13 : decode b_MW_rule 13 = .ok (.getfield 94, 3) := by decide +kernel
theorem d_MW_rule_16 : decode b_MW_rule 16 = .ok (.iload_n 1, 1) := by decide +kernel
theorem d_MW_rule_17 : decode b_MW_rule 17 = .ok (.invokevirtual 210, 3) := by decide +kernel
theorem d_MW_rule_20 : decode b_MW_rule 20 = .ok (.astore_n 3, 1) := by decide +kernel
theorem d_MW_rule_21 : decode b_MW_rule 21 = .ok (.iload_n 2, 1) := by decide +kernel
theorem d_MW_rule_22 : decode b_MW_rule 22 = .ok (.tableswitch 75 0 3 #[30, 35, 40, 52], 30) := by decide +kernel
theorem d_MW_rule_52 : decode b_MW_rule 52 = .ok (.aload_n 3, 1) := by decide +kernel
theorem d_MW_rule_53 : decode b_MW_rule 53 = .ok (.invokevirtual 148, 3) := by decide +kernel
theorem d_MW_rule_56 : decode b_MW_rule 56 = .ok (.ireturn, 1) := by decide +kernel
theorem d_MW_rule_57 : decode b_MW_rule 57 = .ok (.aload_n 3, 1) := by decide +kernel
theorem d_MW_rule_58 : decode b_MW_rule 58 = .ok (.invokevirtual 217, 3) := by decide +kernel
theorem d_MW_rule_61 : decode b_MW_rule 61 = .ok (.ireturn, 1) := by decide +kernel
theorem d_MW_rule_62 : decode b_MW_rule 62 = .ok (.aload_n 0, 1) := by decide +kernel
theorem d_MW_rule_63 : decode b_MW_rule 63 = .ok (.getfield 10, 3) := by decide +kernel
theorem d_MW_rule_66 : decode b_MW_rule 66 = .ok (.getfield 94, 3) := by decide +kernel
theorem d_MW_rule_69 : decode b_MW_rule 69 = .ok (.iload_n 1, 1) := by decide +kernel
theorem d_MW_rule_70 : decode b_MW_rule 70 = .ok (.invokevirtual 220, 3) := by decide +kernel
theorem d_MW_rule_73 : decode b_MW_rule 73 = .ok (.ireturn, 1) := by decide +kernel
theorem d_MW_rule_74 : decode b_MW_rule 74 = .ok (.aload_n 3, 1) := by decide +kernel
theorem d_MW_rule_75 : decode b_MW_rule 75 = .ok (.iconst 0, 1) := by decide +kernel
theorem d_MW_rule_76 : decode b_MW_rule 76 = .ok (.invokevirtual 214, 3) := by decide +kernel
theorem d_MW_rule_79 : decode b_MW_rule 79 = .ok (.iload_n 1, 1) := by decide +kernel
theorem d_MW_rule_80 : decode b_MW_rule 80 = .ok (.if_icmp .ne 15, 3) := by decide +kernel
theorem d_MW_rule_83 : decode b_MW_rule 83 = .ok (.aload_n 3, 1) := by decide +kernel
theorem d_MW_rule_84 : decode b_MW_rule 84 = .ok (.invokevirtual 148, 3) := by decide +kernel
theorem d_MW_rule_87 : decode b_MW_rule 87 = .ok (.iconst 2, 1) := by decide +kernel
theorem d_MW_rule_88 : decode b_MW_rule 88 = .ok (.if_icmp .lt 7, 3) := by decide +kernel
theorem d_MW_rule_91 : decode b_MW_rule 91 = .ok (.iconst 1, 1) := by decide +kernel
theorem d_MW_rule_92 : decode b_MW_rule 92 = .ok (.goto 4, 3) := by decide +kernel
theorem d_MW_rule_95 : decode b_MW_rule 95 = .ok (.iconst 0, 1) := by decide +kernel
theorem d_MW_rule_96 : decode b_MW_rule 96 = .ok (.ireturn, 1) := by decide +kernel
theorem d_MW_rule_97 : decode b_MW_rule 97 = .ok (.bipush (-2), 2) := by decide +kernel
theorem d_MW_rule_99 : decode b_MW_rule 99 = .ok (.ireturn, 1) := by decide +kernel
theorem d_MW_lengthBehind_0 : decode b_MW_lengthBehind 0 = .ok (.iload_n 1, 1) := by decide +kernel
theorem d_MW_lengthBehind_1 : decode b_MW_lengthBehind 1 = .ok (.invokestatic 128, 3) := by decide +kernel
theorem d_MW_lengthBehind_4 : decode b_MW_lengthBehind 4 = .ok (.ifCond .ne 5, 3) := by decide +kernel
theorem d_MW_lengthBehind_7 : decode b_MW_lengthBehind 7 = .ok (.iconst (-1), 1) := by decide +kernel
theorem d_MW_lengthBehind_8 : decode b_MW_lengthBehind 8 = .ok (.ireturn, 1) := by decide +kernel
theorem d_MW_lengthBehind_9 : decode b_MW_lengthBehind 9 = .ok (.iload_n 2, 1) := by decide +kernel
theorem d_MW_lengthBehind_10 : decode b_MW_lengthBehind 10 = .ok (.ifCond .lt 9, 3) := by decide +kernel
theorem d_MW_lengthBehind_13 : decode b_MW_lengthBehind 13 = .ok (.iload_n 2, 1) := by decide +kernel
theorem d_MW_lengthBehind_14 : decode b_MW_lengthBehind 14 = .ok (.bipush 30, 2) := by decide +kernel
theorem d_MW_lengthBehind_16 : decode b_MW_lengthBehind 16 = .ok (.if_icmp .le 6, 3) := by decide +kernel
theorem d_MW_lengthBehind_19 : decode b_MW_lengthBehind 19 = .ok (.bipush (-2), 2) := by decide +kernel
theorem d_MW_lengthBehind_21 : decode b_MW_lengthBehind 21 = .ok (.ireturn, 1) := by decide +kernel
theorem d_MW_lengthBehind_22 : decode b_MW_lengthBehind 22 = .ok (.aload_n 0, 1) := by decide +kernel
theorem d_MW_lengthBehind_23 : decode b_MW_lengthBehind 23 = .ok (.getfield 62, 3) := by decide +kernel
theorem d_MW_lengthBehind_26 : decode b_MW_lengthBehind 26 = .ok (.aload_n 0, 1) := by decide +kernel
theorem d_MW_lengthBehind_27 : decode b_MW_lengthBehind 27 = .ok (.getfield 10, 3) := by decide +kernel
theorem d_MW_lengthBehind_30 : decode b_MW_lengthBehind 30 = .ok (.getfield 94, 3) := by decide +kernel
theorem d_MW_lengthBehind_33 : decode b_MW_lengthBehind 33 = .ok (.iload_n 1, 1) := by decide +kernel
theorem d_MW_lengthBehind_34 : decode b_MW_lengthBehind 34 = .ok (.iload_n 2, 1) := by decide +kernel
theorem d_MW_lengthBehind_35 : decode b_MW_lengthBehind 35 = .ok (.invokevirtual 223, 3) := by decide +kernel
theorem d_MW_lengthBehind_38 : decode b_MW_lengthBehind 38 = .ok (.ifCond .eq 13, 3) := by decide +kernel
theorem d_MW_lengthBehind_41 : decode b_MW_lengthBehind 41 = .ok (.aload_n 0, 1) := by decide +kernel
theorem d_MW_lengthBehind_42 : decode b_MW_lengthBehind 42 = .ok (.getfield 62, 3) := by decide +kernel
theorem d_MW_lengthBehind_45 : decode b_MW_lengthBehind 45 = .ok (.invokevirtual 226, 3) := by decide +kernel
theorem d_MW_lengthBehind_48 : decode b_MW_lengthBehind 48 = .ok (.goto 5, 3) := by decide +kernel
theorem d_MW_lengthBehind_51 : decode b_MW_lengthBehind 51 = .ok (.bipush (-3), 2) := by decide +kernel
theorem d_MW_lengthBehind_53 : decode b_MW_lengthBehind 53 = .ok (.ireturn, 1) := by decide +kernel
theorem d_MW_countBehind_0 : decode b_MW_countBehind 0 = .ok (.iload_n 1, 1) := by decide +kernel
theorem d_MW_countBehind_1 : decode b_MW_countBehind 1 = .ok (.invokestatic 128, 3) := by decide +kernel
theorem d_MW_countBehind_4 : decode b_MW_countBehind 4 = .ok (.ifCond .eq 10, 3) := by decide +kernel
theorem d_MW_countBehind_7 : decode b_MW_countBehind 7 = .ok (.iload_n 2, 1) := by decide +kernel
theorem d_MW_countBehind_8 : decode b_MW_countBehind 8 = .ok (.invokestatic 128, 3) := by decide +kernel
theorem d_MW_countBehind_11 : decode b_MW_countBehind 11 = .ok (.ifCond .ne 5, 3) := by decide +kernel
theorem d_MW_countBehind_14 : decode b_MW_countBehind 14 = .ok (.iconst (-1), 1) := by decide +kernel
theorem d_MW_countBehind_15 : decode b_MW_countBehind 15 = .ok (.ireturn, 1) := by decide +kernel
theorem d_MW_countBehind_16 : decode b_MW_countBehind 16 = .ok (.iload_n 3, 1) := by decide +kernel
theorem d_MW_countBehind_17 : decode b_MW_countBehind 17 = .ok (.ifCond .lt 9, 3) := by decide +kernel
theorem d_MW_countBehind_20 : decode b_MW_countBehind 20 = .ok (.iload_n 3, 1) := by decide +kernel
theorem d_MW_countBehind_21 : decode b_MW_countBehind 21 = .ok (.bipush 30, 2) := by decide +kernel
theorem d_MW_countBehind_23 : decode b_MW_countBehind 23 = .ok (.if_icmp .le 6, 3) := by decide +kernel
theorem d_MW_countBehind_26 : decode b_MW_countBehind 26 = .ok (.bipush (-2), 2) := by decide +kernel
theorem d_MW_countBehind_28 : decode b_MW_countBehind 28 = .ok (.ireturn, 1) := by decide +kernel
theorem d_MW_countBehind_29 : decode b_MW_countBehind 29 = .ok (.aload_n 0, 1) := by decide +kernel
theorem d_MW_countBehind_30 : decode b_MW_countBehind 30 = .ok (.getfield 62, 3) := by decide +kernel
theorem d_MW_countBehind_33 : decode b_MW_countBehind 33 = .ok (.aload_n 0, 1) := by decide +kernel
theorem d_MW_countBehind_34 : decode b_MW_countBehind 34 = .ok (.getfield 10, 3) := by decide +kernel
theorem d_MW_countBehind_37 : decode b_MW_countBehind 37 = .ok (.getfield 94, 3) := by decide +kernel
theorem d_MW_countBehind_40 : decode b_MW_countBehind 40 = .ok (.iload_n 1, 1) := by decide +kernel
theorem d_MW_countBehind_41 : decode b_MW_countBehind 41 = .ok (.iload_n 3, 1) := by decide +kernel
theorem d_MW_countBehind_42 : decode b_MW_countBehind 42 = .ok (.invokevirtual 223, 3) := by decide +kernel
theorem d_MW_countBehind_45 : decode b_MW_countBehind 45 = .ok (.ifCond .eq 14, 3) := by decide +kernel
theorem d_MW_countBehind_48 : decode b_MW_countBehind 48 = .ok (.aload_n 0, 1) := by decide +kernel
theorem d_MW_countBehind_49 : decode b_MW_countBehind 49 = .ok (.getfield 62, 3) := by decide +kernel
theorem d_MW_countBehind_52 : decode b_MW_countBehind 52 = .ok (.iload_n 2, 1) := by decide +kernel
theorem d_MW_countBehind_53 : decode b_MW_countBehind 53 = .ok (.invokevirtual 227, 3) := by decide +kernel
theorem d_MW_countBehind_56 : decode b_MW_countBehind 56 = .ok (.goto 5, 3) := by decide +kernel
theorem d_MW_countBehind_59 : decode b_MW_countBehind 59 = .ok (.bipush (-3), 2) := by decide +kernel
theorem d_MW_countBehind_61 : decode b_MW_countBehind 61 = .ok (.ireturn, 1) := by decide +kernel
theorem d_MW_mixing_0 : decode b_MW_mixing 0 = .ok (.iconst 1, 1) := by decide +kernel
theorem d_MW_mixing_1 : decode b_MW_mixing 1 = .ok (.istore_n 1, 1) := by decide +kernel
theorem d_MW_mixing_2 : decode b_MW_mixing 2 = .ok (.iload_n 1, 1) := by decide +kernel
theorem d_MW_mixing_3 : decode b_MW_mixing 3 = .ok (.bipush 16, 2) := by decide +kernel
theorem d_MW_mixing_5 : decode b_MW_mixing 5 = .ok (.if_icmp .gt 25, 3) := by decide +kernel
theorem d_MW_mixing_8 : decode b_MW_mixing 8 = .ok (.aload_n 0, 1) := by decide +kernel
theorem d_MW_mixing_9 : decode b_MW_mixing 9 = .ok (.getfield 10, 3) := by decide +kernel
theorem d_MW_mixing_12 : decode b_MW_mixing 12 = .ok (.getfield 94, 3) := by decide +kernel
theorem d_MW_mixing_15 : decode b_MW_mixing 15 = .ok (.iload_n 1, 1) := by decide +kernel
theorem d_MW_mixing_16 : decode b_MW_mixing 16 = .ok (.invokevirtual 228, 3) := by decide +kernel
theorem d_MW_mixing_19 : decode b_MW_mixing 19 = .ok (.ifCond .eq 5, 3) := by decide +kernel
theorem d_MW_mixing_22 : decode b_MW_mixing 22 = .ok (.iload_n 1, 1) := by decide +kernel
theorem d_MW_mixing_23 : decode b_MW_mixing 23 = .ok (.ireturn, 1) := by decide +kernel
theorem d_MW_mixing_24 : decode b_MW_mixing 24 = .ok (.iinc 1 1, 3) := by decide +kernel
theorem d_MW_mixing_27 : decode b_MW_mixing 27 = .ok (.goto (-25), 3) := by decide +kernel
theorem d_MW_mixing_30 : decode b_MW_mixing 30 = .ok (.bipush (-5), 2) := by decide +kernel
theorem d_MW_mixing_32 : decode b_MW_mixing 32 = .ok (.ireturn, 1) := by decide +kernel
theorem d_MW_at_0 : decode b_MW_at 0 = .ok (.aload_n 0, 1) := by decide +kernel
theorem d_MW_at_1 : decode b_MW_at 1 = .ok (.getfield 10, 3) := by decide +kernel
theorem d_MW_at_4 : decode b_MW_at 4 = .ok (.getfield 132, 3) := by decide +kernel
theorem d_MW_at_7 : decode b_MW_at 7 = .ok (.iload_n 1, 1) := by decide +kernel
theorem d_MW_at_8 : decode b_MW_at 8 = .ok (.invokevirtual 214, 3) := by decide +kernel
theorem d_MW_at_11 : decode b_MW_at 11 = .ok (.istore_n 2, 1) := by decide +kernel
theorem d_MW_at_12 : decode b_MW_at 12 = .ok (.iload_n 2, 1) := by decide +kernel
theorem d_MW_at_13 : decode b_MW_at 13 = .ok (.iconst (-1), 1) := by decide +kernel
theorem d_MW_at_14 : decode b_MW_at 14 = .ok (.if_icmp .ne 7, 3) := by decide +kernel
theorem d_MW_at_17 : decode b_MW_at 17 = .ok (.iconst (-1), 1) := by decide +kernel
theorem d_MW_at_18 : decode b_MW_at 18 = .ok (.goto 4, 3) := by decide +kernel
theorem d_MW_at_21 : decode b_MW_at 21 = .ok (.iload_n 2, 1) := by decide +kernel
theorem d_MW_at_22 : decode b_MW_at 22 = .ok (.ireturn, 1) := by decide +kernel
theorem d_MW_pieces_0 : decode b_MW_pieces 0 = .ok (.iload_n 1, 1) := by decide +kernel
theorem d_MW_pieces_1 : decode b_MW_pieces 1 = .ok (.iconst 1, 1) := by decide +kernel
theorem d_MW_pieces_2 : decode b_MW_pieces 2 = .ok (.if_icmp .lt 18, 3) := by decide +kernel
theorem d_MW_pieces_5 : decode b_MW_pieces 5 = .ok (.iload_n 1, 1) := by decide +kernel
theorem d_MW_pieces_6 : decode b_MW_pieces 6 = .ok (.bipush 20, 2) := by decide +kernel
theorem d_MW_pieces_8 : decode b_MW_pieces 8 = .ok (.if_icmp .gt 12, 3) := by decide +kernel
theorem d_MW_pieces_11 : decode b_MW_pieces 11 = .ok (.iload_n 2, 1) := by decide +kernel
theorem d_MW_pieces_12 : decode b_MW_pieces 12 = .ok (.ifCond .lt 8, 3) := by decide +kernel
theorem d_MW_pieces_15 : decode b_MW_pieces 15 = .ok (.iload_n 2, 1) := by decide +kernel
theorem d_MW_pieces_16 : decode b_MW_pieces 16 = .ok (.iconst 3, 1) := by decide +kernel
theorem d_MW_pieces_17 : decode b_MW_pieces 17 = .ok (.if_icmp .le 6, 3) := by decide +kernel
theorem d_MW_pieces_20 : decode b_MW_pieces 20 = .ok (.bipush (-2), 2) := by decide +kernel
theorem d_MW_pieces_22 : decode b_MW_pieces 22 = .ok (.ireturn, 1) := by decide +kernel
theorem d_MW_pieces_23 : decode b_MW_pieces 23 = .ok (.aload_n 0, 1) := by decide +kernel
theorem d_MW_pieces_24 : decode b_MW_pieces 24 = .ok (.getfield 69, 3) := by decide +kernel
theorem d_MW_pieces_27 : decode b_MW_pieces 27 = .ok (.aload_n 0, 1) := by decide +kernel
theorem d_MW_pieces_28 : decode b_MW_pieces 28 = .ok (.getfield 10, 3) := by decide +kernel
theorem d_MW_pieces_31 : decode b_MW_pieces 31 = .ok (.getfield 132, 3) := by decide +kernel
theorem d_MW_pieces_34 : decode b_MW_pieces 34 = .ok (.iload_n 1, 1) := by decide +kernel
theorem d_MW_pieces_35 : decode b_MW_pieces 35 = .ok (.iload_n 2, 1) := by decide +kernel
theorem d_MW_pieces_36 : decode b_MW_pieces 36 = .ok (.invokevirtual 231, 3) := by decide +kernel
theorem d_MW_pieces_39 : decode b_MW_pieces 39 = .ok (.ireturn, 1) := by decide +kernel
theorem d_MW_balance_0 : decode b_MW_balance 0 = .ok (.iload_n 1, 1) := by decide +kernel
theorem d_MW_balance_1 : decode b_MW_balance 1 = .ok (.invokestatic 128, 3) := by decide +kernel
theorem d_MW_balance_4 : decode b_MW_balance 4 = .ok (.ifCond .ne 5, 3) := by decide +kernel
theorem d_MW_balance_7 : decode b_MW_balance 7 = .ok (.iconst (-1), 1) := by decide +kernel
theorem d_MW_balance_8 : decode b_MW_balance 8 = .ok (.ireturn, 1) := by decide +kernel
theorem d_MW_balance_9 : decode b_MW_balance 9 = .ok (.iload_n 2, 1) := by decide +kernel
theorem d_MW_balance_10 : decode b_MW_balance 10 = .ok (.iconst 1, 1) := by decide +kernel
theorem d_MW_balance_11 : decode b_MW_balance 11 = .ok (.if_icmp .lt 10, 3) := by decide +kernel
theorem d_MW_balance_14 : decode b_MW_balance 14 = .ok (.iload_n 2, 1) := by decide +kernel
theorem d_MW_balance_15 : decode b_MW_balance 15 = .ok (.sipush 300, 3) := by decide +kernel
theorem d_MW_balance_18 : decode b_MW_balance 18 = .ok (.if_icmp .le 6, 3) := by decide +kernel
theorem d_MW_balance_21 : decode b_MW_balance 21 = .ok (.bipush (-2), 2) := by decide +kernel
theorem d_MW_balance_23 : decode b_MW_balance 23 = .ok (.ireturn, 1) := by decide +kernel
theorem d_MW_balance_24 : decode b_MW_balance 24 = .ok (.iload_n 2, 1) := by decide +kernel
theorem d_MW_balance_25 : decode b_MW_balance 25 = .ok (.aload_n 0, 1) := by decide +kernel
theorem d_MW_balance_26 : decode b_MW_balance 26 = .ok (.getfield 10, 3) := by decide +kernel
theorem d_MW_balance_29 : decode b_MW_balance 29 = .ok (.getfield 132, 3) := by decide +kernel
theorem d_MW_balance_32 : decode b_MW_balance 32 = .ok (.invokevirtual 148, 3) := by decide +kernel
theorem d_MW_balance_35 : decode b_MW_balance 35 = .ok (.if_icmp .le 8, 3) := by decide +kernel
theorem d_MW_balance_38 : decode b_MW_balance 38 = .ok (.bipush (-5), 2) := by decide +kernel
theorem d_MW_balance_40 : decode b_MW_balance 40 = .ok (.goto 15, 3) := by decide +kernel
theorem d_MW_balance_43 : decode b_MW_balance 43 = .ok (.aload_n 0, 1) := by decide +kernel
theorem d_MW_balance_44 : decode b_MW_balance 44 = .ok (.getfield 10, 3) := by decide +kernel
theorem d_MW_balance_47 : decode b_MW_balance 47 = .ok (.getfield 132, 3) := by decide +kernel
theorem d_MW_balance_50 : decode b_MW_balance 50 = .ok (.iload_n 1, 1) := by decide +kernel
theorem d_MW_balance_51 : decode b_MW_balance 51 = .ok (.iload_n 2, 1) := by decide +kernel
theorem d_MW_balance_52 : decode b_MW_balance 52 = .ok (.invokevirtual 235, 3) := by decide +kernel
theorem d_MW_balance_55 : decode b_MW_balance 55 = .ok (.ireturn, 1) := by decide +kernel
theorem d_MW_share_0 : decode b_MW_share 0 = .ok (.iload_n 1, 1) := by decide +kernel
theorem d_MW_share_1 : decode b_MW_share 1 = .ok (.invokestatic 128, 3) := by decide +kernel
theorem d_MW_share_4 : decode b_MW_share 4 = .ok (.ifCond .ne 5, 3) := by decide +kernel
theorem d_MW_share_7 : decode b_MW_share 7 = .ok (.iconst (-1), 1) := by decide +kernel
theorem d_MW_share_8 : decode b_MW_share 8 = .ok (.ireturn, 1) := by decide +kernel
theorem d_MW_share_9 : decode b_MW_share 9 = .ok (.aload_n 0, 1) := by decide +kernel
theorem d_MW_share_10 : decode b_MW_share 10 = .ok (.getfield 10, 3) := by decide +kernel
theorem d_MW_share_13 : decode b_MW_share 13 = .ok (.getfield 132, 3) := by decide +kernel
theorem d_MW_share_16 : decode b_MW_share 16 = .ok (.iload_n 1, 1) := by decide +kernel
theorem d_MW_share_17 : decode b_MW_share 17 = .ok (.invokevirtual 135, 3) := by decide +kernel
theorem d_MW_share_20 : decode b_MW_share 20 = .ok (.istore_n 3, 1) := by decide +kernel
theorem d_MW_share_21 : decode b_MW_share 21 = .ok (.aload_n 0, 1) := by decide +kernel
theorem d_MW_share_22 : decode b_MW_share 22 = .ok (.getfield 10, 3) := by decide +kernel
theorem d_MW_share_25 : decode b_MW_share 25 = .ok (.getfield 132, 3) := by decide +kernel
theorem d_MW_share_28 : decode b_MW_share 28 = .ok (.invokevirtual 148, 3) := by decide +kernel
theorem d_MW_share_31 : decode b_MW_share 31 = .ok (.istore 4, 2) := by decide +kernel
theorem d_MW_share_33 : decode b_MW_share 33 = .ok (.iload_n 2, 1) := by decide +kernel
theorem d_MW_share_34 : decode b_MW_share 34 = .ok (.lookupswitch 45 #[(0, 26), (1, 35)], 26) := by decide +kernel
theorem d_MW_share_60 : decode b_MW_share 60 = .ok (.iload_n 3, 1) := by decide +kernel
theorem d_MW_share_61 : decode b_MW_share 61 = .ok (.iload_n 3, 1) := by decide +kernel
theorem d_MW_share_62 : decode b_MW_share 62 = .ok (.iload 4, 2) := by decide +kernel
theorem d_MW_share_64 : decode b_MW_share 64 = .ok (.invokestatic 239, 3) := by decide +kernel
theorem d_MW_share_67 : decode b_MW_share 67 = .ok (.idiv, 1) := by decide +kernel
theorem d_MW_share_68 : decode b_MW_share 68 = .ok (.ireturn, 1) := by decide +kernel
theorem d_MW_share_69 : decode b_MW_share 69 = .ok (.iload 4, 2) := by decide +kernel
theorem d_MW_share_71 : decode b_MW_share 71 = .ok (.iload_n 3, 1) := by decide +kernel
theorem d_MW_share_72 : decode b_MW_share 72 = .ok (.iload 4, 2) := by decide +kernel
theorem d_MW_share_74 : decode b_MW_share 74 = .ok (.invokestatic 239, 3) := by decide +kernel
theorem d_MW_share_77 : decode b_MW_share 77 = .ok (.idiv, 1) := by decide +kernel
theorem d_MW_share_78 : decode b_MW_share 78 = .ok (.ireturn, 1) := by decide +kernel
theorem d_MW_share_79 : decode b_MW_share 79 = .ok (.bipush (-2), 2) := by decide +kernel
theorem d_MW_share_81 : decode b_MW_share 81 = .ok (.ireturn, 1) := by decide +kernel
theorem d_MW_run_0 : decode b_MW_run 0 = .ok (.iload_n 1, 1) := by decide +kernel
theorem d_MW_run_1 : decode b_MW_run 1 = .ok (.ifCond .lt 8, 3) := by decide +kernel
theorem d_MW_run_4 : decode b_MW_run 4 = .ok (.iload_n 1, 1) := by decide +kernel
theorem d_MW_run_5 : decode b_MW_run 5 = .ok (.iconst 4, 1) := by decide +kernel
theorem d_MW_run_6 : decode b_MW_run 6 = .ok (.if_icmp .le 6, 3) := by decide +kernel
theorem d_MW_run_9 : decode b_MW_run 9 = .ok (.bipush (-2), 2) := by decide +kernel
theorem d_MW_run_11 : decode b_MW_run 11 = .ok (.ireturn, 1) := by decide +kernel
theorem d_MW_run_12 : decode b_MW_run 12 = .ok (.aload_n 0, 1) := by decide +kernel
theorem d_MW_run_13 : decode b_MW_run 13 = .ok (.getfield 76, 3) := by decide +kernel
theorem d_MW_run_16 : decode b_MW_run 16 = .ok (.aload_n 0, 1) := by decide +kernel
theorem d_MW_run_17 : decode b_MW_run 17 = .ok (.getfield 10, 3) := by decide +kernel
theorem d_MW_run_20 : decode b_MW_run 20 = .ok (.getfield 132, 3) := by decide +kernel
theorem d_MW_run_23 : decode b_MW_run 23 = .ok (.invokevirtual 242, 3) := by decide +kernel
theorem d_MW_run_26 : decode b_MW_run 26 = .ok (.aload_n 0, 1) := by decide +kernel
theorem d_MW_run_27 : decode b_MW_run 27 = .ok (.getfield 76, 3) := by decide +kernel
theorem d_MW_run_30 : decode b_MW_run 30 = .ok (.invokevirtual 244, 3) := by decide +kernel
theorem d_MW_run_33 : decode b_MW_run 33 = .ok (.istore_n 2, 1) := by decide +kernel
theorem d_MW_run_34 : decode b_MW_run 34 = .ok (.aload_n 0, 1) := by decide +kernel
theorem d_MW_run_35 : decode b_MW_run 35 = .ok (.getfield 76, 3) := by decide +kernel
theorem d_MW_run_38 : decode b_MW_run 38 = .ok (.invokevirtual 247, 3) := by decide +kernel
theorem d_MW_run_41 : decode b_MW_run 41 = .ok (.istore_n 3, 1) := by decide +kernel
theorem d_MW_run_42 : decode b_MW_run 42 = .ok (.iload_n 1, 1) := by decide +kernel
theorem d_MW_run_43 : decode b_MW_run 43 = .ok (.tableswitch 49 0 3 #[29, 31, 39, 41], 29) := by decide +kernel
theorem d_MW_run_72 : decode b_MW_run 72 = .ok (.iload_n 2, 1) := by decide +kernel
theorem d_MW_run_73 : decode b_MW_run 73 = .ok (.ireturn, 1) := by decide +kernel
theorem d_MW_run_74 : decode b_MW_run 74 = .ok (.aload_n 0, 1) := by decide +kernel
theorem d_MW_run_75 : decode b_MW_run 75 = .ok (.getfield 76, 3) := by decide +kernel
theorem d_MW_run_78 : decode b_MW_run 78 = .ok (.invokevirtual 248, 3) := by decide +kernel
theorem d_MW_run_81 : decode b_MW_run 81 = .ok (.ireturn, 1) := by decide +kernel
theorem d_MW_run_82 : decode b_MW_run 82 = .ok (.iload_n 3, 1) := by decide +kernel
theorem d_MW_run_83 : decode b_MW_run 83 = .ok (.ireturn, 1) := by decide +kernel
theorem d_MW_run_84 : decode b_MW_run 84 = .ok (.iload_n 3, 1) := by decide +kernel
theorem d_MW_run_85 : decode b_MW_run 85 = .ok (.iload_n 3, 1) := by decide +kernel
theorem d_MW_run_86 : decode b_MW_run 86 = .ok (.iload_n 2, 1) := by decide +kernel
theorem d_MW_run_87 : decode b_MW_run 87 = .ok (.invokestatic 239, 3) := by decide +kernel
theorem d_MW_run_90 : decode b_MW_run 90 = .ok (.idiv, 1) := by decide +kernel
theorem d_MW_run_91 : decode b_MW_run 91 = .ok (.ireturn, 1) := by decide +kernel
theorem d_MW_run_92 : decode b_MW_run 92 = .ok (.iload_n 2, 1) := by decide +kernel
theorem d_MW_run_93 : decode b_MW_run 93 = .ok (.iload_n 3, 1) := by decide +kernel
theorem d_MW_run_94 : decode b_MW_run 94 = .ok (.iload_n 2, 1) := by decide +kernel
theorem d_MW_run_95 : decode b_MW_run 95 = .ok (.invokestatic 239, 3) := by decide +kernel
theorem d_MW_run_98 : decode b_MW_run 98 = .ok (.idiv, 1) := by decide +kernel
theorem d_MW_run_99 : decode b_MW_run 99 = .ok (.ireturn, 1) := by decide +kernel
theorem d_MW_mirrored_0 : decode b_MW_mirrored 0 = .ok (.iload_n 1, 1) := by decide +kernel
theorem d_MW_mirrored_1 : decode b_MW_mirrored 1 = .ok (.ifCond .lt 8, 3) := by decide +kernel
theorem d_MW_mirrored_4 : decode b_MW_mirrored 4 = .ok (.iload_n 1, 1) := by decide +kernel
theorem d_MW_mirrored_5 : decode b_MW_mirrored 5 = .ok (.iconst 1, 1) := by decide +kernel
theorem d_MW_mirrored_6 : decode b_MW_mirrored 6 = .ok (.if_icmp .le 6, 3) := by decide +kernel
theorem d_MW_mirrored_9 : decode b_MW_mirrored 9 = .ok (.bipush (-2), 2) := by decide +kernel
theorem d_MW_mirrored_11 : decode b_MW_mirrored 11 = .ok (.ireturn, 1) := by decide +kernel
theorem d_MW_mirrored_12 : decode b_MW_mirrored 12 = .ok (.aload_n 0, 1) := by decide +kernel
theorem d_MW_mirrored_13 : decode b_MW_mirrored 13 = .ok (.getfield 83, 3) := by decide +kernel
theorem d_MW_mirrored_16 : decode b_MW_mirrored 16 = .ok (.aload_n 0, 1) := by decide +kernel
theorem d_MW_mirrored_17 : decode b_MW_mirrored 17 = .ok (.getfield 10, 3) := by decide +kernel
theorem d_MW_mirrored_20 : decode b_MW_mirrored 20 = .ok (.getfield 132, 3) := by decide +kernel
theorem d_MW_mirrored_23 : decode b_MW_mirrored 23 = .ok (.invokevirtual 251, 3) := by decide +kernel
theorem d_MW_mirrored_26 : decode b_MW_mirrored 26 = .ok (.iload_n 1, 1) := by decide +kernel
theorem d_MW_mirrored_27 : decode b_MW_mirrored 27 = .ok (.ifCond .ne 13, 3) := by decide +kernel
theorem d_MW_mirrored_30 : decode b_MW_mirrored 30 = .ok (.aload_n 0, 1) := by decide +kernel
theorem d_MW_mirrored_31 : decode b_MW_mirrored 31 = .ok (.getfield 83, 3) := by decide +kernel
theorem d_MW_mirrored_34 : decode b_MW_mirrored 34 = .ok (.invokevirtual 252, 3) := by decide +kernel
theorem d_MW_mirrored_37 : decode b_MW_mirrored 37 = .ok (.goto 10, 3) := by decide +kernel
theorem d_MW_mirrored_40 : decode b_MW_mirrored 40 = .ok (.aload_n 0, 1) := by decide +kernel
theorem d_MW_mirrored_41 : decode b_MW_mirrored 41 = .ok (.getfield 83, 3) := by decide +kernel
theorem d_MW_mirrored_44 : decode b_MW_mirrored 44 = .ok (.invokevirtual 253, 3) := by decide +kernel
theorem d_MW_mirrored_47 : decode b_MW_mirrored 47 = .ok (.ireturn, 1) := by decide +kernel
theorem d_MW_comes_0 : decode b_MW_comes 0 = .ok (.iload_n 1, 1) := by decide +kernel
theorem d_MW_comes_1 : decode b_MW_comes 1 = .ok (.ifCond .ge 6, 3) := by decide +kernel
theorem d_MW_comes_4 : decode b_MW_comes 4 = .ok (.bipush (-2), 2) := by decide +kernel
theorem d_MW_comes_6 : decode b_MW_comes 6 = .ok (.ireturn, 1) := by decide +kernel
theorem d_MW_comes_7 : decode b_MW_comes 7 = .ok (.aload_n 0, 1) := by decide +kernel
theorem d_MW_comes_8 : decode b_MW_comes 8 = .ok (.getfield 10, 3) := by decide +kernel
theorem d_MW_comes_11 : decode b_MW_comes 11 = .ok (.invokevirtual 254, 3) := by decide +kernel
theorem d_MW_comes_14 : decode b_MW_comes 14 = .ok (.ifCond .ne 6, 3) := by decide +kernel
theorem d_MW_comes_17 : decode b_MW_comes 17 = .ok (.bipush (-4), 2) := by decide +kernel
theorem d_MW_comes_19 : decode b_MW_comes 19 = .ok (.ireturn, 1) := by decide +kernel
theorem d_MW_comes_20 : decode b_MW_comes 20 = .ok (.aload_n 0, 1) := by decide +kernel
theorem d_MW_comes_21 : decode b_MW_comes 21 = .ok (.getfield 90, 3) := by decide +kernel
theorem d_MW_comes_24 : decode b_MW_comes 24 = .ok (.aload_n 0, 1) := by decide +kernel
theorem d_MW_comes_25 : decode b_MW_comes 25 = .ok (.getfield 10, 3) := by decide +kernel
theorem d_MW_comes_28 : decode b_MW_comes 28 = .ok (.getfield 132, 3) := by decide +kernel
theorem d_MW_comes_31 : decode b_MW_comes 31 = .ok (.aload_n 0, 1) := by decide +kernel
theorem d_MW_comes_32 : decode b_MW_comes 32 = .ok (.getfield 10, 3) := by decide +kernel
theorem d_MW_comes_35 : decode b_MW_comes 35 = .ok (.getfield 170, 3) := by decide +kernel
theorem d_MW_comes_38 : decode b_MW_comes 38 = .ok (.invokevirtual 173, 3) := by decide +kernel
theorem d_MW_comes_41 : decode b_MW_comes 41 = .ok (.iload_n 1, 1) := by decide +kernel
theorem d_MW_comes_42 : decode b_MW_comes 42 = .ok (.aload_n 0, 1) := by decide +kernel
theorem d_MW_comes_43 : decode b_MW_comes 43 = .ok (.getfield 90, 3) := by decide +kernel
theorem d_MW_comes_46 : decode b_MW_comes 46 = .ok (.invokevirtual 193, 3) := by decide +kernel
theorem d_MW_comes_49 : decode b_MW_comes 49 = .ok (.if_icmp .ge 14, 3) := by decide +kernel
theorem d_MW_comes_52 : decode b_MW_comes 52 = .ok (.aload_n 0, 1) := by decide +kernel
theorem d_MW_comes_53 : decode b_MW_comes 53 = .ok (.getfield 90, 3) := by decide +kernel
theorem d_MW_comes_56 : decode b_MW_comes 56 = .ok (.iload_n 1, 1) := by decide +kernel
theorem d_MW_comes_57 : decode b_MW_comes 57 = .ok (.invokevirtual 257, 3) := by decide +kernel
theorem d_MW_comes_60 : decode b_MW_comes 60 = .ok (.goto 5, 3) := by decide +kernel
theorem d_MW_comes_63 : decode b_MW_comes 63 = .ok (.bipush (-5), 2) := by decide +kernel
theorem d_MW_comes_65 : decode b_MW_comes 65 = .ok (.ireturn, 1) := by decide +kernel
theorem d_MW_returns_0 : decode b_MW_returns 0 = .ok (.iload_n 1, 1) := by decide +kernel
theorem d_MW_returns_1 : decode b_MW_returns 1 = .ok (.ifCond .lt 12, 3) := by decide +kernel
theorem d_MW_returns_4 : decode b_MW_returns 4 = .ok (.iload_n 2, 1) := by decide +kernel
theorem d_MW_returns_5 : decode b_MW_returns 5 = .ok (.ifCond .lt 8, 3) := by decide +kernel
theorem d_MW_returns_8 : decode b_MW_returns 8 = .ok (.iload_n 2, 1) := by decide +kernel
theorem d_MW_returns_9 : decode b_MW_returns 9 = .ok (.iconst 2, 1) := by decide +kernel
theorem d_MW_returns_10 : decode b_MW_returns 10 = .ok (.if_icmp .le 6, 3) := by decide +kernel
theorem d_MW_returns_13 : decode b_MW_returns 13 = .ok (.bipush (-2), 2) := by decide +kernel
theorem d_MW_returns_15 : decode b_MW_returns 15 = .ok (.ireturn, 1) := by decide +kernel
theorem d_MW_returns_16 : decode b_MW_returns 16 = .ok (.aload_n 0, 1) := by decide +kernel
theorem d_MW_returns_17 : decode b_MW_returns 17 = .ok (.getfield 10, 3) := by decide +kernel
theorem d_MW_returns_20 : decode b_MW_returns 20 = .ok (.invokevirtual 254, 3) := by decide +kernel
theorem d_MW_returns_23 : decode b_MW_returns 23 = .ok (.ifCond .ne 6, 3) := by decide +kernel
theorem d_MW_returns_26 : decode b_MW_returns 26 = .ok (.bipush (-4), 2) := by decide +kernel
theorem d_MW_returns_28 : decode b_MW_returns 28 = .ok (.ireturn, 1) := by decide +kernel
theorem d_MW_returns_29 : decode b_MW_returns 29 = .ok (.aload_n 0, 1) := by decide +kernel
theorem d_MW_returns_30 : decode b_MW_returns 30 = .ok (.getfield 90, 3) := by decide +kernel
theorem d_MW_returns_33 : decode b_MW_returns 33 = .ok (.aload_n 0, 1) := by decide +kernel
theorem d_MW_returns_34 : decode b_MW_returns 34 = .ok (.getfield 10, 3) := by decide +kernel
theorem d_MW_returns_37 : decode b_MW_returns 37 = .ok (.getfield 132, 3) := by decide +kernel
theorem d_MW_returns_40 : decode b_MW_returns 40 = .ok (.aload_n 0, 1) := by decide +kernel
theorem d_MW_returns_41 : decode b_MW_returns 41 = .ok (.getfield 10, 3) := by decide +kernel
theorem d_MW_returns_44 : decode b_MW_returns 44 = .ok (.getfield 170, 3) := by decide +kernel
theorem d_MW_returns_47 : decode b_MW_returns 47 = .ok (.invokevirtual 173, 3) := by decide +kernel
theorem d_MW_returns_50 : decode b_MW_returns 50 = .ok (.iload_n 1, 1) := by decide +kernel
theorem d_MW_returns_51 : decode b_MW_returns 51 = .ok (.aload_n 0, 1) := by decide +kernel
theorem d_MW_returns_52 : decode b_MW_returns 52 = .ok (.getfield 90, 3) := by decide +kernel
theorem d_MW_returns_55 : decode b_MW_returns 55 = .ok (.invokevirtual 180, 3) := by decide +kernel
theorem d_MW_returns_58 : decode b_MW_returns 58 = .ok (.if_icmp .lt 6, 3) := by decide +kernel
theorem d_MW_returns_61 : decode b_MW_returns 61 = .ok (.bipush (-5), 2) := by decide +kernel
theorem d_MW_returns_63 : decode b_MW_returns 63 = .ok (.ireturn, 1) := by decide +kernel
theorem d_MW_returns_64 : decode b_MW_returns 64 = .ok (.iload_n 2, 1) := by decide +kernel
theorem d_MW_returns_65 : decode b_MW_returns 65 = .ok (.lookupswitch 45 #[(0, 27), (1, 36)], 27) := by decide +kernel
theorem d_MW_returns_92 : decode b_MW_returns 92 = .ok (.aload_n 0, 1) := by decide +kernel
theorem d_MW_returns_93 : decode b_MW_returns 93 = .ok (.getfield 90, 3) := by decide +kernel
theorem d_MW_returns_96 : decode b_MW_returns 96 = .ok (.iload_n 1, 1) := by decide +kernel
theorem d_MW_returns_97 : decode b_MW_returns 97 = .ok (.invokevirtual 260, 3) := by decide +kernel
theorem d_MW_returns_100 : decode b_MW_returns 100 = .ok (.ireturn, 1) := by decide +kernel
theorem d_MW_returns_101 : decode b_MW_returns 101 = .ok (.aload_n 0, 1) := by decide +kernel
theorem d_MW_returns_102 : decode b_MW_returns 102 = .ok (.getfield 90, 3) := by decide +kernel
theorem d_MW_returns_105 : decode b_MW_returns 105 = .ok (.iload_n 1, 1) := by decide +kernel
theorem d_MW_returns_106 : decode b_MW_returns 106 = .ok (.invokevirtual 263, 3) := by decide +kernel
theorem d_MW_returns_109 : decode b_MW_returns 109 = .ok (.ireturn, 1) := by decide +kernel
theorem d_MW_returns_110 : decode b_MW_returns 110 = .ok (.aload_n 0, 1) := by decide +kernel
theorem d_MW_returns_111 : decode b_MW_returns 111 = .ok (.getfield 90, 3) := by decide +kernel
theorem d_MW_returns_114 : decode b_MW_returns 114 = .ok (.iload_n 1, 1) := by decide +kernel
theorem d_MW_returns_115 : decode b_MW_returns 115 = .ok (.invokevirtual 266, 3) := by decide +kernel
theorem d_MW_returns_118 : decode b_MW_returns 118 = .ok (.ireturn, 1) := by decide +kernel
theorem d_MW_row_0 : decode b_MW_row 0 = .ok (.iload_n 1, 1) := by decide +kernel
theorem d_MW_row_1 : decode b_MW_row 1 = .ok (.ifCond .ge 6, 3) := by decide +kernel
theorem d_MW_row_4 : decode b_MW_row 4 = .ok (.bipush (-2), 2) := by decide +kernel
theorem d_MW_row_6 : decode b_MW_row 6 = .ok (.ireturn, 1) := by decide +kernel
theorem d_MW_row_7 : decode b_MW_row 7 = .ok (.aload_n 0, 1) := by decide +kernel
theorem d_MW_row_8 : decode b_MW_row 8 = .ok (.getfield 10, 3) := by decide +kernel
theorem d_MW_row_11 : decode b_MW_row 11 = .ok (.invokevirtual 254, 3) := by decide +kernel
theorem d_MW_row_14 : decode b_MW_row 14 = .ok (.ifCond .ne 6, 3) := by decide +kernel
theorem d_MW_row_17 : decode b_MW_row 17 = .ok (.bipush (-4), 2) := by decide +kernel
theorem d_MW_row_19 : decode b_MW_row 19 = .ok (.ireturn, 1) := by decide +kernel
theorem d_MW_row_20 : decode b_MW_row 20 = .ok (.aload_n 0, 1) := by decide +kernel
theorem d_MW_row_21 : decode b_MW_row 21 = .ok (.getfield 90, 3) := by decide +kernel
theorem d_MW_row_24 : decode b_MW_row 24 = .ok (.aload_n 0, 1) := by decide +kernel
theorem d_MW_row_25 : decode b_MW_row 25 = .ok (.getfield 10, 3) := by decide +kernel
theorem d_MW_row_28 : decode b_MW_row 28 = .ok (.getfield 132, 3) := by decide +kernel
theorem d_MW_row_31 : decode b_MW_row 31 = .ok (.aload_n 0, 1) := by decide +kernel
theorem d_MW_row_32 : decode b_MW_row 32 = .ok (.getfield 10, 3) := by decide +kernel
theorem d_MW_row_35 : decode b_MW_row 35 = .ok (.getfield 170, 3) := by decide +kernel
theorem d_MW_row_38 : decode b_MW_row 38 = .ok (.invokevirtual 173, 3) := by decide +kernel
theorem d_MW_row_41 : decode b_MW_row 41 = .ok (.iload_n 1, 1) := by decide +kernel
theorem d_MW_row_42 : decode b_MW_row 42 = .ok (.aload_n 0, 1) := by decide +kernel
theorem d_MW_row_43 : decode b_MW_row 43 = .ok (.getfield 90, 3) := by decide +kernel
theorem d_MW_row_46 : decode b_MW_row 46 = .ok (.invokevirtual 177, 3) := by decide +kernel
theorem d_MW_row_49 : decode b_MW_row 49 = .ok (.if_icmp .ge 14, 3) := by decide +kernel
theorem d_MW_row_52 : decode b_MW_row 52 = .ok (.aload_n 0, 1) := by decide +kernel
theorem d_MW_row_53 : decode b_MW_row 53 = .ok (.getfield 90, 3) := by decide +kernel
theorem d_MW_row_56 : decode b_MW_row 56 = .ok (.iload_n 1, 1) := by decide +kernel
theorem d_MW_row_57 : decode b_MW_row 57 = .ok (.invokevirtual 183, 3) := by decide +kernel
theorem d_MW_row_60 : decode b_MW_row 60 = .ok (.goto 5, 3) := by decide +kernel
theorem d_MW_row_63 : decode b_MW_row 63 = .ok (.bipush (-5), 2) := by decide +kernel
theorem d_MW_row_65 : decode b_MW_row 65 = .ok (.ireturn, 1) := by decide +kernel
theorem d_MW_count_0 : decode b_MW_count 0 = .ok (.iload_n 1, 1) := by decide +kernel
theorem d_MW_count_1 : decode b_MW_count 1 = .ok (.tableswitch 122 0 7 #[47, 58, 69, 80, 80, 95, 106, 114], 47) := by decide +kernel
theorem d_MW_count_48 : decode b_MW_count 48 = .ok (.aload_n 0, 1) := by decide +kernel
theorem d_MW_count_49 : decode b_MW_count 49 = .ok (.getfield 10, 3) := by decide +kernel
theorem d_MW_count_52 : decode b_MW_count 52 = .ok (.getfield 132, 3) := by decide +kernel
theorem d_MW_count_55 : decode b_MW_count 55 = .ok (.invokevirtual 148, 3) := by decide +kernel
theorem d_MW_count_58 : decode b_MW_count 58 = .ok (.ireturn, 1) := by decide +kernel
theorem d_MW_count_59 : decode b_MW_count 59 = .ok (.aload_n 0, 1) := by decide +kernel
theorem d_MW_count_60 : decode b_MW_count 60 = .ok (.getfield 10, 3) := by decide +kernel
theorem d_MW_count_63 : decode b_MW_count 63 = .ok (.getfield 132, 3) := by decide +kernel
theorem d_MW_count_66 : decode b_MW_count 66 = .ok (.invokevirtual 217, 3) := by decide +kernel
theorem d_MW_count_69 : decode b_MW_count 69 = .ok (.ireturn, 1) := by decide +kernel
theorem d_MW_count_70 : decode b_MW_count 70 = .ok (.aload_n 0, 1) := by decide +kernel
theorem d_MW_count_71 : decode b_MW_count 71 = .ok (.getfield 10, 3) := by decide +kernel
theorem d_MW_count_74 : decode b_MW_count 74 = .ok (.getfield 170, 3) := by decide +kernel
theorem d_MW_count_77 : decode b_MW_count 77 = .ok (.invokevirtual 148, 3) := by decide +kernel
theorem d_MW_count_80 : decode b_MW_count 80 = .ok (.ireturn, 1) := by decide +kernel
theorem d_MW_count_81 : decode b_MW_count 81 = .ok (.aload_n 0, 1) := by decide +kernel
theorem d_MW_count_82 : decode b_MW_count 82 = .ok (.iload_n 1, 1) := by decide +kernel
theorem d_MW_count_83 : decode b_MW_count 83 = .ok (.iconst 4, 1) := by decide +kernel
theorem d_MW_count_84 : decode b_MW_count 84 = .ok (.if_icmp .ne 7, 3) := by decide +kernel
theorem d_MW_count_87 : decode b_MW_count 87 = .ok (.iconst 1, 1) := by decide +kernel
theorem d_MW_count_88 : decode b_MW_count 88 = .ok (.goto 4, 3) := by decide +kernel
theorem d_MW_count_91 : decode b_MW_count 91 = .ok (.iconst 0, 1) := by decide +kernel
theorem d_MW_count_92 : decode b_MW_count 92 = .ok (.invokevirtual 269, 3) := by decide +kernel
theorem d_MW_count_95 : decode b_MW_count 95 = .ok (.ireturn, 1) := by decide +kernel
theorem d_MW_count_96 : decode b_MW_count 96 = .ok (.aload_n 0, 1) := by decide +kernel
theorem d_MW_count_97 : decode b_MW_count 97 = .ok (.getfield 10, 3) := by decide +kernel
theorem d_MW_count_100 : decode b_MW_count 100 = .ok (.getfield 94, 3) := by decide +kernel
theorem d_MW_count_103 : decode b_MW_count 103 = .ok (.invokevirtual 117, 3) := by decide +kernel
theorem d_MW_count_106 : decode b_MW_count 106 = .ok (.ireturn, 1) := by decide +kernel
theorem d_MW_count_107 : decode b_MW_count 107 = .ok (.aload_n 0, 1) := by decide +kernel
theorem d_MW_count_108 : decode b_MW_count 108 = .ok (.getfield 26, 3) := by decide +kernel
theorem d_MW_count_111 : decode b_MW_count 111 = .ok (.invokevirtual 205, 3) := by decide +kernel
theorem d_MW_count_114 : decode b_MW_count 114 = .ok (.ireturn, 1) := by decide +kernel
theorem d_MW_count_115 : decode b_MW_count 115 = .ok (.aload_n 0, 1) := by decide +kernel
theorem d_MW_count_116 : decode b_MW_count 116 = .ok (.getfield 33, 3) := by decide +kernel
theorem d_MW_count_119 : decode b_MW_count 119 = .ok (.invokevirtual 199, 3) := by decide +kernel
theorem d_MW_count_122 : decode b_MW_count 122 = .ok (.ireturn, 1) := by decide +kernel
theorem d_MW_count_123 : decode b_MW_count 123 = .ok (.bipush (-2), 2) := by decide +kernel
theorem d_MW_count_125 : decode b_MW_count 125 = .ok (.ireturn, 1) := by decide +kernel
theorem d_MW_countReturns_0 : decode b_MW_countReturns 0 = .ok (.aload_n 0, 1) := by decide +kernel
theorem d_MW_countReturns_1 : decode b_MW_countReturns 1 = .ok (.getfield 10, 3) := by decide +kernel
theorem d_MW_countReturns_4 : decode b_MW_countReturns 4 = .ok (.invokevirtual 254, 3) := by decide +kernel
theorem d_MW_countReturns_7 : decode b_MW_countReturns 7 = .ok (.ifCond .ne 6, 3) := by decide +kernel
theorem d_MW_countReturns_10 : decode b_MW_countReturns 10 = .ok (.bipush (-5), 2) := by decide +kernel
theorem d_MW_countReturns_12 : decode b_MW_countReturns 12 = .ok (.ireturn, 1) := by decide +kernel
theorem d_MW_countReturns_13 : decode b_MW_countReturns 13 = .ok (.aload_n 0, 1) := by decide +kernel
theorem d_MW_countReturns_14 : decode b_MW_countReturns 14 = .ok (.getfield 90, 3) := by decide +kernel
theorem d_MW_countReturns_17 : decode b_MW_countReturns 17 = .ok (.aload_n 0, 1) := by decide +kernel
theorem d_MW_countReturns_18 : decode b_MW_countReturns 18 = .ok (.getfield 10, 3) := by decide +kernel
theorem d_MW_countReturns_21 : decode b_MW_countReturns 21 = .ok (.getfield 132, 3) := by decide +kernel
theorem d_MW_countReturns_24 : decode b_MW_countReturns 24 = .ok (.aload_n 0, 1) := by decide +kernel
theorem d_MW_countReturns_25 : decode b_MW_countReturns 25 = .ok (.getfield 10, 3) := by decide +kernel
theorem d_MW_countReturns_28 : decode b_MW_countReturns 28 = .ok (.getfield 170, 3) := by decide +kernel
theorem d_MW_countReturns_31 : decode b_MW_countReturns 31 = .ok (.invokevirtual 173, 3) := by decide +kernel
theorem d_MW_countReturns_34 : decode b_MW_countReturns 34 = .ok (.iload_n 1, 1) := by decide +kernel
theorem d_MW_countReturns_35 : decode b_MW_countReturns 35 = .ok (.ifCond .eq 13, 3) := by decide +kernel
theorem d_MW_countReturns_38 : decode b_MW_countReturns 38 = .ok (.aload_n 0, 1) := by decide +kernel
theorem d_MW_countReturns_39 : decode b_MW_countReturns 39 = .ok (.getfield 90, 3) := by decide +kernel
theorem d_MW_countReturns_42 : decode b_MW_countReturns 42 = .ok (.invokevirtual 180, 3) := by decide +kernel
theorem d_MW_countReturns_45 : decode b_MW_countReturns 45 = .ok (.goto 10, 3) := by decide +kernel
theorem d_MW_countReturns_48 : decode b_MW_countReturns 48 = .ok (.aload_n 0, 1) := by decide +kernel
theorem d_MW_countReturns_49 : decode b_MW_countReturns 49 = .ok (.getfield 90, 3) := by decide +kernel
theorem d_MW_countReturns_52 : decode b_MW_countReturns 52 = .ok (.invokevirtual 193, 3) := by decide +kernel
theorem d_MW_countReturns_55 : decode b_MW_countReturns 55 = .ok (.ireturn, 1) := by decide +kernel
theorem d_MW_takeNextRule_0 : decode b_MW_takeNextRule 0 = .ok (.aload_n 0, 1) := by decide +kernel
theorem d_MW_takeNextRule_1 : decode b_MW_takeNextRule 1 = .ok (.getfield 40, 3) := by decide +kernel
theorem d_MW_takeNextRule_4 : decode b_MW_takeNextRule 4 = .ok (.aload_n 0, 1) := by decide +kernel
theorem d_MW_takeNextRule_5 : decode b_MW_takeNextRule 5 = .ok (.getfield 10, 3) := by decide +kernel
theorem d_MW_takeNextRule_8 : decode b_MW_takeNextRule 8 = .ok (.getfield 94, 3) := by decide +kernel
theorem d_MW_takeNextRule_11 : decode b_MW_takeNextRule 11 = .ok (.invokevirtual 272, 3) := by decide +kernel
theorem d_MW_takeNextRule_14 : decode b_MW_takeNextRule 14 = .ok (.ifCond .eq 5, 3) := by decide +kernel
theorem d_MW_takeNextRule_17 : decode b_MW_takeNextRule 17 = .ok (.iconst 0, 1) := by decide +kernel
theorem d_MW_takeNextRule_18 : decode b_MW_takeNextRule 18 = .ok (.ireturn, 1) := by decide +kernel
theorem d_MW_takeNextRule_19 : decode b_MW_takeNextRule 19 = .ok (.aload_n 0, 1) := by decide +kernel
theorem d_MW_takeNextRule_20 : decode b_MW_takeNextRule 20 = .ok (.getfield 26, 3) := by decide +kernel
theorem d_MW_takeNextRule_23 : decode b_MW_takeNextRule 23 = .ok (.aload_n 0, 1) := by decide +kernel
theorem d_MW_takeNextRule_24 : decode b_MW_takeNextRule 24 = .ok (.getfield 10, 3) := by decide +kernel
theorem d_MW_takeNextRule_27 : decode b_MW_takeNextRule 27 = .ok (.invokevirtual 139, 3) := by decide +kernel
theorem d_MW_takeNextRule_30 : decode b_MW_takeNextRule 30 = .ok (.aload_n 0, 1) := by decide +kernel
theorem d_MW_takeNextRule_31 : decode b_MW_takeNextRule 31 = .ok (.getfield 10, 3) := by decide +kernel
theorem d_MW_takeNextRule_34 : decode b_MW_takeNextRule 34 = .ok (.getfield 94, 3) := by decide +kernel
theorem d_MW_takeNextRule_37 : decode b_MW_takeNextRule 37 = .ok (.aload_n 0, 1) := by decide +kernel
theorem d_MW_takeNextRule_38 : decode b_MW_takeNextRule 38 = .ok (.getfield 40, 3) := by decide +kernel
theorem d_MW_takeNextRule_41 : decode b_MW_takeNextRule 41 = .ok (.invokevirtual 97, 3) := by decide +kernel
theorem d_MW_takeNextRule_44 : decode b_MW_takeNextRule 44 = .ok (.iconst 1, 1) := by decide +kernel
theorem d_MW_takeNextRule_45 : decode b_MW_takeNextRule 45 = .ok (.ireturn, 1) := by decide +kernel
theorem d_MW_takeNextWord_0 : decode b_MW_takeNextWord 0 = .ok (.aload_n 0, 1) := by decide +kernel
theorem d_MW_takeNextWord_1 : decode b_MW_takeNextWord 1 = .ok (.getfield 49, 3) := by decide +kernel
theorem d_MW_takeNextWord_4 : decode b_MW_takeNextWord 4 = .ok (.aload_n 0, 1) := by decide +kernel
theorem d_MW_takeNextWord_5 : decode b_MW_takeNextWord 5 = .ok (.getfield 10, 3) := by decide +kernel
theorem d_MW_takeNextWord_8 : decode b_MW_takeNextWord 8 = .ok (.getfield 132, 3) := by decide +kernel
theorem d_MW_takeNextWord_11 : decode b_MW_takeNextWord 11 = .ok (.invokevirtual 189, 3) := by decide +kernel
theorem d_MW_takeNextWord_14 : decode b_MW_takeNextWord 14 = .ok (.ifCond .eq 5, 3) := by decide +kernel
theorem d_MW_takeNextWord_17 : decode b_MW_takeNextWord 17 = .ok (.iconst 0, 1) := by decide +kernel
theorem d_MW_takeNextWord_18 : decode b_MW_takeNextWord 18 = .ok (.ireturn, 1) := by decide +kernel
theorem d_MW_takeNextWord_19 : decode b_MW_takeNextWord 19 = .ok (.aload_n 0, 1) := by decide +kernel
theorem d_MW_takeNextWord_20 : decode b_MW_takeNextWord 20 = .ok (.getfield 26, 3) := by decide +kernel
theorem d_MW_takeNextWord_23 : decode b_MW_takeNextWord 23 = .ok (.aload_n 0, 1) := by decide +kernel
theorem d_MW_takeNextWord_24 : decode b_MW_takeNextWord 24 = .ok (.getfield 10, 3) := by decide +kernel
theorem d_MW_takeNextWord_27 : decode b_MW_takeNextWord 27 = .ok (.invokevirtual 139, 3) := by decide +kernel
theorem d_MW_takeNextWord_30 : decode b_MW_takeNextWord 30 = .ok (.aload_n 0, 1) := by decide +kernel
theorem d_MW_takeNextWord_31 : decode b_MW_takeNextWord 31 = .ok (.getfield 10, 3) := by decide +kernel
theorem d_MW_takeNextWord_34 : decode b_MW_takeNextWord 34 = .ok (.getfield 132, 3) := by decide +kernel
theorem d_MW_takeNextWord_37 : decode b_MW_takeNextWord 37 = .ok (.aload_n 0, 1) := by decide +kernel
theorem d_MW_takeNextWord_38 : decode b_MW_takeNextWord 38 = .ok (.getfield 49, 3) := by decide +kernel
theorem d_MW_takeNextWord_41 : decode b_MW_takeNextWord 41 = .ok (.invokevirtual 160, 3) := by decide +kernel
theorem d_MW_takeNextWord_44 : decode b_MW_takeNextWord 44 = .ok (.iconst 1, 1) := by decide +kernel
theorem d_MW_takeNextWord_45 : decode b_MW_takeNextWord 45 = .ok (.ireturn, 1) := by decide +kernel
theorem d_MW_isLetter_0 : decode b_MW_isLetter 0 = .ok (.iload_n 0, 1) := by decide +kernel
theorem d_MW_isLetter_1 : decode b_MW_isLetter 1 = .ok (.ifCond .lt 12, 3) := by decide +kernel
theorem d_MW_isLetter_4 : decode b_MW_isLetter 4 = .ok (.iload_n 0, 1) := by decide +kernel
theorem d_MW_isLetter_5 : decode b_MW_isLetter 5 = .ok (.iconst 4, 1) := by decide +kernel
theorem d_MW_isLetter_6 : decode b_MW_isLetter 6 = .ok (.if_icmp .ge 7, 3) := by decide +kernel
theorem d_MW_isLetter_9 : decode b_MW_isLetter 9 = .ok (.iconst 1, 1) := by decide +kernel
theorem d_MW_isLetter_10 : decode b_MW_isLetter 10 = .ok (.goto 4, 3) := by decide +kernel
theorem d_MW_isLetter_13 : decode b_MW_isLetter 13 = .ok (.iconst 0, 1) := by decide +kernel
theorem d_MW_isLetter_14 : decode b_MW_isLetter 14 = .ok (.ireturn, 1) := by decide +kernel
theorem d_MW_hasLetter_0 : decode b_MW_hasLetter 0 = .ok (.iload_n 0, 1) := by decide +kernel
theorem d_MW_hasLetter_1 : decode b_MW_hasLetter 1 = .ok (.iconst 1, 1) := by decide +kernel
theorem d_MW_hasLetter_2 : decode b_MW_hasLetter 2 = .ok (.iload_n 1, 1) := by decide +kernel
theorem d_MW_hasLetter_3 : decode b_MW_hasLetter 3 = .ok (.ishl, 1) := by decide +kernel
theorem d_MW_hasLetter_4 : decode b_MW_hasLetter 4 = .ok (.iand, 1) := by decide +kernel
theorem d_MW_hasLetter_5 : decode b_MW_hasLetter 5 = .ok (.ifCond .eq 7, 3) := by decide +kernel
theorem d_MW_hasLetter_8 : decode b_MW_hasLetter 8 = .ok (.iconst 1, 1) := by decide +kernel
theorem d_MW_hasLetter_9 : decode b_MW_hasLetter 9 = .ok (.goto 4, 3) := by decide +kernel
theorem d_MW_hasLetter_12 : decode b_MW_hasLetter 12 = .ok (.iconst 0, 1) := by decide +kernel
theorem d_MW_hasLetter_13 : decode b_MW_hasLetter 13 = .ok (.ireturn, 1) := by decide +kernel
theorem d_MW_commonDivisor_0 : decode b_MW_commonDivisor 0 = .ok (.iload_n 0, 1) := by decide +kernel
theorem d_MW_commonDivisor_1 : decode b_MW_commonDivisor 1 = .ok (.istore_n 2, 1) := by decide +kernel
theorem d_MW_commonDivisor_2 : decode b_MW_commonDivisor 2 = .ok (.iload_n 1, 1) := by decide +kernel
theorem d_MW_commonDivisor_3 : decode b_MW_commonDivisor 3 = .ok (.istore_n 3, 1) := by decide +kernel
theorem d_MW_commonDivisor_4 : decode b_MW_commonDivisor 4 = .ok (.iconst 0, 1) := by decide +kernel
theorem d_MW_commonDivisor_5 : decode b_MW_commonDivisor 5 = .ok (.istore 4, 2) := by decide +kernel
theorem d_MW_commonDivisor_7 : decode b_MW_commonDivisor 7 = .ok (.iload 4, 2) := by decide +kernel
theorem d_MW_commonDivisor_9 : decode b_MW_commonDivisor 9 = .ok (.bipush 64, 2) := by decide +kernel
theorem d_MW_commonDivisor_11 : decode b_MW_commonDivisor 11 = .ok (.if_icmp .ge 23, 3) := by decide +kernel
theorem d_MW_commonDivisor_14 : decode b_MW_commonDivisor 14 = .ok (.iload_n 3, 1) := by decide +kernel
theorem d_MW_commonDivisor_15 : decode b_MW_commonDivisor 15 = .ok (.ifCond .eq 19, 3) := by decide +kernel
theorem d_MW_commonDivisor_18 : decode b_MW_commonDivisor 18 = .ok (.iload_n 2, 1) := by decide +kernel
theorem d_MW_commonDivisor_19 : decode b_MW_commonDivisor 19 = .ok (.iload_n 3, 1) := by decide +kernel
theorem d_MW_commonDivisor_20 : decode b_MW_commonDivisor 20 = .ok (.irem, 1) := by decide +kernel
theorem d_MW_commonDivisor_21 : decode b_MW_commonDivisor 21 = .ok (.istore 5, 2) := by decide +kernel
theorem d_MW_commonDivisor_23 : decode b_MW_commonDivisor 23 = .ok (.iload_n 3, 1) := by decide +kernel
theorem d_MW_commonDivisor_24 : decode b_MW_commonDivisor 24 = .ok (.istore_n 2, 1) := by decide +kernel
theorem d_MW_commonDivisor_25 : decode b_MW_commonDivisor 25 = .ok (.iload 5, 2) := by decide +kernel
theorem d_MW_commonDivisor_27 : decode b_MW_commonDivisor 27 = .ok (.istore_n 3, 1) := by decide +kernel
theorem d_MW_commonDivisor_28 : decode b_MW_commonDivisor 28 = .ok (.iinc 4 1, 3) := by decide +kernel
theorem d_MW_commonDivisor_31 : decode b_MW_commonDivisor 31 = .ok (.goto (-24), 3) := by decide +kernel
theorem d_MW_commonDivisor_34 : decode b_MW_commonDivisor 34 = .ok (.iload_n 2, 1) := by decide +kernel
theorem d_MW_commonDivisor_35 : decode b_MW_commonDivisor 35 = .ok (.iconst 1, 1) := by decide +kernel
theorem d_MW_commonDivisor_36 : decode b_MW_commonDivisor 36 = .ok (.invokestatic 274, 3) := by decide +kernel
theorem d_MW_commonDivisor_39 : decode b_MW_commonDivisor 39 = .ok (.ireturn, 1) := by decide +kernel
theorem d_MO_init_0 : decode b_MO_init 0 = .ok (.aload_n 0, 1) := by decide +kernel
theorem d_MO_init_1 : decode b_MO_init 1 = .ok (.invokespecial 1, 3) := by decide +kernel
theorem d_MO_init_4 : decode b_MO_init 4 = .ok (.aload_n 0, 1) := by decide +kernel
theorem d_MO_init_5 : decode b_MO_init 5 = .ok (.sipush 358, 3) := by decide +kernel
theorem d_MO_init_8 : decode b_MO_init 8 = .ok (.newarray .int, 2) := by decide +kernel
theorem d_MO_init_10 : decode b_MO_init 10 = .ok (.putfield 7, 3) := by decide +kernel
theorem d_MO_init_13 : decode b_MO_init 13 = .ok (.aload_n 0, 1) := by decide +kernel
theorem d_MO_init_14 : decode b_MO_init 14 = .ok (.sipush 1432, 3) := by decide +kernel
theorem d_MO_init_17 : decode b_MO_init 17 = .ok (.newarray .int, 2) := by decide +kernel
theorem d_MO_init_19 : decode b_MO_init 19 = .ok (.putfield 13, 3) := by decide +kernel
theorem d_MO_init_22 : decode b_MO_init 22 = .ok (.aload_n 0, 1) := by decide +kernel
theorem d_MO_init_23 : decode b_MO_init 23 = .ok (.sipush 358, 3) := by decide +kernel
theorem d_MO_init_26 : decode b_MO_init 26 = .ok (.newarray .int, 2) := by decide +kernel
theorem d_MO_init_28 : decode b_MO_init 28 = .ok (.putfield 16, 3) := by decide +kernel
theorem d_MO_init_31 : decode b_MO_init 31 = .ok (.aload_n 0, 1) := by decide +kernel
theorem d_MO_init_32 : decode b_MO_init 32 = .ok (.sipush 301, 3) := by decide +kernel
theorem d_MO_init_35 : decode b_MO_init 35 = .ok (.newarray .int, 2) := by decide +kernel
theorem d_MO_init_37 : decode b_MO_init 37 = .ok (.putfield 19, 3) := by decide +kernel
theorem d_MO_init_40 : decode b_MO_init 40 = .ok (.aload_n 0, 1) := by decide +kernel
theorem d_MO_init_41 : decode b_MO_init 41 = .ok (.sipush 301, 3) := by decide +kernel
theorem d_MO_init_44 : decode b_MO_init 44 = .ok (.newarray .int, 2) := by decide +kernel
theorem d_MO_init_46 : decode b_MO_init 46 = .ok (.putfield 22, 3) := by decide +kernel
theorem d_MO_init_49 : decode b_MO_init 49 = .ok (.aload_n 0, 1) := by decide +kernel
theorem d_MO_init_50 : decode b_MO_init 50 = .ok (.sipush 300, 3) := by decide +kernel
theorem d_MO_init_53 : decode b_MO_init 53 = .ok (.newarray .int, 2) := by decide +kernel
theorem d_MO_init_55 : decode b_MO_init 55 = .ok (.putfield 25, 3) := by decide +kernel
theorem d_MO_init_58 : decode b_MO_init 58 = .ok (.aload_n 0, 1) := by decide +kernel
theorem d_MO_init_59 : decode b_MO_init 59 = .ok (.sipush 300, 3) := by decide +kernel
theorem d_MO_init_62 : decode b_MO_init 62 = .ok (.newarray .int, 2) := by decide +kernel
theorem d_MO_init_64 : decode b_MO_init 64 = .ok (.putfield 28, 3) := by decide +kernel
theorem d_MO_init_67 : decode b_MO_init 67 = .ok (.aload_n 0, 1) := by decide +kernel
theorem d_MO_init_68 : decode b_MO_init 68 = .ok (.bipush 60, 2) := by decide +kernel
theorem d_MO_init_70 : decode b_MO_init 70 = .ok (.newarray .char, 2) := by decide +kernel
theorem d_MO_init_72 : decode b_MO_init 72 = .ok (.putfield 31, 3) := by decide +kernel
theorem d_MO_init_75 : decode b_MO_init 75 = .ok (.aload_n 0, 1) := by decide +kernel
theorem d_MO_init_76 : decode b_MO_init 76 = .ok (.bipush 16, 2) := by decide +kernel
theorem d_MO_init_78 : decode b_MO_init 78 = .ok (.newarray .int, 2) := by decide +kernel
theorem d_MO_init_80 : decode b_MO_init 80 = .ok (.putfield 35, 3) := by decide +kernel
theorem d_MO_init_83 : decode b_MO_init 83 = .ok (.aload_n 0, 1) := by decide +kernel
theorem d_MO_init_84 : decode b_MO_init 84 = .ok (.bipush 16, 2) := by decide +kernel
theorem d_MO_init_86 : decode b_MO_init 86 = .ok (.newarray .int, 2) := by decide +kernel
theorem d_MO_init_88 : decode b_MO_init 88 = .ok (.putfield 38, 3) := by decide +kernel
theorem d_MO_init_91 : decode b_MO_init 91 = .ok (.aload_n 0, 1) := by decide +kernel
theorem d_MO_init_92 : decode b_MO_init 92 = .ok (.iconst 4, 1) := by decide +kernel
theorem d_MO_init_93 : decode b_MO_init 93 = .ok (.newarray .int, 2) := by decide +kernel
theorem d_MO_init_95 : decode b_MO_init 95 = .ok (.putfield 41, 3) := by decide +kernel
theorem d_MO_init_98 : decode b_MO_init 98 = .ok (.iconst 0, 1) := by decide +kernel
theorem d_MO_init_99 : decode b_MO_init 99 = .ok (.istore_n 1, 1) := by decide +kernel
theorem d_MO_init_100 : decode b_MO_init 100 = .ok (.iload_n 1, 1) := by decide +kernel
theorem d_MO_init_101 : decode b_MO_init 101 = .ok (.iconst 4, 1) := by decide +kernel
theorem d_MO_init_102 : decode b_MO_init 102 = .ok (.if_icmp .ge 31, 3) := by decide +kernel
theorem d_MO_init_105 : decode b_MO_init 105 = .ok (.aload_n 0, 1) := by decide +kernel
theorem d_MO_init_106 : decode b_MO_init 106 = .ok (.getfield 7, 3) := by decide +kernel
theorem d_MO_init_109 : decode b_MO_init 109 = .ok (.bipush 9, 2) := by decide +kernel
theorem d_MO_init_111 : decode b_MO_init 111 = .ok (.iload_n 1, 1) := by decide +kernel
theorem d_MO_init_112 : decode b_MO_init 112 = .ok (.imul, 1) := by decide +kernel
theorem d_MO_init_113 : decode b_MO_init 113 = .ok (.iconst 1, 1) := by decide +kernel
theorem d_MO_init_114 : decode b_MO_init 114 = .ok (.iastore, 1) := by decide +kernel
theorem d_MO_init_115 : decode b_MO_init 115 = .ok (.aload_n 0, 1) := by decide +kernel
theorem d_MO_init_116 : decode b_MO_init 116 = .ok (.getfield 7, 3) := by decide +kernel
theorem d_MO_init_119 : decode b_MO_init 119 = .ok (.bipush 9, 2) := by decide +kernel
theorem d_MO_init_121 : decode b_MO_init 121 = .ok (.iload_n 1, 1) := by decide +kernel
theorem d_MO_init_122 : decode b_MO_init 122 = .ok (.imul, 1) := by decide +kernel
theorem d_MO_init_123 : decode b_MO_init 123 = .ok (.iconst 1, 1) := by decide +kernel
theorem d_MO_init_124 : decode b_MO_init 124 = .ok (.iadd, 1) := by decide +kernel
theorem d_MO_init_125 : decode b_MO_init 125 = .ok (.iload_n 1, 1) := by decide +kernel
theorem d_MO_init_126 : decode b_MO_init 126 = .ok (.iastore, 1) := by decide +kernel
theorem d_MO_init_127 : decode b_MO_init 127 = .ok (.iinc 1 1, 3) := by decide +kernel
theorem d_MO_init_130 : decode b_MO_init 130 = .ok (.goto (-30), 3) := by decide +kernel
theorem d_MO_init_133 : decode b_MO_init 133 = .ok (.aload_n 0, 1) := by decide +kernel
theorem d_MO_init_134 : decode b_MO_init 134 = .ok (.getfield 7, 3) := by decide +kernel
theorem d_MO_init_137 : decode b_MO_init 137 = .ok (.bipush 36, 2) := by decide +kernel
theorem d_MO_init_139 : decode b_MO_init 139 = .ok (.iconst 1, 1) := by decide +kernel
theorem d_MO_init_140 : decode b_MO_init 140 = .ok (.iastore, 1) := by decide +kernel
theorem d_MO_init_141 : decode b_MO_init 141 = .ok (.return_, 1) := by decide +kernel
theorem d_MO_in_0 : decode b_MO_in 0 = .ok (.iload_n 0, 1) := by decide +kernel
theorem d_MO_in_1 : decode b_MO_in 1 = .ok (.iload_n 1, 1) := by decide +kernel
theorem d_MO_in_2 : decode b_MO_in 2 = .ok (.if_icmp .lt 12, 3) := by decide +kernel
theorem d_MO_in_5 : decode b_MO_in 5 = .ok (.iload_n 0, 1) := by decide +kernel
theorem d_MO_in_6 : decode b_MO_in 6 = .ok (.iload_n 2, 1) := by decide +kernel
theorem d_MO_in_7 : decode b_MO_in 7 = .ok (.if_icmp .gt 7, 3) := by decide +kernel
theorem d_MO_in_10 : decode b_MO_in 10 = .ok (.iconst 1, 1) := by decide +kernel
theorem d_MO_in_11 : decode b_MO_in 11 = .ok (.goto 4, 3) := by decide +kernel
theorem d_MO_in_14 : decode b_MO_in 14 = .ok (.iconst 0, 1) := by decide +kernel
theorem d_MO_in_15 : decode b_MO_in 15 = .ok (.ireturn, 1) := by decide +kernel
theorem d_MO_no_0 : decode b_MO_no 0 = .ok (.iload_n 0, 1) := by decide +kernel
theorem d_MO_no_1 : decode b_MO_no 1 = .ok (.iconst 0, 1) := by decide +kernel
theorem d_MO_no_2 : decode b_MO_no 2 = .ok (.iconst 3, 1) := by decide +kernel
theorem d_MO_no_3 : decode b_MO_no 3 = .ok (.invokestatic 44, 3) := by decide +kernel
theorem d_MO_no_6 : decode b_MO_no 6 = .ok (.ifCond .ne 7, 3) := by decide +kernel
theorem d_MO_no_9 : decode b_MO_no 9 = .ok (.iconst 1, 1) := by decide +kernel
theorem d_MO_no_10 : decode b_MO_no 10 = .ok (.goto 4, 3) := by decide +kernel
theorem d_MO_no_13 : decode b_MO_no 13 = .ok (.iconst 0, 1) := by decide +kernel
theorem d_MO_no_14 : decode b_MO_no 14 = .ok (.ireturn, 1) := by decide +kernel
theorem d_MO_size_0 : decode b_MO_size 0 = .ok (.aload_n 0, 1) := by decide +kernel
theorem d_MO_size_1 : decode b_MO_size 1 = .ok (.getfield 7, 3) := by decide +kernel
theorem d_MO_size_4 : decode b_MO_size 4 = .ok (.bipush 9, 2) := by decide +kernel
theorem d_MO_size_6 : decode b_MO_size 6 = .ok (.iload_n 1, 1) := by decide +kernel
theorem d_MO_size_7 : decode b_MO_size 7 = .ok (.imul, 1) := by decide +kernel
theorem d_MO_size_8 : decode b_MO_size 8 = .ok (.iaload, 1) := by decide +kernel
theorem d_MO_size_9 : decode b_MO_size 9 = .ok (.ireturn, 1) := by decide +kernel
theorem d_MO_sign_0 : decode b_MO_sign 0 = .ok (.aload_n 0, 1) := by decide +kernel
theorem d_MO_sign_1 : decode b_MO_sign 1 = .ok (.getfield 7, 3) := by decide +kernel
theorem d_MO_sign_4 : decode b_MO_sign 4 = .ok (.bipush 9, 2) := by decide +kernel
theorem d_MO_sign_6 : decode b_MO_sign 6 = .ok (.iload_n 1, 1) := by decide +kernel
theorem d_MO_sign_7 : decode b_MO_sign 7 = .ok (.imul, 1) := by decide +kernel
theorem d_MO_sign_8 : decode b_MO_sign 8 = .ok (.iconst 1, 1) := by decide +kernel
theorem d_MO_sign_9 : decode b_MO_sign 9 = .ok (.iadd, 1) := by decide +kernel
theorem d_MO_sign_10 : decode b_MO_sign 10 = .ok (.iload_n 2, 1) := by decide +kernel
theorem d_MO_sign_11 : decode b_MO_sign 11 = .ok (.iadd, 1) := by decide +kernel
theorem d_MO_sign_12 : decode b_MO_sign 12 = .ok (.iaload, 1) := by decide +kernel
theorem d_MO_sign_13 : decode b_MO_sign 13 = .ok (.ireturn, 1) := by decide +kernel
theorem d_MO_length_0 : decode b_MO_length 0 = .ok (.aload_n 0, 1) := by decide +kernel
theorem d_MO_length_1 : decode b_MO_length 1 = .ok (.getfield 7, 3) := by decide +kernel
theorem d_MO_length_4 : decode b_MO_length 4 = .ok (.bipush 36, 2) := by decide +kernel
theorem d_MO_length_6 : decode b_MO_length 6 = .ok (.iaload, 1) := by decide +kernel
theorem d_MO_length_7 : decode b_MO_length 7 = .ok (.ireturn, 1) := by decide +kernel
theorem d_MO_word_0 : decode b_MO_word 0 = .ok (.aload_n 0, 1) := by decide +kernel
theorem d_MO_word_1 : decode b_MO_word 1 = .ok (.getfield 7, 3) := by decide +kernel
theorem d_MO_word_4 : decode b_MO_word 4 = .ok (.bipush 37, 2) := by decide +kernel
theorem d_MO_word_6 : decode b_MO_word 6 = .ok (.iload_n 1, 1) := by decide +kernel
theorem d_MO_word_7 : decode b_MO_word 7 = .ok (.iadd, 1) := by decide +kernel
theorem d_MO_word_8 : decode b_MO_word 8 = .ok (.iaload, 1) := by decide +kernel
theorem d_MO_word_9 : decode b_MO_word 9 = .ok (.ireturn, 1) := by decide +kernel
theorem d_MO_record_0 : decode b_MO_record 0 = .ok (.aload_n 0, 1) := by decide +kernel
theorem d_MO_record_1 : decode b_MO_record 1 = .ok (.getfield 48, 3) := by decide +kernel
theorem d_MO_record_4 : decode b_MO_record 4 = .ok (.iconst 4, 1) := by decide +kernel
theorem d_MO_record_5 : decode b_MO_record 5 = .ok (.if_icmp .ne 44, 3) := by decide +kernel
theorem d_MO_record_8 : decode b_MO_record 8 = .ok (.iconst 0, 1) := by decide +kernel
theorem d_MO_record_9 : decode b_MO_record 9 = .ok (.istore_n 1, 1) := by decide +kernel
theorem d_MO_record_10 : decode b_MO_record 10 = .ok (.iload_n 1, 1) := by decide +kernel
theorem d_MO_record_11 : decode b_MO_record 11 = .ok (.sipush 1074, 3) := by decide +kernel
theorem d_MO_record_14 : decode b_MO_record 14 = .ok (.if_icmp .ge 25, 3) := by decide +kernel
theorem d_MO_record_17 : decode b_MO_record 17 = .ok (.aload_n 0, 1) := by decide +kernel
theorem d_MO_record_18 : decode b_MO_record 18 = .ok (.getfield 13, 3) := by decide +kernel
theorem d_MO_record_21 : decode b_MO_record 21 = .ok (.iload_n 1, 1) := by decide +kernel
theorem d_MO_record_22 : decode b_MO_record 22 = .ok (.aload_n 0, 1) := by decide +kernel
theorem d_MO_record_23 : decode b_MO_record 23 = .ok (.getfield 13, 3) := by decide +kernel
theorem d_MO_record_26 : decode b_MO_record 26 = .ok (.iload_n 1, 1) := by decide +kernel
theorem d_MO_record_27 : decode b_MO_record 27 = .ok (.sipush 358, 3) := by decide +kernel
theorem d_MO_record_30 : decode b_MO_record 30 = .ok (.iadd, 1) := by decide +kernel
theorem d_MO_record_31 : decode b_MO_record 31 = .ok (.iaload, 1) := by decide +kernel
theorem d_MO_record_32 : decode b_MO_record 32 = .ok (.iastore, 1) := by decide +kernel
theorem d_MO_record_33 : decode b_MO_record 33 = .ok (.iinc 1 1, 3) := by decide +kernel
theorem d_MO_record_36 : decode b_MO_record 36 = .ok (.goto (-26), 3) := by decide +kernel
theorem d_MO_record_39 : decode b_MO_record 39 = .ok (.aload_n 0, 1) := by decide +kernel
theorem d_MO_record_40 : decode b_MO_record 40 = .ok (.dup, 1) := by decide +kernel
theorem d_MO_record_41 : decode b_MO_record 41 = .ok (.getfield 48, 3) := by decide +kernel
theorem d_MO_record_44 : decode b_MO_record 44 = .ok (.iconst 1, 1) := by decide +kernel
theorem d_MO_record_45 : decode b_MO_record 45 = .ok (.isub, 1) := by decide +kernel
theorem d_MO_record_46 : decode b_MO_record 46 = .ok (.putfield 48, 3) := by decide +kernel
theorem d_MO_record_49 : decode b_MO_record 49 = .ok (.iconst 0, 1) := by decide +kernel
theorem d_MO_record_50 : decode b_MO_record 50 = .ok (.istore_n 1, 1) := by decide +kernel
theorem d_MO_record_51 : decode b_MO_record 51 = .ok (.iload_n 1, 1) := by decide +kernel
theorem d_MO_record_52 : decode b_MO_record 52 = .ok (.sipush 358, 3) := by decide +kernel
theorem d_MO_record_55 : decode b_MO_record 55 = .ok (.if_icmp .ge 30, 3) := by decide +kernel
theorem d_MO_record_58 : decode b_MO_record 58 = .ok (.aload_n 0, 1) := by decide +kernel
theorem d_MO_record_59 : decode b_MO_record 59 = .ok (.getfield 13, 3) := by decide +kernel
theorem d_MO_record_62 : decode b_MO_record 62 = .ok (.sipush 358, 3) := by decide +kernel
theorem d_MO_record_65 : decode b_MO_record 65 = .ok (.aload_n 0, 1) := by decide +kernel
theorem d_MO_record_66 : decode b_MO_record 66 = .ok (.getfield 48, 3) := by decide +kernel
theorem d_MO_record_69 : decode b_MO_record 69 = .ok (.imul, 1) := by decide +kernel
theorem d_MO_record_70 : decode b_MO_record 70 = .ok (.iload_n 1, 1) := by decide +kernel
theorem d_MO_record_71 : decode b_MO_record 71 = .ok (.iadd, 1) := by decide +kernel
theorem d_MO_record_72 : decode b_MO_record 72 = .ok (.aload_n 0, 1) := by decide +kernel
theorem d_MO_record_73 : decode b_MO_record 73 = .ok (.getfield 7, 3) := by decide +kernel
theorem d_MO_record_76 : decode b_MO_record 76 = .ok (.iload_n 1, 1) := by decide +kernel
theorem d_MO_record_77 : decode b_MO_record 77 = .ok (.iaload, 1) := by decide +kernel
theorem d_MO_record_78 : decode b_MO_record 78 = .ok (.iastore, 1) := by decide +kernel
theorem d_MO_record_79 : decode b_MO_record 79 = .ok (.iinc 1 1, 3) := by decide +kernel
theorem d_MO_record_82 : decode b_MO_record 82 = .ok (.goto (-31), 3) := by decide +kernel
theorem d_MO_record_85 : decode b_MO_record 85 = .ok (.aload_n 0, 1) := by decide +kernel
theorem d_MO_record_86 : decode b_MO_record 86 = .ok (.dup, 1) := by decide +kernel
theorem d_MO_record_87 : decode b_MO_record 87 = .ok (.getfield 48, 3) := by decide +kernel
theorem d_MO_record_90 : decode b_MO_record 90 = .ok (.iconst 1, 1) := by decide +kernel
theorem d_MO_record_91 : decode b_MO_record 91 = .ok (.iadd, 1) := by decide +kernel
theorem d_MO_record_92 : decode b_MO_record 92 = .ok (.putfield 48, 3) := by decide +kernel
theorem d_MO_record_95 : decode b_MO_record 95 = .ok (.return_, 1) := by decide +kernel
theorem d_MO_isSameRule_0 : decode b_MO_isSameRule 0 = .ok (.iconst 1, 1) := by decide +kernel
theorem d_MO_isSameRule_1 : decode b_MO_isSameRule 1 = .ok (.istore_n 1, 1) := by decide +kernel
theorem d_MO_isSameRule_2 : decode b_MO_isSameRule 2 = .ok (.iconst 0, 1) := by decide +kernel
theorem d_MO_isSameRule_3 : decode b_MO_isSameRule 3 = .ok (.istore_n 2, 1) := by decide +kernel
theorem d_MO_isSameRule_4 : decode b_MO_isSameRule 4 = .ok (.iload_n 2, 1) := by decide +kernel
theorem d_MO_isSameRule_5 : decode b_MO_isSameRule 5 = .ok (.iconst 4, 1) := by decide +kernel
theorem d_MO_isSameRule_6 : decode b_MO_isSameRule 6 = .ok (.if_icmp .ge 83, 3) := by decide +kernel
theorem d_MO_isSameRule_9 : decode b_MO_isSameRule 9 = .ok (.iload_n 1, 1) := by decide +kernel
theorem d_MO_isSameRule_10 : decode b_MO_isSameRule 10 = .ok (.aload_n 0, 1) := by decide +kernel
theorem d_MO_isSameRule_11 : decode b_MO_isSameRule 11 = .ok (.getfield 19, 3) := by decide +kernel
theorem d_MO_isSameRule_14 : decode b_MO_isSameRule 14 = .ok (.bipush 9, 2) := by decide +kernel
theorem d_MO_isSameRule_16 : decode b_MO_isSameRule 16 = .ok (.iload_n 2, 1) := by decide +kernel
theorem d_MO_isSameRule_17 : decode b_MO_isSameRule 17 = .ok (.imul, 1) := by decide +kernel
theorem d_MO_isSameRule_18 : decode b_MO_isSameRule 18 = .ok (.iaload, 1) := by decide +kernel
theorem d_MO_isSameRule_19 : decode b_MO_isSameRule 19 = .ok (.aload_n 0, 1) := by decide +kernel
theorem d_MO_isSameRule_20 : decode b_MO_isSameRule 20 = .ok (.iload_n 2, 1) := by decide +kernel
theorem d_MO_isSameRule_21 : decode b_MO_isSameRule 21 = .ok (.invokevirtual 52, 3) := by decide +kernel
theorem d_MO_isSameRule_24 : decode b_MO_isSameRule 24 = .ok (.if_icmp .ne 7, 3) := by decide +kernel
theorem d_MO_isSameRule_27 : decode b_MO_isSameRule 27 = .ok (.iconst 1, 1) := by decide +kernel
theorem d_MO_isSameRule_28 : decode b_MO_isSameRule 28 = .ok (.goto 4, 3) := by decide +kernel
theorem d_MO_isSameRule_31 : decode b_MO_isSameRule 31 = .ok (.iconst 0, 1) := by decide +kernel
theorem d_MO_isSameRule_32 : decode b_MO_isSameRule 32 = .ok (.iand, 1) := by decide +kernel
theorem d_MO_isSameRule_33 : decode b_MO_isSameRule 33 = .ok (.istore_n 1, 1) := by decide +kernel
theorem d_MO_isSameRule_34 : decode b_MO_isSameRule 34 = .ok (.iconst 0, 1) := by decide +kernel
theorem d_MO_isSameRule_35 : decode b_MO_isSameRule 35 = .ok (.istore_n 3, 1) := by decide +kernel
theorem d_MO_isSameRule_36 : decode b_MO_isSameRule 36 = .ok (.iload_n 3, 1) := by decide +kernel
theorem d_MO_isSameRule_37 : decode b_MO_isSameRule 37 = .ok (.aload_n 0, 1) := by decide +kernel
theorem d_MO_isSameRule_38 : decode b_MO_isSameRule 38 = .ok (.iload_n 2, 1) := by decide +kernel
theorem d_MO_isSameRule_39 : decode b_MO_isSameRule 39 = .ok (.invokevirtual 52, 3) := by decide +kernel
theorem d_MO_isSameRule_42 : decode b_MO_isSameRule 42 = .ok (.if_icmp .ge 41, 3) := by decide +kernel
theorem d_MO_isSameRule_45 : decode b_MO_isSameRule 45 = .ok (.iload_n 1, 1) := by decide +kernel
theorem d_MO_isSameRule_46 : decode b_MO_isSameRule 46 = .ok (.ifCond .eq 37, 3) := by decide +kernel
theorem d_MO_isSameRule_49 : decode b_MO_isSameRule 49 = .ok (.aload_n 0, 1) := by decide +kernel
theorem d_MO_isSameRule_50 : decode b_MO_isSameRule 50 = .ok (.getfield 19, 3) := by decide +kernel
theorem d_MO_isSameRule_53 : decode b_MO_isSameRule 53 = .ok (.bipush 9, 2) := by decide +kernel
theorem d_MO_isSameRule_55 : decode b_MO_isSameRule 55 = .ok (.iload_n 2, 1) := by decide +kernel
theorem d_MO_isSameRule_56 : decode b_MO_isSameRule 56 = .ok (.imul, 1) := by decide +kernel
theorem d_MO_isSameRule_57 : decode b_MO_isSameRule 57 = .ok (.iconst 1, 1) := by decide +kernel
theorem d_MO_isSameRule_58 : decode b_MO_isSameRule 58 = .ok (.iadd, 1) := by decide +kernel
theorem d_MO_isSameRule_59 : decode b_MO_isSameRule 59 = .ok (.iload_n 3, 1) := by decide +kernel
theorem d_MO_isSameRule_60 : decode b_MO_isSameRule 60 = .ok (.iadd, 1) := by decide +kernel
theorem d_MO_isSameRule_61 : decode b_MO_isSameRule 61 = .ok (.iaload, 1) := by decide +kernel
theorem d_MO_isSameRule_62 : decode b_MO_isSameRule 62 = .ok (.aload_n 0, 1) := by decide +kernel
theorem d_MO_isSameRule_63 : decode b_MO_isSameRule 63 = .ok (.iload_n 2, 1) := by decide +kernel
theorem d_MO_isSameRule_64 : decode b_MO_isSameRule 64 = .ok (.iload_n 3, 1) := by decide +kernel
theorem d_MO_isSameRule_65 : decode b_MO_isSameRule 65 = .ok (.invokevirtual 56, 3) := by decide +kernel
theorem d_MO_isSameRule_68 : decode b_MO_isSameRule 68 = .ok (.if_icmp .ne 7, 3) := by decide +kernel
theorem d_MO_isSameRule_71 : decode b_MO_isSameRule 71 = .ok (.iconst 1, 1) := by decide +kernel
theorem d_MO_isSameRule_72 : decode b_MO_isSameRule 72 = .ok (.goto 4, 3) := by decide +kernel
theorem d_MO_isSameRule_75 : decode b_MO_isSameRule 75 = .ok (.iconst 0, 1) := by decide +kernel
theorem d_MO_isSameRule_76 : decode b_MO_isSameRule 76 = .ok (.istore_n 1, 1) := by decide +kernel
theorem d_MO_isSameRule_77 : decode b_MO_isSameRule 77 = .ok (.iinc 3 1, 3) := by decide +kernel
theorem d_MO_isSameRule_80 : decode b_MO_isSameRule 80 = .ok (.goto (-44), 3) := by decide +kernel
theorem d_MO_isSameRule_83 : decode b_MO_isSameRule 83 = .ok (.iinc 2 1, 3) := by decide +kernel
theorem d_MO_isSameRule_86 : decode b_MO_isSameRule 86 = .ok (.goto (-82), 3) := by decide +kernel
theorem d_MO_isSameRule_89 : decode b_MO_isSameRule 89 = .ok (.iload_n 1, 1) := by decide +kernel
theorem d_MO_isSameRule_90 : decode b_MO_isSameRule 90 = .ok (.ireturn, 1) := by decide +kernel
theorem d_MO_laysRule_0 : decode b_MO_laysRule 0 = .ok (.iconst 0, 1) := by decide +kernel
theorem d_MO_laysRule_1 : decode b_MO_laysRule 1 = .ok (.istore_n 1, 1) := by decide +kernel
theorem d_MO_laysRule_2 : decode b_MO_laysRule 2 = .ok (.iload_n 1, 1) := by decide +kernel
theorem d_MO_laysRule_3 : decode b_MO_laysRule 3 = .ok (.bipush 36, 2) := by decide +kernel
theorem d_MO_laysRule_5 : decode b_MO_laysRule 5 = .ok (.if_icmp .ge 21, 3) := by decide +kernel
theorem d_MO_laysRule_8 : decode b_MO_laysRule 8 = .ok (.aload_n 0, 1) := by decide +kernel
theorem d_MO_laysRule_9 : decode b_MO_laysRule 9 = .ok (.getfield 7, 3) := by decide +kernel
theorem d_MO_laysRule_12 : decode b_MO_laysRule 12 = .ok (.iload_n 1, 1) := by decide +kernel
theorem d_MO_laysRule_13 : decode b_MO_laysRule 13 = .ok (.aload_n 0, 1) := by decide +kernel
theorem d_MO_laysRule_14 : decode b_MO_laysRule 14 = .ok (.getfield 19, 3) := by decide +kernel
theorem d_MO_laysRule_17 : decode b_MO_laysRule 17 = .ok (.iload_n 1, 1) := by decide +kernel
theorem d_MO_laysRule_18 : decode b_MO_laysRule 18 = .ok (.iaload, 1) := by decide +kernel
theorem d_MO_laysRule_19 : decode b_MO_laysRule 19 = .ok (.iastore, 1) := by decide +kernel
theorem d_MO_laysRule_20 : decode b_MO_laysRule 20 = .ok (.iinc 1 1, 3) := by decide +kernel
theorem d_MO_laysRule_23 : decode b_MO_laysRule 23 = .ok (.goto (-21), 3) := by decide +kernel
theorem d_MO_laysRule_26 : decode b_MO_laysRule 26 = .ok (.return_, 1) := by decide +kernel
theorem d_MO_isSameWord_0 : decode b_MO_isSameWord 0 = .ok (.aload_n 0, 1) := by decide +kernel
theorem d_MO_isSameWord_1 : decode b_MO_isSameWord 1 = .ok (.getfield 19, 3) := by decide +kernel
theorem d_MO_isSameWord_4 : decode b_MO_isSameWord 4 = .ok (.iconst 0, 1) := by decide +kernel
theorem d_MO_isSameWord_5 : decode b_MO_isSameWord 5 = .ok (.iaload, 1) := by decide +kernel
theorem d_MO_isSameWord_6 : decode b_MO_isSameWord 6 = .ok (.aload_n 0, 1) := by decide +kernel
theorem d_MO_isSameWord_7 : decode b_MO_isSameWord 7 = .ok (.invokevirtual 60, 3) := by decide +kernel
theorem d_MO_isSameWord_10 : decode b_MO_isSameWord 10 = .ok (.if_icmp .ne 7, 3) := by decide +kernel
theorem d_MO_isSameWord_13 : decode b_MO_isSameWord 13 = .ok (.iconst 1, 1) := by decide +kernel
theorem d_MO_isSameWord_14 : decode b_MO_isSameWord 14 = .ok (.goto 4, 3) := by decide +kernel
theorem d_MO_isSameWord_17 : decode b_MO_isSameWord 17 = .ok (.iconst 0, 1) := by decide +kernel
theorem d_MO_isSameWord_18 : decode b_MO_isSameWord 18 = .ok (.istore_n 1, 1) := by decide +kernel
theorem d_MO_isSameWord_19 : decode b_MO_isSameWord 19 = .ok (.iconst 0, 1) := by decide +kernel
theorem d_MO_isSameWord_20 : decode b_MO_isSameWord 20 = .ok (.istore_n 2, 1) := by decide +kernel
theorem d_MO_isSameWord_21 : decode b_MO_isSameWord 21 = .ok (.iload_n 2, 1) := by decide +kernel
theorem d_MO_isSameWord_22 : decode b_MO_isSameWord 22 = .ok (.aload_n 0, 1) := by decide +kernel
theorem d_MO_isSameWord_23 : decode b_MO_isSameWord 23 = .ok (.invokevirtual 60, 3) := by decide +kernel
theorem d_MO_isSameWord_26 : decode b_MO_isSameWord 26 = .ok (.if_icmp .ge 35, 3) := by decide +kernel
theorem d_MO_isSameWord_29 : decode b_MO_isSameWord 29 = .ok (.iload_n 1, 1) := by decide +kernel
theorem d_MO_isSameWord_30 : decode b_MO_isSameWord 30 = .ok (.ifCond .eq 31, 3) := by decide +kernel
theorem d_MO_isSameWord_33 : decode b_MO_isSameWord 33 = .ok (.aload_n 0, 1) := by decide +kernel
theorem d_MO_isSameWord_34 : decode b_MO_isSameWord 34 = .ok (.getfield 19, 3) := by decide +kernel
theorem d_MO_isSameWord_37 : decode b_MO_isSameWord 37 = .ok (.iconst 1, 1) := by decide +kernel
theorem d_MO_isSameWord_38 : decode b_MO_isSameWord 38 = .ok (.iload_n 2, 1) := by decide +kernel
theorem d_MO_isSameWord_39 : decode b_MO_isSameWord 39 = .ok (.iadd, 1) := by decide +kernel
theorem d_MO_isSameWord_40 : decode b_MO_isSameWord 40 = .ok (.iaload, 1) := by decide +kernel
theorem d_MO_isSameWord_41 : decode b_MO_isSameWord 41 = .ok (.aload_n 0, 1) := by decide +kernel
theorem d_MO_isSameWord_42 : decode b_MO_isSameWord 42 = .ok (.iload_n 2, 1) := by decide +kernel
theorem d_MO_isSameWord_43 : decode b_MO_isSameWord 43 = .ok (.invokevirtual 64, 3) := by decide +kernel
theorem d_MO_isSameWord_46 : decode b_MO_isSameWord 46 = .ok (.if_icmp .ne 7, 3) := by decide +kernel
theorem d_MO_isSameWord_49 : decode b_MO_isSameWord 49 = .ok (.iconst 1, 1) := by decide +kernel
theorem d_MO_isSameWord_50 : decode b_MO_isSameWord 50 = .ok (.goto 4, 3) := by decide +kernel
theorem d_MO_isSameWord_53 : decode b_MO_isSameWord 53 = .ok (.iconst 0, 1) := by decide +kernel
theorem d_MO_isSameWord_54 : decode b_MO_isSameWord 54 = .ok (.istore_n 1, 1) := by decide +kernel
theorem d_MO_isSameWord_55 : decode b_MO_isSameWord 55 = .ok (.iinc 2 1, 3) := by decide +kernel
theorem d_MO_isSameWord_58 : decode b_MO_isSameWord 58 = .ok (.goto (-37), 3) := by decide +kernel
theorem d_MO_isSameWord_61 : decode b_MO_isSameWord 61 = .ok (.iload_n 1, 1) := by decide +kernel
theorem d_MO_isSameWord_62 : decode b_MO_isSameWord 62 = .ok (.ireturn, 1) := by decide +kernel
theorem d_MO_laysWord_0 : decode b_MO_laysWord 0 = .ok (.iconst 0, 1) := by decide +kernel
theorem d_MO_laysWord_1 : decode b_MO_laysWord 1 = .ok (.istore_n 1, 1) := by decide +kernel
theorem d_MO_laysWord_2 : decode b_MO_laysWord 2 = .ok (.iload_n 1, 1) := by decide +kernel
theorem d_MO_laysWord_3 : decode b_MO_laysWord 3 = .ok (.aload_n 0, 1) := by decide +kernel
theorem d_MO_laysWord_4 : decode b_MO_laysWord 4 = .ok (.getfield 19, 3) := by decide +kernel
theorem d_MO_laysWord_7 : decode b_MO_laysWord 7 = .ok (.iconst 0, 1) := by decide +kernel
theorem d_MO_laysWord_8 : decode b_MO_laysWord 8 = .ok (.iaload, 1) := by decide +kernel
theorem d_MO_laysWord_9 : decode b_MO_laysWord 9 = .ok (.if_icmp .gt 24, 3) := by decide +kernel
theorem d_MO_laysWord_12 : decode b_MO_laysWord 12 = .ok (.aload_n 0, 1) := by decide +kernel
theorem d_MO_laysWord_13 : decode b_MO_laysWord 13 = .ok (.getfield 7, 3) := by decide +kernel
theorem d_MO_laysWord_16 : decode b_MO_laysWord 16 = .ok (.bipush 36, 2) := by decide +kernel
theorem d_MO_laysWord_18 : decode b_MO_laysWord 18 = .ok (.iload_n 1, 1) := by decide +kernel
theorem d_MO_laysWord_19 : decode b_MO_laysWord 19 = .ok (.iadd, 1) := by decide +kernel
theorem d_MO_laysWord_20 : decode b_MO_laysWord 20 = .ok (.aload_n 0, 1) := by decide +kernel
theorem d_MO_laysWord_21 : decode b_MO_laysWord 21 = .ok (.getfield 19, 3) := by decide +kernel
theorem d_MO_laysWord_24 : decode b_MO_laysWord 24 = .ok (.iload_n 1, 1) := by decide +kernel
theorem d_MO_laysWord_25 : decode b_MO_laysWord 25 = .ok (.iaload, 1) := by decide +kernel
theorem d_MO_laysWord_26 : decode b_MO_laysWord 26 = .ok (.iastore, 1) := by decide +kernel
theorem d_MO_laysWord_27 : decode b_MO_laysWord 27 = .ok (.iinc 1 1, 3) := by decide +kernel
theorem d_MO_laysWord_30 : decode b_MO_laysWord 30 = .ok (.goto (-28), 3) := by decide +kernel
theorem d_MO_laysWord_33 : decode b_MO_laysWord 33 = .ok (.return_, 1) := by decide +kernel
theorem d_MO_takesRule_0 : decode b_MO_takesRule 0 = .ok (.iconst 0, 1) := by decide +kernel
theorem d_MO_takesRule_1 : decode b_MO_takesRule 1 = .ok (.istore_n 1, 1) := by decide +kernel
theorem d_MO_takesRule_2 : decode b_MO_takesRule 2 = .ok (.iload_n 1, 1) := by decide +kernel
theorem d_MO_takesRule_3 : decode b_MO_takesRule 3 = .ok (.bipush 36, 2) := by decide +kernel
theorem d_MO_takesRule_5 : decode b_MO_takesRule 5 = .ok (.if_icmp .ge 21, 3) := by decide +kernel
theorem d_MO_takesRule_8 : decode b_MO_takesRule 8 = .ok (.aload_n 0, 1) := by decide +kernel
theorem d_MO_takesRule_9 : decode b_MO_takesRule 9 = .ok (.getfield 19, 3) := by decide +kernel
theorem d_MO_takesRule_12 : decode b_MO_takesRule 12 = .ok (.iload_n 1, 1) := by decide +kernel
theorem d_MO_takesRule_13 : decode b_MO_takesRule 13 = .ok (.aload_n 0, 1) := by decide +kernel
theorem d_MO_takesRule_14 : decode b_MO_takesRule 14 = .ok (.getfield 7, 3) := by decide +kernel
theorem d_MO_takesRule_17 : decode b_MO_takesRule 17 = .ok (.iload_n 1, 1) := by decide +kernel
theorem d_MO_takesRule_18 : decode b_MO_takesRule 18 = .ok (.iaload, 1) := by decide +kernel
theorem d_MO_takesRule_19 : decode b_MO_takesRule 19 = .ok (.iastore, 1) := by decide +kernel
theorem d_MO_takesRule_20 : decode b_MO_takesRule 20 = .ok (.iinc 1 1, 3) := by decide +kernel
theorem d_MO_takesRule_23 : decode b_MO_takesRule 23 = .ok (.goto (-21), 3) := by decide +kernel
theorem d_MO_takesRule_26 : decode b_MO_takesRule 26 = .ok (.return_, 1) := by decide +kernel
theorem d_MO_allSizes_0 : decode b_MO_allSizes 0 = .ok (.aload_n 0, 1) := by decide +kernel
theorem d_MO_allSizes_1 : decode b_MO_allSizes 1 = .ok (.iconst 0, 1) := by decide +kernel
theorem d_MO_allSizes_2 : decode b_MO_allSizes 2 = .ok (.invokevirtual 52, 3) := by decide +kernel
theorem d_MO_allSizes_5 : decode b_MO_allSizes 5 = .ok (.aload_n 0, 1) := by decide +kernel
theorem d_MO_allSizes_6 : decode b_MO_allSizes 6 = .ok (.iconst 1, 1) := by decide +kernel
theorem d_MO_allSizes_7 : decode b_MO_allSizes 7 = .ok (.invokevirtual 52, 3) := by decide +kernel
theorem d_MO_allSizes_10 : decode b_MO_allSizes 10 = .ok (.iadd, 1) := by decide +kernel
theorem d_MO_allSizes_11 : decode b_MO_allSizes 11 = .ok (.aload_n 0, 1) := by decide +kernel
theorem d_MO_allSizes_12 : decode b_MO_allSizes 12 = .ok (.iconst 2, 1) := by decide +kernel
theorem d_MO_allSizes_13 : decode b_MO_allSizes 13 = .ok (.invokevirtual 52, 3) := by decide +kernel
theorem d_MO_allSizes_16 : decode b_MO_allSizes 16 = .ok (.iadd, 1) := by decide +kernel
theorem d_MO_allSizes_17 : decode b_MO_allSizes 17 = .ok (.aload_n 0, 1) := by decide +kernel
theorem d_MO_allSizes_18 : decode b_MO_allSizes 18 = .ok (.iconst 3, 1) := by decide +kernel
theorem d_MO_allSizes_19 : decode b_MO_allSizes 19 = .ok (.invokevirtual 52, 3) := by decide +kernel
theorem d_MO_allSizes_22 : decode b_MO_allSizes 22 = .ok (.iadd, 1) := by decide +kernel
theorem d_MO_allSizes_23 : decode b_MO_allSizes 23 = .ok (.ireturn, 1) := by decide +kernel
theorem d_MO_readRule_0 : decode b_MO_readRule 0 = .ok (.aload_n 0, 1) := by decide +kernel
theorem d_MO_readRule_1 : decode b_MO_readRule 1 = .ok (.invokevirtual 67, 3) := by decide +kernel
theorem d_MO_readRule_4 : decode b_MO_readRule 4 = .ok (.aload_n 0, 1) := by decide +kernel
theorem d_MO_readRule_5 : decode b_MO_readRule 5 = .ok (.invokevirtual 70, 3) := by decide +kernel
theorem d_MO_readRule_8 : decode b_MO_readRule 8 = .ok (.istore_n 1, 1) := by decide +kernel
theorem d_MO_readRule_9 : decode b_MO_readRule 9 = .ok (.iload_n 1, 1) := by decide +kernel
theorem d_MO_readRule_10 : decode b_MO_readRule 10 = .ok (.bipush (-5), 2) := by decide +kernel
theorem d_MO_readRule_12 : decode b_MO_readRule 12 = .ok (.if_icmp .ne 11, 3) := by decide +kernel
theorem d_MO_readRule_15 : decode b_MO_readRule 15 = .ok (.bipush (-100), 2) := by decide +kernel
theorem d_MO_readRule_17 : decode b_MO_readRule 17 = .ok (.aload_n 0, 1) := by decide +kernel
theorem d_MO_readRule_18 : decode b_MO_readRule 18 = .ok (.getfield 73, 3) := by decide +kernel
theorem d_MO_readRule_21 : decode b_MO_readRule 21 = .ok (.isub, 1) := by decide +kernel
theorem d_MO_readRule_22 : decode b_MO_readRule 22 = .ok (.ireturn, 1) := by decide +kernel
theorem d_MO_readRule_23 : decode b_MO_readRule 23 = .ok (.aload_n 0, 1) := by decide +kernel
theorem d_MO_readRule_24 : decode b_MO_readRule 24 = .ok (.invokevirtual 76, 3) := by decide +kernel
theorem d_MO_readRule_27 : decode b_MO_readRule 27 = .ok (.ifCond .eq 6, 3) := by decide +kernel
theorem d_MO_readRule_30 : decode b_MO_readRule 30 = .ok (.bipush (-5), 2) := by decide +kernel
theorem d_MO_readRule_32 : decode b_MO_readRule 32 = .ok (.ireturn, 1) := by decide +kernel
theorem d_MO_readRule_33 : decode b_MO_readRule 33 = .ok (.aload_n 0, 1) := by decide +kernel
theorem d_MO_readRule_34 : decode b_MO_readRule 34 = .ok (.invokevirtual 80, 3) := by decide +kernel
theorem d_MO_readRule_37 : decode b_MO_readRule 37 = .ok (.aload_n 0, 1) := by decide +kernel
theorem d_MO_readRule_38 : decode b_MO_readRule 38 = .ok (.invokevirtual 83, 3) := by decide +kernel
theorem d_MO_readRule_41 : decode b_MO_readRule 41 = .ok (.iload_n 1, 1) := by decide +kernel
theorem d_MO_readRule_42 : decode b_MO_readRule 42 = .ok (.ireturn, 1) := by decide +kernel
theorem d_MO_square_0 : decode b_MO_square 0 = .ok (.iconst 0, 1) := by decide +kernel
theorem d_MO_square_1 : decode b_MO_square 1 = .ok (.istore_n 1, 1) := by decide +kernel
theorem d_MO_square_2 : decode b_MO_square 2 = .ok (.iload_n 1, 1) := by decide +kernel
theorem d_MO_square_3 : decode b_MO_square 3 = .ok (.iconst 4, 1) := by decide +kernel
theorem d_MO_square_4 : decode b_MO_square 4 = .ok (.if_icmp .ge 50, 3) := by decide +kernel
theorem d_MO_square_7 : decode b_MO_square 7 = .ok (.iconst 0, 1) := by decide +kernel
theorem d_MO_square_8 : decode b_MO_square 8 = .ok (.istore_n 2, 1) := by decide +kernel
theorem d_MO_square_9 : decode b_MO_square 9 = .ok (.iconst 0, 1) := by decide +kernel
theorem d_MO_square_10 : decode b_MO_square 10 = .ok (.istore_n 3, 1) := by decide +kernel
theorem d_MO_square_11 : decode b_MO_square 11 = .ok (.iload_n 3, 1) := by decide +kernel
theorem d_MO_square_12 : decode b_MO_square 12 = .ok (.aload_n 0, 1) := by decide +kernel
theorem d_MO_square_13 : decode b_MO_square 13 = .ok (.iload_n 1, 1) := by decide +kernel
theorem d_MO_square_14 : decode b_MO_square 14 = .ok (.invokevirtual 52, 3) := by decide +kernel
theorem d_MO_square_17 : decode b_MO_square 17 = .ok (.if_icmp .ge 22, 3) := by decide +kernel
theorem d_MO_square_20 : decode b_MO_square 20 = .ok (.iload_n 2, 1) := by decide +kernel
theorem d_MO_square_21 : decode b_MO_square 21 = .ok (.aload_n 0, 1) := by decide +kernel
theorem d_MO_square_22 : decode b_MO_square 22 = .ok (.aload_n 0, 1) := by decide +kernel
theorem d_MO_square_23 : decode b_MO_square 23 = .ok (.iload_n 1, 1) := by decide +kernel
theorem d_MO_square_24 : decode b_MO_square 24 = .ok (.iload_n 3, 1) := by decide +kernel
theorem d_MO_square_25 : decode b_MO_square 25 = .ok (.invokevirtual 56, 3) := by decide +kernel
theorem d_MO_square_28 : decode b_MO_square 28 = .ok (.invokevirtual 52, 3) := by decide +kernel
theorem d_MO_square_31 : decode b_MO_square 31 = .ok (.iadd, 1) := by decide +kernel
theorem d_MO_square_32 : decode b_MO_square 32 = .ok (.istore_n 2, 1) := by decide +kernel
theorem d_MO_square_33 : decode b_MO_square 33 = .ok (.iinc 3 1, 3) := by decide +kernel
theorem d_MO_square_36 : decode b_MO_square 36 = .ok (.goto (-25), 3) := by decide +kernel
theorem d_MO_square_39 : decode b_MO_square 39 = .ok (.iload_n 2, 1) := by decide +kernel
theorem d_MO_square_40 : decode b_MO_square 40 = .ok (.bipush 8, 2) := by decide +kernel
theorem d_MO_square_42 : decode b_MO_square 42 = .ok (.if_icmp .le 6, 3) := by decide +kernel
theorem d_MO_square_45 : decode b_MO_square 45 = .ok (.bipush (-3), 2) := by decide +kernel
theorem d_MO_square_47 : decode b_MO_square 47 = .ok (.ireturn, 1) := by decide +kernel
theorem d_MO_square_48 : decode b_MO_square 48 = .ok (.iinc 1 1, 3) := by decide +kernel
theorem d_MO_square_51 : decode b_MO_square 51 = .ok (.goto (-49), 3) := by decide +kernel
theorem d_MO_square_54 : decode b_MO_square 54 = .ok (.iconst 0, 1) := by decide +kernel
theorem d_MO_square_55 : decode b_MO_square 55 = .ok (.istore_n 1, 1) := by decide +kernel
theorem d_MO_square_56 : decode b_MO_square 56 = .ok (.iload_n 1, 1) := by decide +kernel
theorem d_MO_square_57 : decode b_MO_square 57 = .ok (.iconst 4, 1) := by decide +kernel
theorem d_MO_square_58 : decode b_MO_square 58 = .ok (.if_icmp .ge 90, 3) := by decide +kernel
theorem d_MO_square_61 : decode b_MO_square 61 = .ok (.iconst 0, 1) := by decide +kernel
theorem d_MO_square_62 : decode b_MO_square 62 = .ok (.istore_n 2, 1) := by decide +kernel
theorem d_MO_square_63 : decode b_MO_square 63 = .ok (.iconst 0, 1) := by decide +kernel
theorem d_MO_square_64 : decode b_MO_square 64 = .ok (.istore_n 3, 1) := by decide +kernel
theorem d_MO_square_65 : decode b_MO_square 65 = .ok (.iload_n 3, 1) := by decide +kernel
theorem d_MO_square_66 : decode b_MO_square 66 = .ok (.aload_n 0, 1) := by decide +kernel
theorem d_MO_square_67 : decode b_MO_square 67 = .ok (.iload_n 1, 1) := by decide +kernel
theorem d_MO_square_68 : decode b_MO_square 68 = .ok (.invokevirtual 52, 3) := by decide +kernel
theorem d_MO_square_71 : decode b_MO_square 71 = .ok (.if_icmp .ge 61, 3) := by decide +kernel
theorem d_MO_square_74 : decode b_MO_square 74 = .ok (.aload_n 0, 1) := by decide +kernel
theorem d_MO_square_75 : decode b_MO_square 75 = .ok (.iload_n 1, 1) := by decide +kernel
theorem d_MO_square_76 : decode b_MO_square 76 = .ok (.iload_n 3, 1) := by decide +kernel
theorem d_MO_square_77 : decode b_MO_square 77 = .ok (.invokevirtual 56, 3) := by decide +kernel
theorem d_MO_square_80 : decode b_MO_square 80 = .ok (.istore 4, 2) := by decide +kernel
theorem d_MO_square_82 : decode b_MO_square 82 = .ok (.iconst 0, 1) := by decide +kernel
theorem d_MO_square_83 : decode b_MO_square 83 = .ok (.istore 5, 2) := by decide +kernel
theorem d_MO_square_85 : decode b_MO_square 85 = .ok (.iload 5, 2) := by decide +kernel
theorem d_MO_square_87 : decode b_MO_square 87 = .ok (.aload_n 0, 1) := by decide +kernel
theorem d_MO_square_88 : decode b_MO_square 88 = .ok (.iload 4, 2) := by decide +kernel
theorem d_MO_square_90 : decode b_MO_square 90 = .ok (.invokevirtual 52, 3) := by decide +kernel
theorem d_MO_square_93 : decode b_MO_square 93 = .ok (.if_icmp .ge 33, 3) := by decide +kernel
theorem d_MO_square_96 : decode b_MO_square 96 = .ok (.aload_n 0, 1) := by decide +kernel
theorem d_MO_square_97 : decode b_MO_square 97 = .ok (.getfield 19, 3) := by decide +kernel
theorem d_MO_square_100 : decode b_MO_square 100 = .ok (.bipush 9, 2) := by decide +kernel
theorem d_MO_square_102 : decode b_MO_square 102 = .ok (.iload_n 1, 1) := by decide +kernel
theorem d_MO_square_103 : decode b_MO_square 103 = .ok (.imul, 1) := by decide +kernel
theorem d_MO_square_104 : decode b_MO_square 104 = .ok (.iconst 1, 1) := by decide +kernel
theorem d_MO_square_105 : decode b_MO_square 105 = .ok (.iadd, 1) := by decide +kernel
theorem d_MO_square_106 : decode b_MO_square 106 = .ok (.iload_n 2, 1) := by decide +kernel
theorem d_MO_square_107 : decode b_MO_square 107 = .ok (.iadd, 1) := by decide +kernel
theorem d_MO_square_108 : decode b_MO_square 108 = .ok (.aload_n 0, 1) := by decide +kernel
theorem d_MO_square_109 : decode b_MO_square 109 = .ok (.iload 4, 2) := by decide +kernel
theorem d_MO_square_111 : decode b_MO_square 111 = .ok (.iload 5, 2) := by decide +kernel
theorem d_MO_square_113 : decode b_MO_square 113 = .ok (.invokevirtual 56, 3) := by decide +kernel
theorem d_MO_square_116 : decode b_MO_square 116 = .ok (.iastore, 1) := by decide +kernel
theorem d_MO_square_117 : decode b_MO_square 117 = .ok (.iinc 2 1, 3) := by decide +kernel
theorem d_MO_square_120 : decode b_MO_square 120 = .ok (.iinc 5 1, 3) := by decide +kernel
theorem d_MO_square_123 : decode b_MO_square 123 = .ok (.goto (-38), 3) := by decide +kernel
theorem d_MO_square_126 : decode b_MO_square 126 = .ok (.iinc 3 1, 3) := by decide +kernel
theorem d_MO_square_129 : decode b_MO_square 129 = .ok (.goto (-64), 3) := by decide +kernel
theorem d_MO_square_132 : decode b_MO_square 132 = .ok (.aload_n 0, 1) := by decide +kernel
theorem d_MO_square_133 : decode b_MO_square 133 = .ok (.getfield 19, 3) := by decide +kernel
theorem d_MO_square_136 : decode b_MO_square 136 = .ok (.bipush 9, 2) := by decide +kernel
theorem d_MO_square_138 : decode b_MO_square 138 = .ok (.iload_n 1, 1) := by decide +kernel
theorem d_MO_square_139 : decode b_MO_square 139 = .ok (.imul, 1) := by decide +kernel
theorem d_MO_square_140 : decode b_MO_square 140 = .ok (.iload_n 2, 1) := by decide +kernel
theorem d_MO_square_141 : decode b_MO_square 141 = .ok (.iastore, 1) := by decide +kernel
theorem d_MO_square_142 : decode b_MO_square 142 = .ok (.iinc 1 1, 3) := by decide +kernel
theorem d_MO_square_145 : decode b_MO_square 145 = .ok (.goto (-89), 3) := by decide +kernel
theorem d_MO_square_148 : decode b_MO_square 148 = .ok (.aload_n 0, 1) := by decide +kernel
theorem d_MO_square_149 : decode b_MO_square 149 = .ok (.invokevirtual 76, 3) := by decide +kernel
theorem d_MO_square_152 : decode b_MO_square 152 = .ok (.ifCond .eq 6, 3) := by decide +kernel
theorem d_MO_square_155 : decode b_MO_square 155 = .ok (.bipush (-5), 2) := by decide +kernel
theorem d_MO_square_157 : decode b_MO_square 157 = .ok (.ireturn, 1) := by decide +kernel
theorem d_MO_square_158 : decode b_MO_square 158 = .ok (.aload_n 0, 1) := by decide +kernel
theorem d_MO_square_159 : decode b_MO_square 159 = .ok (.invokevirtual 80, 3) := by decide +kernel
theorem d_MO_square_162 : decode b_MO_square 162 = .ok (.aload_n 0, 1) := by decide +kernel
theorem d_MO_square_163 : decode b_MO_square 163 = .ok (.invokevirtual 83, 3) := by decide +kernel
theorem d_MO_square_166 : decode b_MO_square 166 = .ok (.aload_n 0, 1) := by decide +kernel
theorem d_MO_square_167 : decode b_MO_square 167 = .ok (.invokevirtual 86, 3) := by decide +kernel
theorem d_MO_square_170 : decode b_MO_square 170 = .ok (.ireturn, 1) := by decide +kernel
theorem d_MO_shift_0 : decode b_MO_shift 0 = .ok (.aload_n 0, 1) := by decide +kernel
theorem d_MO_shift_1 : decode b_MO_shift 1 = .ok (.iconst 0, 1) := by decide +kernel
theorem d_MO_shift_2 : decode b_MO_shift 2 = .ok (.iload_n 1, 1) := by decide +kernel
theorem d_MO_shift_3 : decode b_MO_shift 3 = .ok (.ifCond .eq 13, 3) := by decide +kernel
theorem d_MO_shift_6 : decode b_MO_shift 6 = .ok (.aload_n 0, 1) := by decide +kernel
theorem d_MO_shift_7 : decode b_MO_shift 7 = .ok (.iconst 0, 1) := by decide +kernel
theorem d_MO_shift_8 : decode b_MO_shift 8 = .ok (.invokevirtual 52, 3) := by decide +kernel
theorem d_MO_shift_11 : decode b_MO_shift 11 = .ok (.iconst 1, 1) := by decide +kernel
theorem d_MO_shift_12 : decode b_MO_shift 12 = .ok (.isub, 1) := by decide +kernel
theorem d_MO_shift_13 : decode b_MO_shift 13 = .ok (.goto 4, 3) := by decide +kernel
theorem d_MO_shift_16 : decode b_MO_shift 16 = .ok (.iconst 0, 1) := by decide +kernel
theorem d_MO_shift_17 : decode b_MO_shift 17 = .ok (.invokevirtual 56, 3) := by decide +kernel
theorem d_MO_shift_20 : decode b_MO_shift 20 = .ok (.istore_n 2, 1) := by decide +kernel
theorem d_MO_shift_21 : decode b_MO_shift 21 = .ok (.iconst 0, 1) := by decide +kernel
theorem d_MO_shift_22 : decode b_MO_shift 22 = .ok (.istore_n 3, 1) := by decide +kernel
theorem d_MO_shift_23 : decode b_MO_shift 23 = .ok (.iload_n 3, 1) := by decide +kernel
theorem d_MO_shift_24 : decode b_MO_shift 24 = .ok (.iconst 4, 1) := by decide +kernel
theorem d_MO_shift_25 : decode b_MO_shift 25 = .ok (.if_icmp .ge 110, 3) := by decide +kernel
theorem d_MO_shift_28 : decode b_MO_shift 28 = .ok (.aload_n 0, 1) := by decide +kernel
theorem d_MO_shift_29 : decode b_MO_shift 29 = .ok (.iload_n 3, 1) := by decide +kernel
theorem d_MO_shift_30 : decode b_MO_shift 30 = .ok (.invokevirtual 52, 3) := by decide +kernel
theorem d_MO_shift_33 : decode b_MO_shift 33 = .ok (.istore 4, 2) := by decide +kernel
theorem d_MO_shift_35 : decode b_MO_shift 35 = .ok (.aload_n 0, 1) := by decide +kernel
theorem d_MO_shift_36 : decode b_MO_shift 36 = .ok (.iload_n 3, 1) := by decide +kernel
theorem d_MO_shift_37 : decode b_MO_shift 37 = .ok (.iload_n 1, 1) := by decide +kernel
theorem d_MO_shift_38 : decode b_MO_shift 38 = .ok (.ifCond .eq 10, 3) := by decide +kernel
theorem d_MO_shift_41 : decode b_MO_shift 41 = .ok (.iload 4, 2) := by decide +kernel
theorem d_MO_shift_43 : decode b_MO_shift 43 = .ok (.iconst 1, 1) := by decide +kernel
theorem d_MO_shift_44 : decode b_MO_shift 44 = .ok (.isub, 1) := by decide +kernel
theorem d_MO_shift_45 : decode b_MO_shift 45 = .ok (.goto 4, 3) := by decide +kernel
theorem d_MO_shift_48 : decode b_MO_shift 48 = .ok (.iconst 0, 1) := by decide +kernel
theorem d_MO_shift_49 : decode b_MO_shift 49 = .ok (.invokevirtual 56, 3) := by decide +kernel
theorem d_MO_shift_52 : decode b_MO_shift 52 = .ok (.iload_n 2, 1) := by decide +kernel
theorem d_MO_shift_53 : decode b_MO_shift 53 = .ok (.if_icmp .eq 6, 3) := by decide +kernel
theorem d_MO_shift_56 : decode b_MO_shift 56 = .ok (.bipush (-4), 2) := by decide +kernel
theorem d_MO_shift_58 : decode b_MO_shift 58 = .ok (.ireturn, 1) := by decide +kernel
theorem d_MO_shift_59 : decode b_MO_shift 59 = .ok (.aload_n 0, 1) := by decide +kernel
theorem d_MO_shift_60 : decode b_MO_shift 60 = .ok (.getfield 19, 3) := by decide +kernel
theorem d_MO_shift_63 : decode b_MO_shift 63 = .ok (.bipush 9, 2) := by decide +kernel
theorem d_MO_shift_65 : decode b_MO_shift 65 = .ok (.iload_n 3, 1) := by decide +kernel
theorem d_MO_shift_66 : decode b_MO_shift 66 = .ok (.imul, 1) := by decide +kernel
theorem d_MO_shift_67 : decode b_MO_shift 67 = .ok (.iload 4, 2) := by decide +kernel
theorem d_MO_shift_69 : decode b_MO_shift 69 = .ok (.iastore, 1) := by decide +kernel
theorem d_MO_shift_70 : decode b_MO_shift 70 = .ok (.iconst 0, 1) := by decide +kernel
theorem d_MO_shift_71 : decode b_MO_shift 71 = .ok (.istore 5, 2) := by decide +kernel
theorem d_MO_shift_73 : decode b_MO_shift 73 = .ok (.iload 5, 2) := by decide +kernel
theorem d_MO_shift_75 : decode b_MO_shift 75 = .ok (.iload 4, 2) := by decide +kernel
theorem d_MO_shift_77 : decode b_MO_shift 77 = .ok (.if_icmp .ge 52, 3) := by decide +kernel
theorem d_MO_shift_80 : decode b_MO_shift 80 = .ok (.aload_n 0, 1) := by decide +kernel
theorem d_MO_shift_81 : decode b_MO_shift 81 = .ok (.getfield 19, 3) := by decide +kernel
theorem d_MO_shift_84 : decode b_MO_shift 84 = .ok (.bipush 9, 2) := by decide +kernel
theorem d_MO_shift_86 : decode b_MO_shift 86 = .ok (.iload_n 3, 1) := by decide +kernel
theorem d_MO_shift_87 : decode b_MO_shift 87 = .ok (.imul, 1) := by decide +kernel
theorem d_MO_shift_88 : decode b_MO_shift 88 = .ok (.iconst 1, 1) := by decide +kernel
theorem d_MO_shift_89 : decode b_MO_shift 89 = .ok (.iadd, 1) := by decide +kernel
theorem d_MO_shift_90 : decode b_MO_shift 90 = .ok (.iload 5, 2) := by decide +kernel
theorem d_MO_shift_92 : decode b_MO_shift 92 = .ok (.iadd, 1) := by decide +kernel
theorem d_MO_shift_93 : decode b_MO_shift 93 = .ok (.aload_n 0, 1) := by decide +kernel
theorem d_MO_shift_94 : decode b_MO_shift 94 = .ok (.iload_n 3, 1) := by decide +kernel
theorem d_MO_shift_95 : decode b_MO_shift 95 = .ok (.iload_n 1, 1) := by decide +kernel
theorem d_MO_shift_96 : decode b_MO_shift 96 = .ok (.ifCond .eq 16, 3) := by decide +kernel
theorem d_MO_shift_99 : decode b_MO_shift 99 = .ok (.iload 5, 2) := by decide +kernel
theorem d_MO_shift_101 : decode b_MO_shift 101 = .ok (.iload 4, 2) := by decide +kernel
theorem d_MO_shift_103 : decode b_MO_shift 103 = .ok (.iadd, 1) := by decide +kernel
theorem d_MO_shift_104 : decode b_MO_shift 104 = .ok (.iconst 1, 1) := by decide +kernel
theorem d_MO_shift_105 : decode b_MO_shift 105 = .ok (.isub, 1) := by decide +kernel
theorem d_MO_shift_106 : decode b_MO_shift 106 = .ok (.iload 4, 2) := by decide +kernel
theorem d_MO_shift_108 : decode b_MO_shift 108 = .ok (.irem, 1) := by decide +kernel
theorem d_MO_shift_109 : decode b_MO_shift 109 = .ok (.goto 10, 3) := by decide +kernel
theorem d_MO_shift_112 : decode b_MO_shift 112 = .ok (.iload 5, 2) := by decide +kernel
theorem d_MO_shift_114 : decode b_MO_shift 114 = .ok (.iconst 1, 1) := by decide +kernel
theorem d_MO_shift_115 : decode b_MO_shift 115 = .ok (.iadd, 1) := by decide +kernel
theorem d_MO_shift_116 : decode b_MO_shift 116 = .ok (.iload 4, 2) := by decide +kernel
theorem d_MO_shift_118 : decode b_MO_shift 118 = .ok (.irem, 1) := by decide +kernel
theorem d_MO_shift_119 : decode b_MO_shift 119 = .ok (.invokevirtual 56, 3) := by decide +kernel
theorem d_MO_shift_122 : decode b_MO_shift 122 = .ok (.iastore, 1) := by decide +kernel
theorem d_MO_shift_123 : decode b_MO_shift 123 = .ok (.iinc 5 1, 3) := by decide +kernel
theorem d_MO_shift_126 : decode b_MO_shift 126 = .ok (.goto (-53), 3) := by decide +kernel
theorem d_MO_shift_129 : decode b_MO_shift 129 = .ok (.iinc 3 1, 3) := by decide +kernel
theorem d_MO_shift_132 : decode b_MO_shift 132 = .ok (.goto (-109), 3) := by decide +kernel
theorem d_MO_shift_135 : decode b_MO_shift 135 = .ok (.aload_n 0, 1) := by decide +kernel
theorem d_MO_shift_136 : decode b_MO_shift 136 = .ok (.invokevirtual 76, 3) := by decide +kernel
theorem d_MO_shift_139 : decode b_MO_shift 139 = .ok (.ifCond .eq 6, 3) := by decide +kernel
theorem d_MO_shift_142 : decode b_MO_shift 142 = .ok (.bipush (-5), 2) := by decide +kernel
theorem d_MO_shift_144 : decode b_MO_shift 144 = .ok (.ireturn, 1) := by decide +kernel
theorem d_MO_shift_145 : decode b_MO_shift 145 = .ok (.aload_n 0, 1) := by decide +kernel
theorem d_MO_shift_146 : decode b_MO_shift 146 = .ok (.invokevirtual 80, 3) := by decide +kernel
theorem d_MO_shift_149 : decode b_MO_shift 149 = .ok (.aload_n 0, 1) := by decide +kernel
theorem d_MO_shift_150 : decode b_MO_shift 150 = .ok (.invokevirtual 83, 3) := by decide +kernel
theorem d_MO_shift_153 : decode b_MO_shift 153 = .ok (.iload_n 2, 1) := by decide +kernel
theorem d_MO_shift_154 : decode b_MO_shift 154 = .ok (.ireturn, 1) := by decide +kernel
theorem d_MO_swapped_0 : decode b_MO_swapped 0 = .ok (.iload_n 0, 1) := by decide +kernel
theorem d_MO_swapped_1 : decode b_MO_swapped 1 = .ok (.iload_n 1, 1) := by decide +kernel
theorem d_MO_swapped_2 : decode b_MO_swapped 2 = .ok (.if_icmp .ne 7, 3) := by decide +kernel
theorem d_MO_swapped_5 : decode b_MO_swapped 5 = .ok (.iload_n 2, 1) := by decide +kernel
theorem d_MO_swapped_6 : decode b_MO_swapped 6 = .ok (.goto 13, 3) := by decide +kernel
theorem d_MO_swapped_9 : decode b_MO_swapped 9 = .ok (.iload_n 0, 1) := by decide +kernel
theorem d_MO_swapped_10 : decode b_MO_swapped 10 = .ok (.iload_n 2, 1) := by decide +kernel
theorem d_MO_swapped_11 : decode b_MO_swapped 11 = .ok (.if_icmp .ne 7, 3) := by decide +kernel
theorem d_MO_swapped_14 : decode b_MO_swapped 14 = .ok (.iload_n 1, 1) := by decide +kernel
theorem d_MO_swapped_15 : decode b_MO_swapped 15 = .ok (.goto 4, 3) := by decide +kernel
theorem d_MO_swapped_18 : decode b_MO_swapped 18 = .ok (.iload_n 0, 1) := by decide +kernel
theorem d_MO_swapped_19 : decode b_MO_swapped 19 = .ok (.ireturn, 1) := by decide +kernel
theorem d_MO_swap_0 : decode b_MO_swap 0 = .ok (.iload_n 1, 1) := by decide +kernel
theorem d_MO_swap_1 : decode b_MO_swap 1 = .ok (.invokestatic 89, 3) := by decide +kernel
theorem d_MO_swap_4 : decode b_MO_swap 4 = .ok (.ifCond .ne 10, 3) := by decide +kernel
theorem d_MO_swap_7 : decode b_MO_swap 7 = .ok (.iload_n 2, 1) := by decide +kernel
theorem d_MO_swap_8 : decode b_MO_swap 8 = .ok (.invokestatic 89, 3) := by decide +kernel
theorem d_MO_swap_11 : decode b_MO_swap 11 = .ok (.ifCond .eq 5, 3) := by decide +kernel
theorem d_MO_swap_14 : decode b_MO_swap 14 = .ok (.iconst (-1), 1) := by decide +kernel
theorem d_MO_swap_15 : decode b_MO_swap 15 = .ok (.ireturn, 1) := by decide +kernel
theorem d_MO_swap_16 : decode b_MO_swap 16 = .ok (.iload_n 1, 1) := by decide +kernel
theorem d_MO_swap_17 : decode b_MO_swap 17 = .ok (.iload_n 2, 1) := by decide +kernel
theorem d_MO_swap_18 : decode b_MO_swap 18 = .ok (.if_icmp .ne 6, 3) := by decide +kernel
theorem d_MO_swap_21 : decode b_MO_swap 21 = .ok (.bipush (-5), 2) := by decide +kernel
theorem d_MO_swap_23 : decode b_MO_swap 23 = .ok (.ireturn, 1) := by decide +kernel
theorem d_MO_swap_24 : decode b_MO_swap 24 = .ok (.aload_n 0, 1) := by decide +kernel
theorem d_MO_swap_25 : decode b_MO_swap 25 = .ok (.invokevirtual 80, 3) := by decide +kernel
theorem d_MO_swap_28 : decode b_MO_swap 28 = .ok (.iconst 0, 1) := by decide +kernel
theorem d_MO_swap_29 : decode b_MO_swap 29 = .ok (.istore_n 3, 1) := by decide +kernel
theorem d_MO_swap_30 : decode b_MO_swap 30 = .ok (.iload_n 3, 1) := by decide +kernel
theorem d_MO_swap_31 : decode b_MO_swap 31 = .ok (.iconst 4, 1) := by decide +kernel
theorem d_MO_swap_32 : decode b_MO_swap 32 = .ok (.if_icmp .ge 79, 3) := by decide +kernel
theorem d_MO_swap_35 : decode b_MO_swap 35 = .ok (.iload_n 3, 1) := by decide +kernel
theorem d_MO_swap_36 : decode b_MO_swap 36 = .ok (.iload_n 1, 1) := by decide +kernel
theorem d_MO_swap_37 : decode b_MO_swap 37 = .ok (.iload_n 2, 1) := by decide +kernel
theorem d_MO_swap_38 : decode b_MO_swap 38 = .ok (.invokestatic 93, 3) := by decide +kernel
theorem d_MO_swap_41 : decode b_MO_swap 41 = .ok (.istore 4, 2) := by decide +kernel
theorem d_MO_swap_43 : decode b_MO_swap 43 = .ok (.aload_n 0, 1) := by decide +kernel
theorem d_MO_swap_44 : decode b_MO_swap 44 = .ok (.getfield 19, 3) := by decide +kernel
theorem d_MO_swap_47 : decode b_MO_swap 47 = .ok (.bipush 9, 2) := by decide +kernel
theorem d_MO_swap_49 : decode b_MO_swap 49 = .ok (.iload_n 3, 1) := by decide +kernel
theorem d_MO_swap_50 : decode b_MO_swap 50 = .ok (.imul, 1) := by decide +kernel
theorem d_MO_swap_51 : decode b_MO_swap 51 = .ok (.aload_n 0, 1) := by decide +kernel
theorem d_MO_swap_52 : decode b_MO_swap 52 = .ok (.iload 4, 2) := by decide +kernel
theorem d_MO_swap_54 : decode b_MO_swap 54 = .ok (.invokevirtual 52, 3) := by decide +kernel
theorem d_MO_swap_57 : decode b_MO_swap 57 = .ok (.iastore, 1) := by decide +kernel
theorem d_MO_swap_58 : decode b_MO_swap 58 = .ok (.iconst 0, 1) := by decide +kernel
theorem d_MO_swap_59 : decode b_MO_swap 59 = .ok (.istore 5, 2) := by decide +kernel
theorem d_MO_swap_61 : decode b_MO_swap 61 = .ok (.iload 5, 2) := by decide +kernel
theorem d_MO_swap_63 : decode b_MO_swap 63 = .ok (.aload_n 0, 1) := by decide +kernel
theorem d_MO_swap_64 : decode b_MO_swap 64 = .ok (.iload 4, 2) := by decide +kernel
theorem d_MO_swap_66 : decode b_MO_swap 66 = .ok (.invokevirtual 52, 3) := by decide +kernel
theorem d_MO_swap_69 : decode b_MO_swap 69 = .ok (.if_icmp .ge 36, 3) := by decide +kernel
theorem d_MO_swap_72 : decode b_MO_swap 72 = .ok (.aload_n 0, 1) := by decide +kernel
theorem d_MO_swap_73 : decode b_MO_swap 73 = .ok (.getfield 19, 3) := by decide +kernel
theorem d_MO_swap_76 : decode b_MO_swap 76 = .ok (.bipush 9, 2) := by decide +kernel
theorem d_MO_swap_78 : decode b_MO_swap 78 = .ok (.iload_n 3, 1) := by decide +kernel
theorem d_MO_swap_79 : decode b_MO_swap 79 = .ok (.imul, 1) := by decide +kernel
theorem d_MO_swap_80 : decode b_MO_swap 80 = .ok (.iconst 1, 1) := by decide +kernel
theorem d_MO_swap_81 : decode b_MO_swap 81 = .ok (.iadd, 1) := by decide +kernel
theorem d_MO_swap_82 : decode b_MO_swap 82 = .ok (.iload 5, 2) := by decide +kernel
theorem d_MO_swap_84 : decode b_MO_swap 84 = .ok (.iadd, 1) := by decide +kernel
theorem d_MO_swap_85 : decode b_MO_swap 85 = .ok (.aload_n 0, 1) := by decide +kernel
theorem d_MO_swap_86 : decode b_MO_swap 86 = .ok (.iload 4, 2) := by decide +kernel
theorem d_MO_swap_88 : decode b_MO_swap 88 = .ok (.iload 5, 2) := by decide +kernel
theorem d_MO_swap_90 : decode b_MO_swap 90 = .ok (.invokevirtual 56, 3) := by decide +kernel
theorem d_MO_swap_93 : decode b_MO_swap 93 = .ok (.iload_n 1, 1) := by decide +kernel
theorem d_MO_swap_94 : decode b_MO_swap 94 = .ok (.iload_n 2, 1) := by decide +kernel
theorem d_MO_swap_95 : decode b_MO_swap 95 = .ok (.invokestatic 93, 3) := by decide +kernel
theorem d_MO_swap_98 : decode b_MO_swap 98 = .ok (.iastore, 1) := by decide +kernel
theorem d_MO_swap_99 : decode b_MO_swap 99 = .ok (.iinc 5 1, 3) := by decide +kernel
theorem d_MO_swap_102 : decode b_MO_swap 102 = .ok (.goto (-41), 3) := by decide +kernel
theorem d_MO_swap_105 : decode b_MO_swap 105 = .ok (.iinc 3 1, 3) := by decide +kernel
theorem d_MO_swap_108 : decode b_MO_swap 108 = .ok (.goto (-78), 3) := by decide +kernel
theorem d_MO_swap_111 : decode b_MO_swap 111 = .ok (.aload_n 0, 1) := by decide +kernel
theorem d_MO_swap_112 : decode b_MO_swap 112 = .ok (.invokevirtual 83, 3) := by decide +kernel
theorem d_MO_swap_115 : decode b_MO_swap 115 = .ok (.iconst 0, 1) := by decide +kernel
theorem d_MO_swap_116 : decode b_MO_swap 116 = .ok (.istore_n 3, 1) := by decide +kernel
theorem d_MO_swap_117 : decode b_MO_swap 117 = .ok (.iconst 0, 1) := by decide +kernel
theorem d_MO_swap_118 : decode b_MO_swap 118 = .ok (.istore 4, 2) := by decide +kernel
theorem d_MO_swap_120 : decode b_MO_swap 120 = .ok (.iload 4, 2) := by decide +kernel
theorem d_MO_swap_122 : decode b_MO_swap 122 = .ok (.aload_n 0, 1) := by decide +kernel
theorem d_MO_swap_123 : decode b_MO_swap 123 = .ok (.invokevirtual 60, 3) := by decide +kernel
theorem d_MO_swap_126 : decode b_MO_swap 126 = .ok (.if_icmp .ge 53, 3) := by decide +kernel
theorem d_MO_swap_129 : decode b_MO_swap 129 = .ok (.aload_n 0, 1) := by decide +kernel
theorem d_MO_swap_130 : decode b_MO_swap 130 = .ok (.iload 4, 2) := by decide +kernel
theorem d_MO_swap_132 : decode b_MO_swap 132 = .ok (.invokevirtual 64, 3) := by decide +kernel
theorem d_MO_swap_135 : decode b_MO_swap 135 = .ok (.istore 5, 2) := by decide +kernel
theorem d_MO_swap_137 : decode b_MO_swap 137 = .ok (.aload_n 0, 1) := by decide +kernel
theorem d_MO_swap_138 : decode b_MO_swap 138 = .ok (.getfield 7, 3) := by decide +kernel
theorem d_MO_swap_141 : decode b_MO_swap 141 = .ok (.bipush 37, 2) := by decide +kernel
theorem d_MO_swap_143 : decode b_MO_swap 143 = .ok (.iload 4, 2) := by decide +kernel
theorem d_MO_swap_145 : decode b_MO_swap 145 = .ok (.iadd, 1) := by decide +kernel
theorem d_MO_swap_146 : decode b_MO_swap 146 = .ok (.iload 5, 2) := by decide +kernel
theorem d_MO_swap_148 : decode b_MO_swap 148 = .ok (.iload_n 1, 1) := by decide +kernel
theorem d_MO_swap_149 : decode b_MO_swap 149 = .ok (.iload_n 2, 1) := by decide +kernel
theorem d_MO_swap_150 : decode b_MO_swap 150 = .ok (.invokestatic 93, 3) := by decide +kernel
theorem d_MO_swap_153 : decode b_MO_swap 153 = .ok (.iastore, 1) := by decide +kernel
theorem d_MO_swap_154 : decode b_MO_swap 154 = .ok (.iload_n 3, 1) := by decide +kernel
theorem d_MO_swap_155 : decode b_MO_swap 155 = .ok (.iload 5, 2) := by decide +kernel
theorem d_MO_swap_157 : decode b_MO_swap 157 = .ok (.aload_n 0, 1) := by decide +kernel
theorem d_MO_swap_158 : decode b_MO_swap 158 = .ok (.iload 4, 2) := by decide +kernel
theorem d_MO_swap_160 : decode b_MO_swap 160 = .ok (.invokevirtual 64, 3) := by decide +kernel
theorem d_MO_swap_163 : decode b_MO_swap 163 = .ok (.if_icmp .ne 7, 3) := by decide +kernel
theorem d_MO_swap_166 : decode b_MO_swap 166 = .ok (.iconst 0, 1) := by decide +kernel
theorem d_MO_swap_167 : decode b_MO_swap 167 = .ok (.goto 4, 3) := by decide +kernel
theorem d_MO_swap_170 : decode b_MO_swap 170 = .ok (.iconst 1, 1) := by decide +kernel
theorem d_MO_swap_171 : decode b_MO_swap 171 = .ok (.iadd, 1) := by decide +kernel
theorem d_MO_swap_172 : decode b_MO_swap 172 = .ok (.istore_n 3, 1) := by decide +kernel
theorem d_MO_swap_173 : decode b_MO_swap 173 = .ok (.iinc 4 1, 3) := by decide +kernel
theorem d_MO_swap_176 : decode b_MO_swap 176 = .ok (.goto (-56), 3) := by decide +kernel
theorem d_MO_swap_179 : decode b_MO_swap 179 = .ok (.iload_n 3, 1) := by decide +kernel
theorem d_MO_swap_180 : decode b_MO_swap 180 = .ok (.ireturn, 1) := by decide +kernel
theorem d_MO_takesWord_0 : decode b_MO_takesWord 0 = .ok (.iconst 0, 1) := by decide +kernel
theorem d_MO_takesWord_1 : decode b_MO_takesWord 1 = .ok (.istore_n 1, 1) := by decide +kernel
theorem d_MO_takesWord_2 : decode b_MO_takesWord 2 = .ok (.iload_n 1, 1) := by decide +kernel
theorem d_MO_takesWord_3 : decode b_MO_takesWord 3 = .ok (.aload_n 0, 1) := by decide +kernel
theorem d_MO_takesWord_4 : decode b_MO_takesWord 4 = .ok (.invokevirtual 60, 3) := by decide +kernel
theorem d_MO_takesWord_7 : decode b_MO_takesWord 7 = .ok (.if_icmp .gt 24, 3) := by decide +kernel
theorem d_MO_takesWord_10 : decode b_MO_takesWord 10 = .ok (.aload_n 0, 1) := by decide +kernel
theorem d_MO_takesWord_11 : decode b_MO_takesWord 11 = .ok (.getfield 19, 3) := by decide +kernel
theorem d_MO_takesWord_14 : decode b_MO_takesWord 14 = .ok (.iload_n 1, 1) := by decide +kernel
theorem d_MO_takesWord_15 : decode b_MO_takesWord 15 = .ok (.aload_n 0, 1) := by decide +kernel
theorem d_MO_takesWord_16 : decode b_MO_takesWord 16 = .ok (.getfield 7, 3) := by decide +kernel
theorem d_MO_takesWord_19 : decode b_MO_takesWord 19 = .ok (.bipush 36, 2) := by decide +kernel
theorem d_MO_takesWord_21 : decode b_MO_takesWord 21 = .ok (.iload_n 1, 1) := by decide +kernel
theorem d_MO_takesWord_22 : decode b_MO_takesWord 22 = .ok (.iadd, 1) := by decide +kernel
theorem d_MO_takesWord_23 : decode b_MO_takesWord 23 = .ok (.iaload, 1) := by decide +kernel
theorem d_MO_takesWord_24 : decode b_MO_takesWord 24 = .ok (.iastore, 1) := by decide +kernel
theorem d_MO_takesWord_25 : decode b_MO_takesWord 25 = .ok (.iinc 1 1, 3) := by decide +kernel
theorem d_MO_takesWord_28 : decode b_MO_takesWord 28 = .ok (.goto (-26), 3) := by decide +kernel
theorem d_MO_takesWord_31 : decode b_MO_takesWord 31 = .ok (.return_, 1) := by decide +kernel
theorem d_MO_start_0 : decode b_MO_start 0 = .ok (.iload_n 1, 1) := by decide +kernel
theorem d_MO_start_1 : decode b_MO_start 1 = .ok (.invokestatic 89, 3) := by decide +kernel
theorem d_MO_start_4 : decode b_MO_start 4 = .ok (.ifCond .eq 5, 3) := by decide +kernel
theorem d_MO_start_7 : decode b_MO_start 7 = .ok (.iconst (-1), 1) := by decide +kernel
theorem d_MO_start_8 : decode b_MO_start 8 = .ok (.ireturn, 1) := by decide +kernel
theorem d_MO_start_9 : decode b_MO_start 9 = .ok (.aload_n 0, 1) := by decide +kernel
theorem d_MO_start_10 : decode b_MO_start 10 = .ok (.invokevirtual 60, 3) := by decide +kernel
theorem d_MO_start_13 : decode b_MO_start 13 = .ok (.istore_n 2, 1) := by decide +kernel
theorem d_MO_start_14 : decode b_MO_start 14 = .ok (.iload_n 2, 1) := by decide +kernel
theorem d_MO_start_15 : decode b_MO_start 15 = .ok (.iconst 1, 1) := by decide +kernel
theorem d_MO_start_16 : decode b_MO_start 16 = .ok (.if_icmp .ne 15, 3) := by decide +kernel
theorem d_MO_start_19 : decode b_MO_start 19 = .ok (.aload_n 0, 1) := by decide +kernel
theorem d_MO_start_20 : decode b_MO_start 20 = .ok (.iconst 0, 1) := by decide +kernel
theorem d_MO_start_21 : decode b_MO_start 21 = .ok (.invokevirtual 64, 3) := by decide +kernel
theorem d_MO_start_24 : decode b_MO_start 24 = .ok (.iload_n 1, 1) := by decide +kernel
theorem d_MO_start_25 : decode b_MO_start 25 = .ok (.if_icmp .ne 6, 3) := by decide +kernel
theorem d_MO_start_28 : decode b_MO_start 28 = .ok (.bipush (-5), 2) := by decide +kernel
theorem d_MO_start_30 : decode b_MO_start 30 = .ok (.ireturn, 1) := by decide +kernel
theorem d_MO_start_31 : decode b_MO_start 31 = .ok (.aload_n 0, 1) := by decide +kernel
theorem d_MO_start_32 : decode b_MO_start 32 = .ok (.invokevirtual 80, 3) := by decide +kernel
theorem d_MO_start_35 : decode b_MO_start 35 = .ok (.aload_n 0, 1) := by decide +kernel
theorem d_MO_start_36 : decode b_MO_start 36 = .ok (.getfield 7, 3) := by decide +kernel
theorem d_MO_start_39 : decode b_MO_start 39 = .ok (.bipush 36, 2) := by decide +kernel
theorem d_MO_start_41 : decode b_MO_start 41 = .ok (.iconst 1, 1) := by decide +kernel
theorem d_MO_start_42 : decode b_MO_start 42 = .ok (.iastore, 1) := by decide +kernel
theorem d_MO_start_43 : decode b_MO_start 43 = .ok (.aload_n 0, 1) := by decide +kernel
theorem d_MO_start_44 : decode b_MO_start 44 = .ok (.getfield 7, 3) := by decide +kernel
theorem d_MO_start_47 : decode b_MO_start 47 = .ok (.bipush 37, 2) := by decide +kernel
theorem d_MO_start_49 : decode b_MO_start 49 = .ok (.iload_n 1, 1) := by decide +kernel
theorem d_MO_start_50 : decode b_MO_start 50 = .ok (.iastore, 1) := by decide +kernel
theorem d_MO_start_51 : decode b_MO_start 51 = .ok (.iload_n 2, 1) := by decide +kernel
theorem d_MO_start_52 : decode b_MO_start 52 = .ok (.ireturn, 1) := by decide +kernel
theorem d_MO_grows_0 : decode b_MO_grows 0 = .ok (.iconst 0, 1) := by decide +kernel
theorem d_MO_grows_1 : decode b_MO_grows 1 = .ok (.istore_n 1, 1) := by decide +kernel
theorem d_MO_grows_2 : decode b_MO_grows 2 = .ok (.iload_n 1, 1) := by decide +kernel
theorem d_MO_grows_3 : decode b_MO_grows 3 = .ok (.aload_n 0, 1) := by decide +kernel
theorem d_MO_grows_4 : decode b_MO_grows 4 = .ok (.getfield 19, 3) := by decide +kernel
theorem d_MO_grows_7 : decode b_MO_grows 7 = .ok (.iconst 0, 1) := by decide +kernel
theorem d_MO_grows_8 : decode b_MO_grows 8 = .ok (.iaload, 1) := by decide +kernel
theorem d_MO_grows_9 : decode b_MO_grows 9 = .ok (.if_icmp .gt 21, 3) := by decide +kernel
theorem d_MO_grows_12 : decode b_MO_grows 12 = .ok (.aload_n 0, 1) := by decide +kernel
theorem d_MO_grows_13 : decode b_MO_grows 13 = .ok (.getfield 22, 3) := by decide +kernel
theorem d_MO_grows_16 : decode b_MO_grows 16 = .ok (.iload_n 1, 1) := by decide +kernel
theorem d_MO_grows_17 : decode b_MO_grows 17 = .ok (.aload_n 0, 1) := by decide +kernel
theorem d_MO_grows_18 : decode b_MO_grows 18 = .ok (.getfield 19, 3) := by decide +kernel
theorem d_MO_grows_21 : decode b_MO_grows 21 = .ok (.iload_n 1, 1) := by decide +kernel
theorem d_MO_grows_22 : decode b_MO_grows 22 = .ok (.iaload, 1) := by decide +kernel
theorem d_MO_grows_23 : decode b_MO_grows 23 = .ok (.iastore, 1) := by decide +kernel
theorem d_MO_grows_24 : decode b_MO_grows 24 = .ok (.iinc 1 1, 3) := by decide +kernel
theorem d_MO_grows_27 : decode b_MO_grows 27 = .ok (.goto (-25), 3) := by decide +kernel
theorem d_MO_grows_30 : decode b_MO_grows 30 = .ok (.iconst 0, 1) := by decide +kernel
theorem d_MO_grows_31 : decode b_MO_grows 31 = .ok (.istore_n 1, 1) := by decide +kernel
theorem d_MO_grows_32 : decode b_MO_grows 32 = .ok (.iconst 1, 1) := by decide +kernel
theorem d_MO_grows_33 : decode b_MO_grows 33 = .ok (.istore_n 2, 1) := by decide +kernel
theorem d_MO_grows_34 : decode b_MO_grows 34 = .ok (.iload_n 2, 1) := by decide +kernel
theorem d_MO_grows_35 : decode b_MO_grows 35 = .ok (.aload_n 0, 1) := by decide +kernel
theorem d_MO_grows_36 : decode b_MO_grows 36 = .ok (.getfield 22, 3) := by decide +kernel
theorem d_MO_grows_39 : decode b_MO_grows 39 = .ok (.iconst 0, 1) := by decide +kernel
theorem d_MO_grows_40 : decode b_MO_grows 40 = .ok (.iaload, 1) := by decide +kernel
theorem d_MO_grows_41 : decode b_MO_grows 41 = .ok (.if_icmp .gt 58, 3) := by decide +kernel
theorem d_MO_grows_44 : decode b_MO_grows 44 = .ok (.iconst 0, 1) := by decide +kernel
theorem d_MO_grows_45 : decode b_MO_grows 45 = .ok (.istore_n 3, 1) := by decide +kernel
theorem d_MO_grows_46 : decode b_MO_grows 46 = .ok (.iload_n 3, 1) := by decide +kernel
theorem d_MO_grows_47 : decode b_MO_grows 47 = .ok (.aload_n 0, 1) := by decide +kernel
theorem d_MO_grows_48 : decode b_MO_grows 48 = .ok (.aload_n 0, 1) := by decide +kernel
theorem d_MO_grows_49 : decode b_MO_grows 49 = .ok (.getfield 22, 3) := by decide +kernel
theorem d_MO_grows_52 : decode b_MO_grows 52 = .ok (.iload_n 2, 1) := by decide +kernel
theorem d_MO_grows_53 : decode b_MO_grows 53 = .ok (.iaload, 1) := by decide +kernel
theorem d_MO_grows_54 : decode b_MO_grows 54 = .ok (.invokevirtual 52, 3) := by decide +kernel
theorem d_MO_grows_57 : decode b_MO_grows 57 = .ok (.if_icmp .ge 36, 3) := by decide +kernel
theorem d_MO_grows_60 : decode b_MO_grows 60 = .ok (.iload_n 1, 1) := by decide +kernel
theorem d_MO_grows_61 : decode b_MO_grows 61 = .ok (.sipush 300, 3) := by decide +kernel
theorem d_MO_grows_64 : decode b_MO_grows 64 = .ok (.if_icmp .ge 29, 3) := by decide +kernel
theorem d_MO_grows_67 : decode b_MO_grows 67 = .ok (.iinc 1 1, 3) := by decide +kernel
theorem d_MO_grows_70 : decode b_MO_grows 70 = .ok (.aload_n 0, 1) := by decide +kernel
theorem d_MO_grows_71 : decode b_MO_grows 71 = .ok (.getfield 19, 3) := by decide +kernel
theorem d_MO_grows_74 : decode b_MO_grows 74 = .ok (.iload_n 1, 1) := by decide +kernel
theorem d_MO_grows_75 : decode b_MO_grows 75 = .ok (.aload_n 0, 1) := by decide +kernel
theorem d_MO_grows_76 : decode b_MO_grows 76 = .ok (.aload_n 0, 1) := by decide +kernel
theorem d_MO_grows_77 : decode b_MO_grows 77 = .ok (.getfield 22, 3) := by decide +kernel
theorem d_MO_grows_80 : decode b_MO_grows 80 = .ok (.iload_n 2, 1) := by decide +kernel
theorem d_MO_grows_81 : decode b_MO_grows 81 = .ok (.iaload, 1) := by decide +kernel
theorem d_MO_grows_82 : decode b_MO_grows 82 = .ok (.iload_n 3, 1) := by decide +kernel
theorem d_MO_grows_83 : decode b_MO_grows 83 = .ok (.invokevirtual 56, 3) := by decide +kernel
theorem d_MO_grows_86 : decode b_MO_grows 86 = .ok (.iastore, 1) := by decide +kernel
theorem d_MO_grows_87 : decode b_MO_grows 87 = .ok (.iinc 3 1, 3) := by decide +kernel
theorem d_MO_grows_90 : decode b_MO_grows 90 = .ok (.goto (-44), 3) := by decide +kernel
theorem d_MO_grows_93 : decode b_MO_grows 93 = .ok (.iinc 2 1, 3) := by decide +kernel
theorem d_MO_grows_96 : decode b_MO_grows 96 = .ok (.goto (-62), 3) := by decide +kernel
theorem d_MO_grows_99 : decode b_MO_grows 99 = .ok (.aload_n 0, 1) := by decide +kernel
theorem d_MO_grows_100 : decode b_MO_grows 100 = .ok (.getfield 19, 3) := by decide +kernel
theorem d_MO_grows_103 : decode b_MO_grows 103 = .ok (.iconst 0, 1) := by decide +kernel
theorem d_MO_grows_104 : decode b_MO_grows 104 = .ok (.iload_n 1, 1) := by decide +kernel
theorem d_MO_grows_105 : decode b_MO_grows 105 = .ok (.iastore, 1) := by decide +kernel
theorem d_MO_grows_106 : decode b_MO_grows 106 = .ok (.return_, 1) := by decide +kernel
theorem d_MO_grow_0 : decode b_MO_grow 0 = .ok (.iload_n 1, 1) := by decide +kernel
theorem d_MO_grow_1 : decode b_MO_grow 1 = .ok (.iconst 1, 1) := by decide +kernel
theorem d_MO_grow_2 : decode b_MO_grow 2 = .ok (.bipush 20, 2) := by decide +kernel
theorem d_MO_grow_4 : decode b_MO_grow 4 = .ok (.invokestatic 44, 3) := by decide +kernel
theorem d_MO_grow_7 : decode b_MO_grow 7 = .ok (.ifCond .ne 6, 3) := by decide +kernel
theorem d_MO_grow_10 : decode b_MO_grow 10 = .ok (.bipush (-2), 2) := by decide +kernel
theorem d_MO_grow_12 : decode b_MO_grow 12 = .ok (.ireturn, 1) := by decide +kernel
theorem d_MO_grow_13 : decode b_MO_grow 13 = .ok (.aload_n 0, 1) := by decide +kernel
theorem d_MO_grow_14 : decode b_MO_grow 14 = .ok (.invokevirtual 97, 3) := by decide +kernel
theorem d_MO_grow_17 : decode b_MO_grow 17 = .ok (.iconst 0, 1) := by decide +kernel
theorem d_MO_grow_18 : decode b_MO_grow 18 = .ok (.istore_n 2, 1) := by decide +kernel
theorem d_MO_grow_19 : decode b_MO_grow 19 = .ok (.iload_n 2, 1) := by decide +kernel
theorem d_MO_grow_20 : decode b_MO_grow 20 = .ok (.iload_n 1, 1) := by decide +kernel
theorem d_MO_grow_21 : decode b_MO_grow 21 = .ok (.if_icmp .ge 13, 3) := by decide +kernel
theorem d_MO_grow_24 : decode b_MO_grow 24 = .ok (.aload_n 0, 1) := by decide +kernel
theorem d_MO_grow_25 : decode b_MO_grow 25 = .ok (.invokevirtual 100, 3) := by decide +kernel
theorem d_MO_grow_28 : decode b_MO_grow 28 = .ok (.iinc 2 1, 3) := by decide +kernel
theorem d_MO_grow_31 : decode b_MO_grow 31 = .ok (.goto (-12), 3) := by decide +kernel
theorem d_MO_grow_34 : decode b_MO_grow 34 = .ok (.aload_n 0, 1) := by decide +kernel
theorem d_MO_grow_35 : decode b_MO_grow 35 = .ok (.invokevirtual 103, 3) := by decide +kernel
theorem d_MO_grow_38 : decode b_MO_grow 38 = .ok (.ifCond .eq 6, 3) := by decide +kernel
theorem d_MO_grow_41 : decode b_MO_grow 41 = .ok (.bipush (-5), 2) := by decide +kernel
theorem d_MO_grow_43 : decode b_MO_grow 43 = .ok (.ireturn, 1) := by decide +kernel
theorem d_MO_grow_44 : decode b_MO_grow 44 = .ok (.aload_n 0, 1) := by decide +kernel
theorem d_MO_grow_45 : decode b_MO_grow 45 = .ok (.invokevirtual 80, 3) := by decide +kernel
theorem d_MO_grow_48 : decode b_MO_grow 48 = .ok (.aload_n 0, 1) := by decide +kernel
theorem d_MO_grow_49 : decode b_MO_grow 49 = .ok (.invokevirtual 106, 3) := by decide +kernel
theorem d_MO_grow_52 : decode b_MO_grow 52 = .ok (.aload_n 0, 1) := by decide +kernel
theorem d_MO_grow_53 : decode b_MO_grow 53 = .ok (.invokevirtual 60, 3) := by decide +kernel
theorem d_MO_grow_56 : decode b_MO_grow 56 = .ok (.ireturn, 1) := by decide +kernel
theorem d_MO_cut_0 : decode b_MO_cut 0 = .ok (.aload_n 0, 1) := by decide +kernel
theorem d_MO_cut_1 : decode b_MO_cut 1 = .ok (.invokevirtual 60, 3) := by decide +kernel
theorem d_MO_cut_4 : decode b_MO_cut 4 = .ok (.istore_n 2, 1) := by decide +kernel
theorem d_MO_cut_5 : decode b_MO_cut 5 = .ok (.iload_n 1, 1) := by decide +kernel
theorem d_MO_cut_6 : decode b_MO_cut 6 = .ok (.iconst 1, 1) := by decide +kernel
theorem d_MO_cut_7 : decode b_MO_cut 7 = .ok (.iload_n 2, 1) := by decide +kernel
theorem d_MO_cut_8 : decode b_MO_cut 8 = .ok (.invokestatic 44, 3) := by decide +kernel
theorem d_MO_cut_11 : decode b_MO_cut 11 = .ok (.ifCond .ne 6, 3) := by decide +kernel
theorem d_MO_cut_14 : decode b_MO_cut 14 = .ok (.bipush (-2), 2) := by decide +kernel
theorem d_MO_cut_16 : decode b_MO_cut 16 = .ok (.ireturn, 1) := by decide +kernel
theorem d_MO_cut_17 : decode b_MO_cut 17 = .ok (.iload_n 1, 1) := by decide +kernel
theorem d_MO_cut_18 : decode b_MO_cut 18 = .ok (.iload_n 2, 1) := by decide +kernel
theorem d_MO_cut_19 : decode b_MO_cut 19 = .ok (.if_icmp .ne 6, 3) := by decide +kernel
theorem d_MO_cut_22 : decode b_MO_cut 22 = .ok (.bipush (-5), 2) := by decide +kernel
theorem d_MO_cut_24 : decode b_MO_cut 24 = .ok (.ireturn, 1) := by decide +kernel
theorem d_MO_cut_25 : decode b_MO_cut 25 = .ok (.aload_n 0, 1) := by decide +kernel
theorem d_MO_cut_26 : decode b_MO_cut 26 = .ok (.invokevirtual 80, 3) := by decide +kernel
theorem d_MO_cut_29 : decode b_MO_cut 29 = .ok (.aload_n 0, 1) := by decide +kernel
theorem d_MO_cut_30 : decode b_MO_cut 30 = .ok (.getfield 7, 3) := by decide +kernel
theorem d_MO_cut_33 : decode b_MO_cut 33 = .ok (.bipush 36, 2) := by decide +kernel
theorem d_MO_cut_35 : decode b_MO_cut 35 = .ok (.iload_n 1, 1) := by decide +kernel
theorem d_MO_cut_36 : decode b_MO_cut 36 = .ok (.iastore, 1) := by decide +kernel
theorem d_MO_cut_37 : decode b_MO_cut 37 = .ok (.iload_n 2, 1) := by decide +kernel
theorem d_MO_cut_38 : decode b_MO_cut 38 = .ok (.iload_n 1, 1) := by decide +kernel
theorem d_MO_cut_39 : decode b_MO_cut 39 = .ok (.isub, 1) := by decide +kernel
theorem d_MO_cut_40 : decode b_MO_cut 40 = .ok (.ireturn, 1) := by decide +kernel
theorem d_MO_derive_0 : decode b_MO_derive 0 = .ok (.aload_n 0, 1) := by decide +kernel
theorem d_MO_derive_1 : decode b_MO_derive 1 = .ok (.getfield 7, 3) := by decide +kernel
theorem d_MO_derive_4 : decode b_MO_derive 4 = .ok (.sipush 337, 3) := by decide +kernel
theorem d_MO_derive_7 : decode b_MO_derive 7 = .ok (.iaload, 1) := by decide +kernel
theorem d_MO_derive_8 : decode b_MO_derive 8 = .ok (.ifCond .eq 19, 3) := by decide +kernel
theorem d_MO_derive_11 : decode b_MO_derive 11 = .ok (.aload_n 0, 1) := by decide +kernel
theorem d_MO_derive_12 : decode b_MO_derive 12 = .ok (.invokevirtual 109, 3) := by decide +kernel
theorem d_MO_derive_15 : decode b_MO_derive 15 = .ok (.iconst 2, 1) := by decide +kernel
theorem d_MO_derive_16 : decode b_MO_derive 16 = .ok (.if_icmp .lt 11, 3) := by decide +kernel
theorem d_MO_derive_19 : decode b_MO_derive 19 = .ok (.aload_n 0, 1) := by decide +kernel
theorem d_MO_derive_20 : decode b_MO_derive 20 = .ok (.getfield 112, 3) := by decide +kernel
theorem d_MO_derive_23 : decode b_MO_derive 23 = .ok (.iconst 4, 1) := by decide +kernel
theorem d_MO_derive_24 : decode b_MO_derive 24 = .ok (.if_icmp .le 6, 3) := by decide +kernel
theorem d_MO_derive_27 : decode b_MO_derive 27 = .ok (.bipush (-4), 2) := by decide +kernel
theorem d_MO_derive_29 : decode b_MO_derive 29 = .ok (.ireturn, 1) := by decide +kernel
theorem d_MO_derive_30 : decode b_MO_derive 30 = .ok (.aload_n 0, 1) := by decide +kernel
theorem d_MO_derive_31 : decode b_MO_derive 31 = .ok (.getfield 19, 3) := by decide +kernel
theorem d_MO_derive_34 : decode b_MO_derive 34 = .ok (.iconst 0, 1) := by decide +kernel
theorem d_MO_derive_35 : decode b_MO_derive 35 = .ok (.aload_n 0, 1) := by decide +kernel
theorem d_MO_derive_36 : decode b_MO_derive 36 = .ok (.getfield 115, 3) := by decide +kernel
theorem d_MO_derive_39 : decode b_MO_derive 39 = .ok (.iconst 1, 1) := by decide +kernel
theorem d_MO_derive_40 : decode b_MO_derive 40 = .ok (.isub, 1) := by decide +kernel
theorem d_MO_derive_41 : decode b_MO_derive 41 = .ok (.iastore, 1) := by decide +kernel
theorem d_MO_derive_42 : decode b_MO_derive 42 = .ok (.iconst 0, 1) := by decide +kernel
theorem d_MO_derive_43 : decode b_MO_derive 43 = .ok (.istore_n 1, 1) := by decide +kernel
theorem d_MO_derive_44 : decode b_MO_derive 44 = .ok (.iload_n 1, 1) := by decide +kernel
theorem d_MO_derive_45 : decode b_MO_derive 45 = .ok (.aload_n 0, 1) := by decide +kernel
theorem d_MO_derive_46 : decode b_MO_derive 46 = .ok (.getfield 115, 3) := by decide +kernel
theorem d_MO_derive_49 : decode b_MO_derive 49 = .ok (.iconst 1, 1) := by decide +kernel
theorem d_MO_derive_50 : decode b_MO_derive 50 = .ok (.isub, 1) := by decide +kernel
theorem d_MO_derive_51 : decode b_MO_derive 51 = .ok (.if_icmp .ge 23, 3) := by decide +kernel
theorem d_MO_derive_54 : decode b_MO_derive 54 = .ok (.aload_n 0, 1) := by decide +kernel
theorem d_MO_derive_55 : decode b_MO_derive 55 = .ok (.getfield 19, 3) := by decide +kernel
theorem d_MO_derive_58 : decode b_MO_derive 58 = .ok (.iconst 1, 1) := by decide +kernel
theorem d_MO_derive_59 : decode b_MO_derive 59 = .ok (.iload_n 1, 1) := by decide +kernel
theorem d_MO_derive_60 : decode b_MO_derive 60 = .ok (.iadd, 1) := by decide +kernel
theorem d_MO_derive_61 : decode b_MO_derive 61 = .ok (.aload_n 0, 1) := by decide +kernel
theorem d_MO_derive_62 : decode b_MO_derive 62 = .ok (.getfield 28, 3) := by decide +kernel
theorem d_MO_derive_65 : decode b_MO_derive 65 = .ok (.iload_n 1, 1) := by decide +kernel
theorem d_MO_derive_66 : decode b_MO_derive 66 = .ok (.iaload, 1) := by decide +kernel
theorem d_MO_derive_67 : decode b_MO_derive 67 = .ok (.iastore, 1) := by decide +kernel
theorem d_MO_derive_68 : decode b_MO_derive 68 = .ok (.iinc 1 1, 3) := by decide +kernel
theorem d_MO_derive_71 : decode b_MO_derive 71 = .ok (.goto (-27), 3) := by decide +kernel
theorem d_MO_derive_74 : decode b_MO_derive 74 = .ok (.aload_n 0, 1) := by decide +kernel
theorem d_MO_derive_75 : decode b_MO_derive 75 = .ok (.invokevirtual 103, 3) := by decide +kernel
theorem d_MO_derive_78 : decode b_MO_derive 78 = .ok (.ifCond .eq 6, 3) := by decide +kernel
theorem d_MO_derive_81 : decode b_MO_derive 81 = .ok (.bipush (-5), 2) := by decide +kernel
theorem d_MO_derive_83 : decode b_MO_derive 83 = .ok (.ireturn, 1) := by decide +kernel
theorem d_MO_derive_84 : decode b_MO_derive 84 = .ok (.aload_n 0, 1) := by decide +kernel
theorem d_MO_derive_85 : decode b_MO_derive 85 = .ok (.invokevirtual 80, 3) := by decide +kernel
theorem d_MO_derive_88 : decode b_MO_derive 88 = .ok (.aload_n 0, 1) := by decide +kernel
theorem d_MO_derive_89 : decode b_MO_derive 89 = .ok (.invokevirtual 106, 3) := by decide +kernel
theorem d_MO_derive_92 : decode b_MO_derive 92 = .ok (.aload_n 0, 1) := by decide +kernel
theorem d_MO_derive_93 : decode b_MO_derive 93 = .ok (.invokevirtual 60, 3) := by decide +kernel
theorem d_MO_derive_96 : decode b_MO_derive 96 = .ok (.ireturn, 1) := by decide +kernel
theorem d_MO_comesAt_0 : decode b_MO_comesAt 0 = .ok (.iload_n 1, 1) := by decide +kernel
theorem d_MO_comesAt_1 : decode b_MO_comesAt 1 = .ok (.aload_n 0, 1) := by decide +kernel
theorem d_MO_comesAt_2 : decode b_MO_comesAt 2 = .ok (.getfield 7, 3) := by decide +kernel
theorem d_MO_comesAt_5 : decode b_MO_comesAt 5 = .ok (.sipush 337, 3) := by decide +kernel
theorem d_MO_comesAt_8 : decode b_MO_comesAt 8 = .ok (.iaload, 1) := by decide +kernel
theorem d_MO_comesAt_9 : decode b_MO_comesAt 9 = .ok (.iadd, 1) := by decide +kernel
theorem d_MO_comesAt_10 : decode b_MO_comesAt 10 = .ok (.aload_n 0, 1) := by decide +kernel
theorem d_MO_comesAt_11 : decode b_MO_comesAt 11 = .ok (.invokevirtual 60, 3) := by decide +kernel
theorem d_MO_comesAt_14 : decode b_MO_comesAt 14 = .ok (.if_icmp .gt 7, 3) := by decide +kernel
theorem d_MO_comesAt_17 : decode b_MO_comesAt 17 = .ok (.iconst 1, 1) := by decide +kernel
theorem d_MO_comesAt_18 : decode b_MO_comesAt 18 = .ok (.goto 4, 3) := by decide +kernel
theorem d_MO_comesAt_21 : decode b_MO_comesAt 21 = .ok (.iconst 0, 1) := by decide +kernel
theorem d_MO_comesAt_22 : decode b_MO_comesAt 22 = .ok (.istore_n 2, 1) := by decide +kernel
theorem d_MO_comesAt_23 : decode b_MO_comesAt 23 = .ok (.iconst 0, 1) := by decide +kernel
theorem d_MO_comesAt_24 : decode b_MO_comesAt 24 = .ok (.istore_n 3, 1) := by decide +kernel
theorem d_MO_comesAt_25 : decode b_MO_comesAt 25 = .ok (.iload_n 3, 1) := by decide +kernel
theorem d_MO_comesAt_26 : decode b_MO_comesAt 26 = .ok (.aload_n 0, 1) := by decide +kernel
theorem d_MO_comesAt_27 : decode b_MO_comesAt 27 = .ok (.getfield 7, 3) := by decide +kernel
theorem d_MO_comesAt_30 : decode b_MO_comesAt 30 = .ok (.sipush 337, 3) := by decide +kernel
theorem d_MO_comesAt_33 : decode b_MO_comesAt 33 = .ok (.iaload, 1) := by decide +kernel
theorem d_MO_comesAt_34 : decode b_MO_comesAt 34 = .ok (.if_icmp .ge 39, 3) := by decide +kernel
theorem d_MO_comesAt_37 : decode b_MO_comesAt 37 = .ok (.iload_n 2, 1) := by decide +kernel
theorem d_MO_comesAt_38 : decode b_MO_comesAt 38 = .ok (.ifCond .eq 35, 3) := by decide +kernel
theorem d_MO_comesAt_41 : decode b_MO_comesAt 41 = .ok (.aload_n 0, 1) := by decide +kernel
theorem d_MO_comesAt_42 : decode b_MO_comesAt 42 = .ok (.iload_n 1, 1) := by decide +kernel
theorem d_MO_comesAt_43 : decode b_MO_comesAt 43 = .ok (.iload_n 3, 1) := by decide +kernel
theorem d_MO_comesAt_44 : decode b_MO_comesAt 44 = .ok (.iadd, 1) := by decide +kernel
theorem d_MO_comesAt_45 : decode b_MO_comesAt 45 = .ok (.invokevirtual 64, 3) := by decide +kernel
theorem d_MO_comesAt_48 : decode b_MO_comesAt 48 = .ok (.aload_n 0, 1) := by decide +kernel
theorem d_MO_comesAt_49 : decode b_MO_comesAt 49 = .ok (.getfield 7, 3) := by decide +kernel
theorem d_MO_comesAt_52 : decode b_MO_comesAt 52 = .ok (.sipush 338, 3) := by decide +kernel
theorem d_MO_comesAt_55 : decode b_MO_comesAt 55 = .ok (.iload_n 3, 1) := by decide +kernel
theorem d_MO_comesAt_56 : decode b_MO_comesAt 56 = .ok (.iadd, 1) := by decide +kernel
theorem d_MO_comesAt_57 : decode b_MO_comesAt 57 = .ok (.iaload, 1) := by decide +kernel
theorem d_MO_comesAt_58 : decode b_MO_comesAt 58 = .ok (.if_icmp .ne 7, 3) := by decide +kernel
theorem d_MO_comesAt_61 : decode b_MO_comesAt 61 = .ok (.iconst 1, 1) := by decide +kernel
theorem d_MO_comesAt_62 : decode b_MO_comesAt 62 = .ok (.goto 4, 3) := by decide +kernel
theorem d_MO_comesAt_65 : decode b_MO_comesAt 65 = .ok (.iconst 0, 1) := by decide +kernel
theorem d_MO_comesAt_66 : decode b_MO_comesAt 66 = .ok (.istore_n 2, 1) := by decide +kernel
theorem d_MO_comesAt_67 : decode b_MO_comesAt 67 = .ok (.iinc 3 1, 3) := by decide +kernel
theorem d_MO_comesAt_70 : decode b_MO_comesAt 70 = .ok (.goto (-45), 3) := by decide +kernel
theorem d_MO_comesAt_73 : decode b_MO_comesAt 73 = .ok (.iload_n 2, 1) := by decide +kernel
theorem d_MO_comesAt_74 : decode b_MO_comesAt 74 = .ok (.ireturn, 1) := by decide +kernel
theorem d_MO_gap_0 : decode b_MO_gap 0 = .ok (.aload_n 0, 1) := by decide +kernel
theorem d_MO_gap_1 : decode b_MO_gap 1 = .ok (.getfield 25, 3) := by decide +kernel
theorem d_MO_gap_4 : decode b_MO_gap 4 = .ok (.iload_n 1, 1) := by decide +kernel
theorem d_MO_gap_5 : decode b_MO_gap 5 = .ok (.iconst 1, 1) := by decide +kernel
theorem d_MO_gap_6 : decode b_MO_gap 6 = .ok (.iadd, 1) := by decide +kernel
theorem d_MO_gap_7 : decode b_MO_gap 7 = .ok (.iaload, 1) := by decide +kernel
theorem d_MO_gap_8 : decode b_MO_gap 8 = .ok (.aload_n 0, 1) := by decide +kernel
theorem d_MO_gap_9 : decode b_MO_gap 9 = .ok (.getfield 25, 3) := by decide +kernel
theorem d_MO_gap_12 : decode b_MO_gap 12 = .ok (.iload_n 1, 1) := by decide +kernel
theorem d_MO_gap_13 : decode b_MO_gap 13 = .ok (.iaload, 1) := by decide +kernel
theorem d_MO_gap_14 : decode b_MO_gap 14 = .ok (.isub, 1) := by decide +kernel
theorem d_MO_gap_15 : decode b_MO_gap 15 = .ok (.ireturn, 1) := by decide +kernel
theorem d_MO_areSame_0 : decode b_MO_areSame 0 = .ok (.aload_n 0, 1) := by decide +kernel
theorem d_MO_areSame_1 : decode b_MO_areSame 1 = .ok (.iload_n 1, 1) := by decide +kernel
theorem d_MO_areSame_2 : decode b_MO_areSame 2 = .ok (.invokevirtual 118, 3) := by decide +kernel
theorem d_MO_areSame_5 : decode b_MO_areSame 5 = .ok (.aload_n 0, 1) := by decide +kernel
theorem d_MO_areSame_6 : decode b_MO_areSame 6 = .ok (.iload_n 2, 1) := by decide +kernel
theorem d_MO_areSame_7 : decode b_MO_areSame 7 = .ok (.invokevirtual 118, 3) := by decide +kernel
theorem d_MO_areSame_10 : decode b_MO_areSame 10 = .ok (.if_icmp .ne 7, 3) := by decide +kernel
theorem d_MO_areSame_13 : decode b_MO_areSame 13 = .ok (.iconst 1, 1) := by decide +kernel
theorem d_MO_areSame_14 : decode b_MO_areSame 14 = .ok (.goto 4, 3) := by decide +kernel
theorem d_MO_areSame_17 : decode b_MO_areSame 17 = .ok (.iconst 0, 1) := by decide +kernel
theorem d_MO_areSame_18 : decode b_MO_areSame 18 = .ok (.istore_n 3, 1) := by decide +kernel
theorem d_MO_areSame_19 : decode b_MO_areSame 19 = .ok (.iconst 0, 1) := by decide +kernel
theorem d_MO_areSame_20 : decode b_MO_areSame 20 = .ok (.istore 4, 2) := by decide +kernel
theorem d_MO_areSame_22 : decode b_MO_areSame 22 = .ok (.iload 4, 2) := by decide +kernel
theorem d_MO_areSame_24 : decode b_MO_areSame 24 = .ok (.aload_n 0, 1) := by decide +kernel
theorem d_MO_areSame_25 : decode b_MO_areSame 25 = .ok (.iload_n 1, 1) := by decide +kernel
theorem d_MO_areSame_26 : decode b_MO_areSame 26 = .ok (.invokevirtual 118, 3) := by decide +kernel
theorem d_MO_areSame_29 : decode b_MO_areSame 29 = .ok (.if_icmp .ge 48, 3) := by decide +kernel
theorem d_MO_areSame_32 : decode b_MO_areSame 32 = .ok (.iload_n 3, 1) := by decide +kernel
theorem d_MO_areSame_33 : decode b_MO_areSame 33 = .ok (.ifCond .eq 44, 3) := by decide +kernel
theorem d_MO_areSame_36 : decode b_MO_areSame 36 = .ok (.aload_n 0, 1) := by decide +kernel
theorem d_MO_areSame_37 : decode b_MO_areSame 37 = .ok (.aload_n 0, 1) := by decide +kernel
theorem d_MO_areSame_38 : decode b_MO_areSame 38 = .ok (.getfield 25, 3) := by decide +kernel
theorem d_MO_areSame_41 : decode b_MO_areSame 41 = .ok (.iload_n 1, 1) := by decide +kernel
theorem d_MO_areSame_42 : decode b_MO_areSame 42 = .ok (.iaload, 1) := by decide +kernel
theorem d_MO_areSame_43 : decode b_MO_areSame 43 = .ok (.iload 4, 2) := by decide +kernel
theorem d_MO_areSame_45 : decode b_MO_areSame 45 = .ok (.iadd, 1) := by decide +kernel
theorem d_MO_areSame_46 : decode b_MO_areSame 46 = .ok (.invokevirtual 64, 3) := by decide +kernel
theorem d_MO_areSame_49 : decode b_MO_areSame 49 = .ok (.aload_n 0, 1) := by decide +kernel
theorem d_MO_areSame_50 : decode b_MO_areSame 50 = .ok (.aload_n 0, 1) := by decide +kernel
theorem d_MO_areSame_51 : decode b_MO_areSame 51 = .ok (.getfield 25, 3) := by decide +kernel
theorem d_MO_areSame_54 : decode b_MO_areSame 54 = .ok (.iload_n 2, 1) := by decide +kernel
theorem d_MO_areSame_55 : decode b_MO_areSame 55 = .ok (.iaload, 1) := by decide +kernel
theorem d_MO_areSame_56 : decode b_MO_areSame 56 = .ok (.iload 4, 2) := by decide +kernel
theorem d_MO_areSame_58 : decode b_MO_areSame 58 = .ok (.iadd, 1) := by decide +kernel
theorem d_MO_areSame_59 : decode b_MO_areSame 59 = .ok (.invokevirtual 64, 3) := by decide +kernel
theorem d_MO_areSame_62 : decode b_MO_areSame 62 = .ok (.if_icmp .ne 7, 3) := by decide +kernel
theorem d_MO_areSame_65 : decode b_MO_areSame 65 = .ok (.iconst 1, 1) := by decide +kernel
theorem d_MO_areSame_66 : decode b_MO_areSame 66 = .ok (.goto 4, 3) := by decide +kernel
theorem d_MO_areSame_69 : decode b_MO_areSame 69 = .ok (.iconst 0, 1) := by decide +kernel
theorem d_MO_areSame_70 : decode b_MO_areSame 70 = .ok (.istore_n 3, 1) := by decide +kernel
theorem d_MO_areSame_71 : decode b_MO_areSame 71 = .ok (.iinc 4 1, 3) := by decide +kernel
theorem d_MO_areSame_74 : decode b_MO_areSame 74 = .ok (.goto (-52), 3) := by decide +kernel
theorem d_MO_areSame_77 : decode b_MO_areSame 77 = .ok (.iload_n 3, 1) := by decide +kernel
theorem d_MO_areSame_78 : decode b_MO_areSame 78 = .ok (.ireturn, 1) := by decide +kernel
theorem d_MO_finds_0 : decode b_MO_finds 0 = .ok (.aload_n 0, 1) := by decide +kernel
theorem d_MO_finds_1 : decode b_MO_finds 1 = .ok (.iconst 0, 1) := by decide +kernel
theorem d_MO_finds_2 : decode b_MO_finds 2 = .ok (.putfield 115, 3) := by decide +kernel
theorem d_MO_finds_5 : decode b_MO_finds 5 = .ok (.aload_n 0, 1) := by decide +kernel
theorem d_MO_finds_6 : decode b_MO_finds 6 = .ok (.iconst 0, 1) := by decide +kernel
theorem d_MO_finds_7 : decode b_MO_finds 7 = .ok (.putfield 112, 3) := by decide +kernel
theorem d_MO_finds_10 : decode b_MO_finds 10 = .ok (.iconst 0, 1) := by decide +kernel
theorem d_MO_finds_11 : decode b_MO_finds 11 = .ok (.istore_n 1, 1) := by decide +kernel
theorem d_MO_finds_12 : decode b_MO_finds 12 = .ok (.iload_n 1, 1) := by decide +kernel
theorem d_MO_finds_13 : decode b_MO_finds 13 = .ok (.aload_n 0, 1) := by decide +kernel
theorem d_MO_finds_14 : decode b_MO_finds 14 = .ok (.invokevirtual 60, 3) := by decide +kernel
theorem d_MO_finds_17 : decode b_MO_finds 17 = .ok (.if_icmp .ge 37, 3) := by decide +kernel
theorem d_MO_finds_20 : decode b_MO_finds 20 = .ok (.aload_n 0, 1) := by decide +kernel
theorem d_MO_finds_21 : decode b_MO_finds 21 = .ok (.iload_n 1, 1) := by decide +kernel
theorem d_MO_finds_22 : decode b_MO_finds 22 = .ok (.invokevirtual 121, 3) := by decide +kernel
theorem d_MO_finds_25 : decode b_MO_finds 25 = .ok (.ifCond .eq 23, 3) := by decide +kernel
theorem d_MO_finds_28 : decode b_MO_finds 28 = .ok (.aload_n 0, 1) := by decide +kernel
theorem d_MO_finds_29 : decode b_MO_finds 29 = .ok (.getfield 25, 3) := by decide +kernel
theorem d_MO_finds_32 : decode b_MO_finds 32 = .ok (.aload_n 0, 1) := by decide +kernel
theorem d_MO_finds_33 : decode b_MO_finds 33 = .ok (.getfield 115, 3) := by decide +kernel
theorem d_MO_finds_36 : decode b_MO_finds 36 = .ok (.iload_n 1, 1) := by decide +kernel
theorem d_MO_finds_37 : decode b_MO_finds 37 = .ok (.iastore, 1) := by decide +kernel
theorem d_MO_finds_38 : decode b_MO_finds 38 = .ok (.aload_n 0, 1) := by decide +kernel
theorem d_MO_finds_39 : decode b_MO_finds 39 = .ok (.dup, 1) := by decide +kernel
theorem d_MO_finds_40 : decode b_MO_finds 40 = .ok (.getfield 115, 3) := by decide +kernel
theorem d_MO_finds_43 : decode b_MO_finds 43 = .ok (.iconst 1, 1) := by decide +kernel
theorem d_MO_finds_44 : decode b_MO_finds 44 = .ok (.iadd, 1) := by decide +kernel
theorem d_MO_finds_45 : decode b_MO_finds 45 = .ok (.putfield 115, 3) := by decide +kernel
theorem d_MO_finds_48 : decode b_MO_finds 48 = .ok (.iinc 1 1, 3) := by decide +kernel
theorem d_MO_finds_51 : decode b_MO_finds 51 = .ok (.goto (-39), 3) := by decide +kernel
theorem d_MO_finds_54 : decode b_MO_finds 54 = .ok (.iconst 0, 1) := by decide +kernel
theorem d_MO_finds_55 : decode b_MO_finds 55 = .ok (.istore_n 1, 1) := by decide +kernel
theorem d_MO_finds_56 : decode b_MO_finds 56 = .ok (.iload_n 1, 1) := by decide +kernel
theorem d_MO_finds_57 : decode b_MO_finds 57 = .ok (.aload_n 0, 1) := by decide +kernel
theorem d_MO_finds_58 : decode b_MO_finds 58 = .ok (.getfield 115, 3) := by decide +kernel
theorem d_MO_finds_61 : decode b_MO_finds 61 = .ok (.iconst 1, 1) := by decide +kernel
theorem d_MO_finds_62 : decode b_MO_finds 62 = .ok (.isub, 1) := by decide +kernel
theorem d_MO_finds_63 : decode b_MO_finds 63 = .ok (.if_icmp .ge 74, 3) := by decide +kernel
theorem d_MO_finds_66 : decode b_MO_finds 66 = .ok (.iconst 0, 1) := by decide +kernel
theorem d_MO_finds_67 : decode b_MO_finds 67 = .ok (.istore_n 2, 1) := by decide +kernel
theorem d_MO_finds_68 : decode b_MO_finds 68 = .ok (.iload_n 2, 1) := by decide +kernel
theorem d_MO_finds_69 : decode b_MO_finds 69 = .ok (.iload_n 1, 1) := by decide +kernel
theorem d_MO_finds_70 : decode b_MO_finds 70 = .ok (.if_icmp .ge 18, 3) := by decide +kernel
theorem d_MO_finds_73 : decode b_MO_finds 73 = .ok (.aload_n 0, 1) := by decide +kernel
theorem d_MO_finds_74 : decode b_MO_finds 74 = .ok (.iload_n 1, 1) := by decide +kernel
theorem d_MO_finds_75 : decode b_MO_finds 75 = .ok (.iload_n 2, 1) := by decide +kernel
theorem d_MO_finds_76 : decode b_MO_finds 76 = .ok (.invokevirtual 124, 3) := by decide +kernel
theorem d_MO_finds_79 : decode b_MO_finds 79 = .ok (.ifCond .ne 9, 3) := by decide +kernel
theorem d_MO_finds_82 : decode b_MO_finds 82 = .ok (.iinc 2 1, 3) := by decide +kernel
theorem d_MO_finds_85 : decode b_MO_finds 85 = .ok (.goto (-17), 3) := by decide +kernel
theorem d_MO_finds_88 : decode b_MO_finds 88 = .ok (.aload_n 0, 1) := by decide +kernel
theorem d_MO_finds_89 : decode b_MO_finds 89 = .ok (.getfield 28, 3) := by decide +kernel
theorem d_MO_finds_92 : decode b_MO_finds 92 = .ok (.iload_n 1, 1) := by decide +kernel
theorem d_MO_finds_93 : decode b_MO_finds 93 = .ok (.iload_n 2, 1) := by decide +kernel
theorem d_MO_finds_94 : decode b_MO_finds 94 = .ok (.iload_n 1, 1) := by decide +kernel
theorem d_MO_finds_95 : decode b_MO_finds 95 = .ok (.if_icmp .ge 12, 3) := by decide +kernel
theorem d_MO_finds_98 : decode b_MO_finds 98 = .ok (.aload_n 0, 1) := by decide +kernel
theorem d_MO_finds_99 : decode b_MO_finds 99 = .ok (.getfield 28, 3) := by decide +kernel
theorem d_MO_finds_102 : decode b_MO_finds 102 = .ok (.iload_n 2, 1) := by decide +kernel
theorem d_MO_finds_103 : decode b_MO_finds 103 = .ok (.iaload, 1) := by decide +kernel
theorem d_MO_finds_104 : decode b_MO_finds 104 = .ok (.goto 7, 3) := by decide +kernel
theorem d_MO_finds_107 : decode b_MO_finds 107 = .ok (.aload_n 0, 1) := by decide +kernel
theorem d_MO_finds_108 : decode b_MO_finds 108 = .ok (.getfield 112, 3) := by decide +kernel
theorem d_MO_finds_111 : decode b_MO_finds 111 = .ok (.iastore, 1) := by decide +kernel
theorem d_MO_finds_112 : decode b_MO_finds 112 = .ok (.aload_n 0, 1) := by decide +kernel
theorem d_MO_finds_113 : decode b_MO_finds 113 = .ok (.dup, 1) := by decide +kernel
theorem d_MO_finds_114 : decode b_MO_finds 114 = .ok (.getfield 112, 3) := by decide +kernel
theorem d_MO_finds_117 : decode b_MO_finds 117 = .ok (.iload_n 2, 1) := by decide +kernel
theorem d_MO_finds_118 : decode b_MO_finds 118 = .ok (.iload_n 1, 1) := by decide +kernel
theorem d_MO_finds_119 : decode b_MO_finds 119 = .ok (.if_icmp .ge 7, 3) := by decide +kernel
theorem d_MO_finds_122 : decode b_MO_finds 122 = .ok (.iconst 0, 1) := by decide +kernel
theorem d_MO_finds_123 : decode b_MO_finds 123 = .ok (.goto 4, 3) := by decide +kernel
theorem d_MO_finds_126 : decode b_MO_finds 126 = .ok (.iconst 1, 1) := by decide +kernel
theorem d_MO_finds_127 : decode b_MO_finds 127 = .ok (.iadd, 1) := by decide +kernel
theorem d_MO_finds_128 : decode b_MO_finds 128 = .ok (.putfield 112, 3) := by decide +kernel
theorem d_MO_finds_131 : decode b_MO_finds 131 = .ok (.iinc 1 1, 3) := by decide +kernel
theorem d_MO_finds_134 : decode b_MO_finds 134 = .ok (.goto (-78), 3) := by decide +kernel
theorem d_MO_finds_137 : decode b_MO_finds 137 = .ok (.aload_n 0, 1) := by decide +kernel
theorem d_MO_finds_138 : decode b_MO_finds 138 = .ok (.getfield 115, 3) := by decide +kernel
theorem d_MO_finds_141 : decode b_MO_finds 141 = .ok (.ireturn, 1) := by decide +kernel
theorem d_MO_look_0 : decode b_MO_look 0 = .ok (.aload_n 0, 1) := by decide +kernel
theorem d_MO_look_1 : decode b_MO_look 1 = .ok (.invokevirtual 128, 3) := by decide +kernel
theorem d_MO_look_4 : decode b_MO_look 4 = .ok (.istore_n 1, 1) := by decide +kernel
theorem d_MO_look_5 : decode b_MO_look 5 = .ok (.iload_n 1, 1) := by decide +kernel
theorem d_MO_look_6 : decode b_MO_look 6 = .ok (.bipush (-5), 2) := by decide +kernel
theorem d_MO_look_8 : decode b_MO_look 8 = .ok (.if_icmp .ne 11, 3) := by decide +kernel
theorem d_MO_look_11 : decode b_MO_look 11 = .ok (.bipush (-100), 2) := by decide +kernel
theorem d_MO_look_13 : decode b_MO_look 13 = .ok (.aload_n 0, 1) := by decide +kernel
theorem d_MO_look_14 : decode b_MO_look 14 = .ok (.getfield 73, 3) := by decide +kernel
theorem d_MO_look_17 : decode b_MO_look 17 = .ok (.isub, 1) := by decide +kernel
theorem d_MO_look_18 : decode b_MO_look 18 = .ok (.ireturn, 1) := by decide +kernel
theorem d_MO_look_19 : decode b_MO_look 19 = .ok (.aload_n 0, 1) := by decide +kernel
theorem d_MO_look_20 : decode b_MO_look 20 = .ok (.getfield 7, 3) := by decide +kernel
theorem d_MO_look_23 : decode b_MO_look 23 = .ok (.sipush 337, 3) := by decide +kernel
theorem d_MO_look_26 : decode b_MO_look 26 = .ok (.iaload, 1) := by decide +kernel
theorem d_MO_look_27 : decode b_MO_look 27 = .ok (.iload_n 1, 1) := by decide +kernel
theorem d_MO_look_28 : decode b_MO_look 28 = .ok (.if_icmp .ne 7, 3) := by decide +kernel
theorem d_MO_look_31 : decode b_MO_look 31 = .ok (.iconst 1, 1) := by decide +kernel
theorem d_MO_look_32 : decode b_MO_look 32 = .ok (.goto 4, 3) := by decide +kernel
theorem d_MO_look_35 : decode b_MO_look 35 = .ok (.iconst 0, 1) := by decide +kernel
theorem d_MO_look_36 : decode b_MO_look 36 = .ok (.istore_n 2, 1) := by decide +kernel
theorem d_MO_look_37 : decode b_MO_look 37 = .ok (.iconst 0, 1) := by decide +kernel
theorem d_MO_look_38 : decode b_MO_look 38 = .ok (.istore_n 3, 1) := by decide +kernel
theorem d_MO_look_39 : decode b_MO_look 39 = .ok (.iload_n 3, 1) := by decide +kernel
theorem d_MO_look_40 : decode b_MO_look 40 = .ok (.iload_n 1, 1) := by decide +kernel
theorem d_MO_look_41 : decode b_MO_look 41 = .ok (.if_icmp .ge 41, 3) := by decide +kernel
theorem d_MO_look_44 : decode b_MO_look 44 = .ok (.iload_n 2, 1) := by decide +kernel
theorem d_MO_look_45 : decode b_MO_look 45 = .ok (.ifCond .eq 37, 3) := by decide +kernel
theorem d_MO_look_48 : decode b_MO_look 48 = .ok (.aload_n 0, 1) := by decide +kernel
theorem d_MO_look_49 : decode b_MO_look 49 = .ok (.getfield 7, 3) := by decide +kernel
theorem d_MO_look_52 : decode b_MO_look 52 = .ok (.sipush 338, 3) := by decide +kernel
theorem d_MO_look_55 : decode b_MO_look 55 = .ok (.iload_n 3, 1) := by decide +kernel
theorem d_MO_look_56 : decode b_MO_look 56 = .ok (.iadd, 1) := by decide +kernel
theorem d_MO_look_57 : decode b_MO_look 57 = .ok (.iaload, 1) := by decide +kernel
theorem d_MO_look_58 : decode b_MO_look 58 = .ok (.aload_n 0, 1) := by decide +kernel
theorem d_MO_look_59 : decode b_MO_look 59 = .ok (.getfield 31, 3) := by decide +kernel
theorem d_MO_look_62 : decode b_MO_look 62 = .ok (.iload_n 3, 1) := by decide +kernel
theorem d_MO_look_63 : decode b_MO_look 63 = .ok (.caload, 1) := by decide +kernel
theorem d_MO_look_64 : decode b_MO_look 64 = .ok (.bipush 97, 2) := by decide +kernel
theorem d_MO_look_66 : decode b_MO_look 66 = .ok (.isub, 1) := by decide +kernel
theorem d_MO_look_67 : decode b_MO_look 67 = .ok (.if_icmp .ne 7, 3) := by decide +kernel
theorem d_MO_look_70 : decode b_MO_look 70 = .ok (.iconst 1, 1) := by decide +kernel
theorem d_MO_look_71 : decode b_MO_look 71 = .ok (.goto 4, 3) := by decide +kernel
theorem d_MO_look_74 : decode b_MO_look 74 = .ok (.iconst 0, 1) := by decide +kernel
theorem d_MO_look_75 : decode b_MO_look 75 = .ok (.istore_n 2, 1) := by decide +kernel
theorem d_MO_look_76 : decode b_MO_look 76 = .ok (.iinc 3 1, 3) := by decide +kernel
theorem d_MO_look_79 : decode b_MO_look 79 = .ok (.goto (-40), 3) := by decide +kernel
theorem d_MO_look_82 : decode b_MO_look 82 = .ok (.iload_n 2, 1) := by decide +kernel
theorem d_MO_look_83 : decode b_MO_look 83 = .ok (.ifCond .eq 6, 3) := by decide +kernel
theorem d_MO_look_86 : decode b_MO_look 86 = .ok (.bipush (-5), 2) := by decide +kernel
theorem d_MO_look_88 : decode b_MO_look 88 = .ok (.ireturn, 1) := by decide +kernel
theorem d_MO_look_89 : decode b_MO_look 89 = .ok (.aload_n 0, 1) := by decide +kernel
theorem d_MO_look_90 : decode b_MO_look 90 = .ok (.invokevirtual 80, 3) := by decide +kernel
theorem d_MO_look_93 : decode b_MO_look 93 = .ok (.aload_n 0, 1) := by decide +kernel
theorem d_MO_look_94 : decode b_MO_look 94 = .ok (.getfield 7, 3) := by decide +kernel
theorem d_MO_look_97 : decode b_MO_look 97 = .ok (.sipush 337, 3) := by decide +kernel
theorem d_MO_look_100 : decode b_MO_look 100 = .ok (.iload_n 1, 1) := by decide +kernel
theorem d_MO_look_101 : decode b_MO_look 101 = .ok (.iastore, 1) := by decide +kernel
theorem d_MO_look_102 : decode b_MO_look 102 = .ok (.iconst 0, 1) := by decide +kernel
theorem d_MO_look_103 : decode b_MO_look 103 = .ok (.istore_n 3, 1) := by decide +kernel
theorem d_MO_look_104 : decode b_MO_look 104 = .ok (.iload_n 3, 1) := by decide +kernel
theorem d_MO_look_105 : decode b_MO_look 105 = .ok (.iload_n 1, 1) := by decide +kernel
theorem d_MO_look_106 : decode b_MO_look 106 = .ok (.if_icmp .ge 28, 3) := by decide +kernel
theorem d_MO_look_109 : decode b_MO_look 109 = .ok (.aload_n 0, 1) := by decide +kernel
theorem d_MO_look_110 : decode b_MO_look 110 = .ok (.getfield 7, 3) := by decide +kernel
theorem d_MO_look_113 : decode b_MO_look 113 = .ok (.sipush 338, 3) := by decide +kernel
theorem d_MO_look_116 : decode b_MO_look 116 = .ok (.iload_n 3, 1) := by decide +kernel
theorem d_MO_look_117 : decode b_MO_look 117 = .ok (.iadd, 1) := by decide +kernel
theorem d_MO_look_118 : decode b_MO_look 118 = .ok (.aload_n 0, 1) := by decide +kernel
theorem d_MO_look_119 : decode b_MO_look 119 = .ok (.getfield 31, 3) := by decide +kernel
theorem d_MO_look_122 : decode b_MO_look 122 = .ok (.iload_n 3, 1) := by decide +kernel
theorem d_MO_look_123 : decode b_MO_look 123 = .ok (.caload, 1) := by decide +kernel
theorem d_MO_look_124 : decode b_MO_look 124 = .ok (.bipush 97, 2) := by decide +kernel
theorem d_MO_look_126 : decode b_MO_look 126 = .ok (.isub, 1) := by decide +kernel
theorem d_MO_look_127 : decode b_MO_look 127 = .ok (.iastore, 1) := by decide +kernel
theorem d_MO_look_128 : decode b_MO_look 128 = .ok (.iinc 3 1, 3) := by decide +kernel
theorem d_MO_look_131 : decode b_MO_look 131 = .ok (.goto (-27), 3) := by decide +kernel
theorem d_MO_look_134 : decode b_MO_look 134 = .ok (.aload_n 0, 1) := by decide +kernel
theorem d_MO_look_135 : decode b_MO_look 135 = .ok (.invokevirtual 109, 3) := by decide +kernel
theorem d_MO_look_138 : decode b_MO_look 138 = .ok (.ireturn, 1) := by decide +kernel
theorem d_MO_type_0 : decode b_MO_type 0 = .ok (.aload_n 0, 1) := by decide +kernel
theorem d_MO_type_1 : decode b_MO_type 1 = .ok (.getfield 131, 3) := by decide +kernel
theorem d_MO_type_4 : decode b_MO_type 4 = .ok (.bipush 60, 2) := by decide +kernel
theorem d_MO_type_6 : decode b_MO_type 6 = .ok (.if_icmp .ne 6, 3) := by decide +kernel
theorem d_MO_type_9 : decode b_MO_type 9 = .ok (.bipush (-3), 2) := by decide +kernel
theorem d_MO_type_11 : decode b_MO_type 11 = .ok (.ireturn, 1) := by decide +kernel
theorem d_MO_type_12 : decode b_MO_type 12 = .ok (.aload_n 0, 1) := by decide +kernel
theorem d_MO_type_13 : decode b_MO_type 13 = .ok (.getfield 31, 3) := by decide +kernel
theorem d_MO_type_16 : decode b_MO_type 16 = .ok (.aload_n 0, 1) := by decide +kernel
theorem d_MO_type_17 : decode b_MO_type 17 = .ok (.getfield 131, 3) := by decide +kernel
theorem d_MO_type_20 : decode b_MO_type 20 = .ok (.iload_n 1, 1) := by decide +kernel
theorem d_MO_type_21 : decode b_MO_type 21 = .ok (.castore, 1) := by decide +kernel
theorem d_MO_type_22 : decode b_MO_type 22 = .ok (.aload_n 0, 1) := by decide +kernel
theorem d_MO_type_23 : decode b_MO_type 23 = .ok (.dup, 1) := by decide +kernel
theorem d_MO_type_24 : decode b_MO_type 24 = .ok (.getfield 131, 3) := by decide +kernel
theorem d_MO_type_27 : decode b_MO_type 27 = .ok (.iconst 1, 1) := by decide +kernel
theorem d_MO_type_28 : decode b_MO_type 28 = .ok (.iadd, 1) := by decide +kernel
theorem d_MO_type_29 : decode b_MO_type 29 = .ok (.putfield 131, 3) := by decide +kernel
theorem d_MO_type_32 : decode b_MO_type 32 = .ok (.aload_n 0, 1) := by decide +kernel
theorem d_MO_type_33 : decode b_MO_type 33 = .ok (.getfield 131, 3) := by decide +kernel
theorem d_MO_type_36 : decode b_MO_type 36 = .ok (.ireturn, 1) := by decide +kernel
theorem d_MO_clearText_0 : decode b_MO_clearText 0 = .ok (.aload_n 0, 1) := by decide +kernel
theorem d_MO_clearText_1 : decode b_MO_clearText 1 = .ok (.getfield 131, 3) := by decide +kernel
theorem d_MO_clearText_4 : decode b_MO_clearText 4 = .ok (.istore_n 1, 1) := by decide +kernel
theorem d_MO_clearText_5 : decode b_MO_clearText 5 = .ok (.aload_n 0, 1) := by decide +kernel
theorem d_MO_clearText_6 : decode b_MO_clearText 6 = .ok (.iconst 0, 1) := by decide +kernel
theorem d_MO_clearText_7 : decode b_MO_clearText 7 = .ok (.putfield 131, 3) := by decide +kernel
theorem d_MO_clearText_10 : decode b_MO_clearText 10 = .ok (.iload_n 1, 1) := by decide +kernel
theorem d_MO_clearText_11 : decode b_MO_clearText 11 = .ok (.ireturn, 1) := by decide +kernel
theorem d_MO_isLetter_0 : decode b_MO_isLetter 0 = .ok (.aload_n 0, 1) := by decide +kernel
theorem d_MO_isLetter_1 : decode b_MO_isLetter 1 = .ok (.getfield 73, 3) := by decide +kernel
theorem d_MO_isLetter_4 : decode b_MO_isLetter 4 = .ok (.aload_n 0, 1) := by decide +kernel
theorem d_MO_isLetter_5 : decode b_MO_isLetter 5 = .ok (.getfield 131, 3) := by decide +kernel
theorem d_MO_isLetter_8 : decode b_MO_isLetter 8 = .ok (.if_icmp .ge 26, 3) := by decide +kernel
theorem d_MO_isLetter_11 : decode b_MO_isLetter 11 = .ok (.aload_n 0, 1) := by decide +kernel
theorem d_MO_isLetter_12 : decode b_MO_isLetter 12 = .ok (.getfield 31, 3) := by decide +kernel
theorem d_MO_isLetter_15 : decode b_MO_isLetter 15 = .ok (.aload_n 0, 1) := by decide +kernel
theorem d_MO_isLetter_16 : decode b_MO_isLetter 16 = .ok (.getfield 73, 3) := by decide +kernel
theorem d_MO_isLetter_19 : decode b_MO_isLetter 19 = .ok (.caload, 1) := by decide +kernel
theorem d_MO_isLetter_20 : decode b_MO_isLetter 20 = .ok (.bipush 97, 2) := by decide +kernel
theorem d_MO_isLetter_22 : decode b_MO_isLetter 22 = .ok (.bipush 100, 2) := by decide +kernel
theorem d_MO_isLetter_24 : decode b_MO_isLetter 24 = .ok (.invokestatic 44, 3) := by decide +kernel
theorem d_MO_isLetter_27 : decode b_MO_isLetter 27 = .ok (.ifCond .eq 7, 3) := by decide +kernel
theorem d_MO_isLetter_30 : decode b_MO_isLetter 30 = .ok (.iconst 1, 1) := by decide +kernel
theorem d_MO_isLetter_31 : decode b_MO_isLetter 31 = .ok (.goto 4, 3) := by decide +kernel
theorem d_MO_isLetter_34 : decode b_MO_isLetter 34 = .ok (.iconst 0, 1) := by decide +kernel
theorem d_MO_isLetter_35 : decode b_MO_isLetter 35 = .ok (.ireturn, 1) := by decide +kernel
theorem d_MO_partsOfText_0 : decode b_MO_partsOfText 0 = .ok (.aload_n 0, 1) := by decide +kernel
theorem d_MO_partsOfText_1 : decode b_MO_partsOfText 1 = .ok (.iconst 0, 1) := by decide +kernel
theorem d_MO_partsOfText_2 : decode b_MO_partsOfText 2 = .ok (.putfield 73, 3) := by decide +kernel
theorem d_MO_partsOfText_5 : decode b_MO_partsOfText 5 = .ok (.iconst 0, 1) := by decide +kernel
theorem d_MO_partsOfText_6 : decode b_MO_partsOfText 6 = .ok (.istore_n 1, 1) := by decide +kernel
theorem d_MO_partsOfText_7 : decode b_MO_partsOfText 7 = .ok (.iconst 1, 1) := by decide +kernel
theorem d_MO_partsOfText_8 : decode b_MO_partsOfText 8 = .ok (.istore_n 2, 1) := by decide +kernel
theorem d_MO_partsOfText_9 : decode b_MO_partsOfText 9 = .ok (.iload_n 2, 1) := by decide +kernel
theorem d_MO_partsOfText_10 : decode b_MO_partsOfText 10 = .ok (.ifCond .eq 211, 3) := by decide +kernel
theorem d_MO_partsOfText_13 : decode b_MO_partsOfText 13 = .ok (.aload_n 0, 1) := by decide +kernel
theorem d_MO_partsOfText_14 : decode b_MO_partsOfText 14 = .ok (.invokevirtual 134, 3) := by decide +kernel
theorem d_MO_partsOfText_17 : decode b_MO_partsOfText 17 = .ok (.ifCond .ne 6, 3) := by decide +kernel
theorem d_MO_partsOfText_20 : decode b_MO_partsOfText 20 = .ok (.bipush (-5), 2) := by decide +kernel
theorem d_MO_partsOfText_22 : decode b_MO_partsOfText 22 = .ok (.ireturn, 1) := by decide +kernel
theorem d_MO_partsOfText_23 : decode b_MO_partsOfText 23 = .ok (.aload_n 0, 1) := by decide +kernel
theorem d_MO_partsOfText_24 : decode b_MO_partsOfText 24 = .ok (.getfield 31, 3) := by decide +kernel
theorem d_MO_partsOfText_27 : decode b_MO_partsOfText 27 = .ok (.aload_n 0, 1) := by decide +kernel
theorem d_MO_partsOfText_28 : decode b_MO_partsOfText 28 = .ok (.getfield 73, 3) := by decide +kernel
theorem d_MO_partsOfText_31 : decode b_MO_partsOfText 31 = .ok (.caload, 1) := by decide +kernel
theorem d_MO_partsOfText_32 : decode b_MO_partsOfText 32 = .ok (.bipush 97, 2) := by decide +kernel
theorem d_MO_partsOfText_34 : decode b_MO_partsOfText 34 = .ok (.isub, 1) := by decide +kernel
theorem d_MO_partsOfText_35 : decode b_MO_partsOfText 35 = .ok (.istore_n 3, 1) := by decide +kernel
theorem d_MO_partsOfText_36 : decode b_MO_partsOfText 36 = .ok (.aload_n 0, 1) := by decide +kernel
theorem d_MO_partsOfText_37 : decode b_MO_partsOfText 37 = .ok (.dup, 1) := by decide +kernel
theorem d_MO_partsOfText_38 : decode b_MO_partsOfText 38 = .ok (.getfield 73, 3) := by decide +kernel
theorem d_MO_partsOfText_41 : decode b_MO_partsOfText 41 = .ok (.iconst 1, 1) := by decide +kernel
theorem d_MO_partsOfText_42 : decode b_MO_partsOfText 42 = .ok (.iadd, 1) := by decide +kernel
theorem d_MO_partsOfText_43 : decode b_MO_partsOfText 43 = .ok (.putfield 73, 3) := by decide +kernel
theorem d_MO_partsOfText_46 : decode b_MO_partsOfText 46 = .ok (.aload_n 0, 1) := by decide +kernel
theorem d_MO_partsOfText_47 : decode b_MO_partsOfText 47 = .ok (.getfield 73, 3) := by decide +kernel
theorem d_MO_partsOfText_50 : decode b_MO_partsOfText 50 = .ok (.aload_n 0, 1) := by decide +kernel
theorem d_MO_partsOfText_51 : decode b_MO_partsOfText 51 = .ok (.getfield 131, 3) := by decide +kernel
theorem d_MO_partsOfText_54 : decode b_MO_partsOfText 54 = .ok (.if_icmp .eq 17, 3) := by decide +kernel
theorem d_MO_partsOfText_57 : decode b_MO_partsOfText 57 = .ok (.aload_n 0, 1) := by decide +kernel
theorem d_MO_partsOfText_58 : decode b_MO_partsOfText 58 = .ok (.getfield 31, 3) := by decide +kernel
theorem d_MO_partsOfText_61 : decode b_MO_partsOfText 61 = .ok (.aload_n 0, 1) := by decide +kernel
theorem d_MO_partsOfText_62 : decode b_MO_partsOfText 62 = .ok (.getfield 73, 3) := by decide +kernel
theorem d_MO_partsOfText_65 : decode b_MO_partsOfText 65 = .ok (.caload, 1) := by decide +kernel
theorem d_MO_partsOfText_66 : decode b_MO_partsOfText 66 = .ok (.bipush 61, 2) := by decide +kernel
theorem d_MO_partsOfText_68 : decode b_MO_partsOfText 68 = .ok (.if_icmp .eq 6, 3) := by decide +kernel
theorem d_MO_partsOfText_71 : decode b_MO_partsOfText 71 = .ok (.bipush (-5), 2) := by decide +kernel
theorem d_MO_partsOfText_73 : decode b_MO_partsOfText 73 = .ok (.ireturn, 1) := by decide +kernel
theorem d_MO_partsOfText_74 : decode b_MO_partsOfText 74 = .ok (.aload_n 0, 1) := by decide +kernel
theorem d_MO_partsOfText_75 : decode b_MO_partsOfText 75 = .ok (.dup, 1) := by decide +kernel
theorem d_MO_partsOfText_76 : decode b_MO_partsOfText 76 = .ok (.getfield 73, 3) := by decide +kernel
theorem d_MO_partsOfText_79 : decode b_MO_partsOfText 79 = .ok (.iconst 1, 1) := by decide +kernel
theorem d_MO_partsOfText_80 : decode b_MO_partsOfText 80 = .ok (.iadd, 1) := by decide +kernel
theorem d_MO_partsOfText_81 : decode b_MO_partsOfText 81 = .ok (.putfield 73, 3) := by decide +kernel
theorem d_MO_partsOfText_84 : decode b_MO_partsOfText 84 = .ok (.iconst 0, 1) := by decide +kernel
theorem d_MO_partsOfText_85 : decode b_MO_partsOfText 85 = .ok (.istore 4, 2) := by decide +kernel
theorem d_MO_partsOfText_87 : decode b_MO_partsOfText 87 = .ok (.iload 4, 2) := by decide +kernel
theorem d_MO_partsOfText_89 : decode b_MO_partsOfText 89 = .ok (.bipush 8, 2) := by decide +kernel
theorem d_MO_partsOfText_91 : decode b_MO_partsOfText 91 = .ok (.if_icmp .ge 52, 3) := by decide +kernel
theorem d_MO_partsOfText_94 : decode b_MO_partsOfText 94 = .ok (.aload_n 0, 1) := by decide +kernel
theorem d_MO_partsOfText_95 : decode b_MO_partsOfText 95 = .ok (.invokevirtual 134, 3) := by decide +kernel
theorem d_MO_partsOfText_98 : decode b_MO_partsOfText 98 = .ok (.ifCond .eq 45, 3) := by decide +kernel
theorem d_MO_partsOfText_101 : decode b_MO_partsOfText 101 = .ok (.aload_n 0, 1) := by decide +kernel
theorem d_MO_partsOfText_102 : decode b_MO_partsOfText 102 = .ok (.getfield 19, 3) := by decide +kernel
theorem d_MO_partsOfText_105 : decode b_MO_partsOfText 105 = .ok (.bipush 9, 2) := by decide +kernel
theorem d_MO_partsOfText_107 : decode b_MO_partsOfText 107 = .ok (.iload_n 3, 1) := by decide +kernel
theorem d_MO_partsOfText_108 : decode b_MO_partsOfText 108 = .ok (.imul, 1) := by decide +kernel
theorem d_MO_partsOfText_109 : decode b_MO_partsOfText 109 = .ok (.iconst 1, 1) := by decide +kernel
theorem d_MO_partsOfText_110 : decode b_MO_partsOfText 110 = .ok (.iadd, 1) := by decide +kernel
theorem d_MO_partsOfText_111 : decode b_MO_partsOfText 111 = .ok (.iload 4, 2) := by decide +kernel
theorem d_MO_partsOfText_113 : decode b_MO_partsOfText 113 = .ok (.iadd, 1) := by decide +kernel
theorem d_MO_partsOfText_114 : decode b_MO_partsOfText 114 = .ok (.aload_n 0, 1) := by decide +kernel
theorem d_MO_partsOfText_115 : decode b_MO_partsOfText 115 = .ok (.getfield 31, 3) := by decide +kernel
theorem d_MO_partsOfText_118 : decode b_MO_partsOfText 118 = .ok (.aload_n 0, 1) := by decide +kernel
theorem d_MO_partsOfText_119 : decode b_MO_partsOfText 119 = .ok (.getfield 73, 3) := by decide +kernel
theorem d_MO_partsOfText_122 : decode b_MO_partsOfText 122 = .ok (.caload, 1) := by decide +kernel
theorem d_MO_partsOfText_123 : decode b_MO_partsOfText 123 = .ok (.bipush 97, 2) := by decide +kernel
theorem d_MO_partsOfText_125 : decode b_MO_partsOfText 125 = .ok (.isub, 1) := by decide +kernel
theorem d_MO_partsOfText_126 : decode b_MO_partsOfText 126 = .ok (.iastore, 1) := by decide +kernel
theorem d_MO_partsOfText_127 : decode b_MO_partsOfText 127 = .ok (.iinc 4 1, 3) := by decide +kernel
theorem d_MO_partsOfText_130 : decode b_MO_partsOfText 130 = .ok (.aload_n 0, 1) := by decide +kernel
theorem d_MO_partsOfText_131 : decode b_MO_partsOfText 131 = .ok (.dup, 1) := by decide +kernel
theorem d_MO_partsOfText_132 : decode b_MO_partsOfText 132 = .ok (.getfield 73, 3) := by decide +kernel
theorem d_MO_partsOfText_135 : decode b_MO_partsOfText 135 = .ok (.iconst 1, 1) := by decide +kernel
theorem d_MO_partsOfText_136 : decode b_MO_partsOfText 136 = .ok (.iadd, 1) := by decide +kernel
theorem d_MO_partsOfText_137 : decode b_MO_partsOfText 137 = .ok (.putfield 73, 3) := by decide +kernel
theorem d_MO_partsOfText_140 : decode b_MO_partsOfText 140 = .ok (.goto (-53), 3) := by decide +kernel
theorem d_MO_partsOfText_143 : decode b_MO_partsOfText 143 = .ok (.aload_n 0, 1) := by decide +kernel
theorem d_MO_partsOfText_144 : decode b_MO_partsOfText 144 = .ok (.getfield 19, 3) := by decide +kernel
theorem d_MO_partsOfText_147 : decode b_MO_partsOfText 147 = .ok (.bipush 9, 2) := by decide +kernel
theorem d_MO_partsOfText_149 : decode b_MO_partsOfText 149 = .ok (.iload_n 3, 1) := by decide +kernel
theorem d_MO_partsOfText_150 : decode b_MO_partsOfText 150 = .ok (.imul, 1) := by decide +kernel
theorem d_MO_partsOfText_151 : decode b_MO_partsOfText 151 = .ok (.iload 4, 2) := by decide +kernel
theorem d_MO_partsOfText_153 : decode b_MO_partsOfText 153 = .ok (.iastore, 1) := by decide +kernel
theorem d_MO_partsOfText_154 : decode b_MO_partsOfText 154 = .ok (.iinc 1 1, 3) := by decide +kernel
theorem d_MO_partsOfText_157 : decode b_MO_partsOfText 157 = .ok (.aload_n 0, 1) := by decide +kernel
theorem d_MO_partsOfText_158 : decode b_MO_partsOfText 158 = .ok (.getfield 73, 3) := by decide +kernel
theorem d_MO_partsOfText_161 : decode b_MO_partsOfText 161 = .ok (.aload_n 0, 1) := by decide +kernel
theorem d_MO_partsOfText_162 : decode b_MO_partsOfText 162 = .ok (.getfield 131, 3) := by decide +kernel
theorem d_MO_partsOfText_165 : decode b_MO_partsOfText 165 = .ok (.if_icmp .ge 7, 3) := by decide +kernel
theorem d_MO_partsOfText_168 : decode b_MO_partsOfText 168 = .ok (.iconst 1, 1) := by decide +kernel
theorem d_MO_partsOfText_169 : decode b_MO_partsOfText 169 = .ok (.goto 4, 3) := by decide +kernel
theorem d_MO_partsOfText_172 : decode b_MO_partsOfText 172 = .ok (.iconst 0, 1) := by decide +kernel
theorem d_MO_partsOfText_173 : decode b_MO_partsOfText 173 = .ok (.istore_n 2, 1) := by decide +kernel
theorem d_MO_partsOfText_174 : decode b_MO_partsOfText 174 = .ok (.iload 4, 2) := by decide +kernel
theorem d_MO_partsOfText_176 : decode b_MO_partsOfText 176 = .ok (.ifCond .eq 21, 3) := by decide +kernel
theorem d_MO_partsOfText_179 : decode b_MO_partsOfText 179 = .ok (.iload_n 2, 1) := by decide +kernel
theorem d_MO_partsOfText_180 : decode b_MO_partsOfText 180 = .ok (.ifCond .eq 20, 3) := by decide +kernel
theorem d_MO_partsOfText_183 : decode b_MO_partsOfText 183 = .ok (.aload_n 0, 1) := by decide +kernel
theorem d_MO_partsOfText_184 : decode b_MO_partsOfText 184 = .ok (.getfield 31, 3) := by decide +kernel
theorem d_MO_partsOfText_187 : decode b_MO_partsOfText 187 = .ok (.aload_n 0, 1) := by decide +kernel
theorem d_MO_partsOfText_188 : decode b_MO_partsOfText 188 = .ok (.getfield 73, 3) := by decide +kernel
theorem d_MO_partsOfText_191 : decode b_MO_partsOfText 191 = .ok (.caload, 1) := by decide +kernel
theorem d_MO_partsOfText_192 : decode b_MO_partsOfText 192 = .ok (.bipush 59, 2) := by decide +kernel
theorem d_MO_partsOfText_194 : decode b_MO_partsOfText 194 = .ok (.if_icmp .eq 6, 3) := by decide +kernel
theorem d_MO_partsOfText_197 : decode b_MO_partsOfText 197 = .ok (.bipush (-5), 2) := by decide +kernel
theorem d_MO_partsOfText_199 : decode b_MO_partsOfText 199 = .ok (.ireturn, 1) := by decide +kernel
theorem d_MO_partsOfText_200 : decode b_MO_partsOfText 200 = .ok (.aload_n 0, 1) := by decide +kernel
theorem d_MO_partsOfText_201 : decode b_MO_partsOfText 201 = .ok (.dup, 1) := by decide +kernel
theorem d_MO_partsOfText_202 : decode b_MO_partsOfText 202 = .ok (.getfield 73, 3) := by decide +kernel
theorem d_MO_partsOfText_205 : decode b_MO_partsOfText 205 = .ok (.iload_n 2, 1) := by decide +kernel
theorem d_MO_partsOfText_206 : decode b_MO_partsOfText 206 = .ok (.ifCond .eq 7, 3) := by decide +kernel
theorem d_MO_partsOfText_209 : decode b_MO_partsOfText 209 = .ok (.iconst 1, 1) := by decide +kernel
theorem d_MO_partsOfText_210 : decode b_MO_partsOfText 210 = .ok (.goto 4, 3) := by decide +kernel
theorem d_MO_partsOfText_213 : decode b_MO_partsOfText 213 = .ok (.iconst 0, 1) := by decide +kernel
theorem d_MO_partsOfText_214 : decode b_MO_partsOfText 214 = .ok (.iadd, 1) := by decide +kernel
theorem d_MO_partsOfText_215 : decode b_MO_partsOfText 215 = .ok (.putfield 73, 3) := by decide +kernel
theorem d_MO_partsOfText_218 : decode b_MO_partsOfText 218 = .ok (.goto (-209), 3) := by decide +kernel
theorem d_MO_partsOfText_221 : decode b_MO_partsOfText 221 = .ok (.iload_n 1, 1) := by decide +kernel
theorem d_MO_partsOfText_222 : decode b_MO_partsOfText 222 = .ok (.ireturn, 1) := by decide +kernel
theorem d_MO_pieceOfText_0 : decode b_MO_pieceOfText 0 = .ok (.aload_n 0, 1) := by decide +kernel
theorem d_MO_pieceOfText_1 : decode b_MO_pieceOfText 1 = .ok (.iconst 0, 1) := by decide +kernel
theorem d_MO_pieceOfText_2 : decode b_MO_pieceOfText 2 = .ok (.putfield 73, 3) := by decide +kernel
theorem d_MO_pieceOfText_5 : decode b_MO_pieceOfText 5 = .ok (.aload_n 0, 1) := by decide +kernel
theorem d_MO_pieceOfText_6 : decode b_MO_pieceOfText 6 = .ok (.getfield 73, 3) := by decide +kernel
theorem d_MO_pieceOfText_9 : decode b_MO_pieceOfText 9 = .ok (.bipush 20, 2) := by decide +kernel
theorem d_MO_pieceOfText_11 : decode b_MO_pieceOfText 11 = .ok (.if_icmp .ge 23, 3) := by decide +kernel
theorem d_MO_pieceOfText_14 : decode b_MO_pieceOfText 14 = .ok (.aload_n 0, 1) := by decide +kernel
theorem d_MO_pieceOfText_15 : decode b_MO_pieceOfText 15 = .ok (.invokevirtual 134, 3) := by decide +kernel
theorem d_MO_pieceOfText_18 : decode b_MO_pieceOfText 18 = .ok (.ifCond .eq 16, 3) := by decide +kernel
theorem d_MO_pieceOfText_21 : decode b_MO_pieceOfText 21 = .ok (.aload_n 0, 1) := by decide +kernel
theorem d_MO_pieceOfText_22 : decode b_MO_pieceOfText 22 = .ok (.dup, 1) := by decide +kernel
theorem d_MO_pieceOfText_23 : decode b_MO_pieceOfText 23 = .ok (.getfield 73, 3) := by decide +kernel
theorem d_MO_pieceOfText_26 : decode b_MO_pieceOfText 26 = .ok (.iconst 1, 1) := by decide +kernel
theorem d_MO_pieceOfText_27 : decode b_MO_pieceOfText 27 = .ok (.iadd, 1) := by decide +kernel
theorem d_MO_pieceOfText_28 : decode b_MO_pieceOfText 28 = .ok (.putfield 73, 3) := by decide +kernel
theorem d_MO_pieceOfText_31 : decode b_MO_pieceOfText 31 = .ok (.goto (-26), 3) := by decide +kernel
theorem d_MO_pieceOfText_34 : decode b_MO_pieceOfText 34 = .ok (.aload_n 0, 1) := by decide +kernel
theorem d_MO_pieceOfText_35 : decode b_MO_pieceOfText 35 = .ok (.getfield 73, 3) := by decide +kernel
theorem d_MO_pieceOfText_38 : decode b_MO_pieceOfText 38 = .ok (.ifCond .eq 14, 3) := by decide +kernel
theorem d_MO_pieceOfText_41 : decode b_MO_pieceOfText 41 = .ok (.aload_n 0, 1) := by decide +kernel
theorem d_MO_pieceOfText_42 : decode b_MO_pieceOfText 42 = .ok (.getfield 73, 3) := by decide +kernel
theorem d_MO_pieceOfText_45 : decode b_MO_pieceOfText 45 = .ok (.aload_n 0, 1) := by decide +kernel
theorem d_MO_pieceOfText_46 : decode b_MO_pieceOfText 46 = .ok (.getfield 131, 3) := by decide +kernel
theorem d_MO_pieceOfText_49 : decode b_MO_pieceOfText 49 = .ok (.if_icmp .ge 8, 3) := by decide +kernel
theorem d_MO_pieceOfText_52 : decode b_MO_pieceOfText 52 = .ok (.bipush (-5), 2) := by decide +kernel
theorem d_MO_pieceOfText_54 : decode b_MO_pieceOfText 54 = .ok (.goto 7, 3) := by decide +kernel
theorem d_MO_pieceOfText_57 : decode b_MO_pieceOfText 57 = .ok (.aload_n 0, 1) := by decide +kernel
theorem d_MO_pieceOfText_58 : decode b_MO_pieceOfText 58 = .ok (.getfield 73, 3) := by decide +kernel
theorem d_MO_pieceOfText_61 : decode b_MO_pieceOfText 61 = .ok (.ireturn, 1) := by decide +kernel
theorem d_MO_undo_0 : decode b_MO_undo 0 = .ok (.aload_n 0, 1) := by decide +kernel
theorem d_MO_undo_1 : decode b_MO_undo 1 = .ok (.getfield 48, 3) := by decide +kernel
theorem d_MO_undo_4 : decode b_MO_undo 4 = .ok (.ifCond .ne 6, 3) := by decide +kernel
theorem d_MO_undo_7 : decode b_MO_undo 7 = .ok (.bipush (-5), 2) := by decide +kernel
theorem d_MO_undo_9 : decode b_MO_undo 9 = .ok (.ireturn, 1) := by decide +kernel
theorem d_MO_undo_10 : decode b_MO_undo 10 = .ok (.aload_n 0, 1) := by decide +kernel
theorem d_MO_undo_11 : decode b_MO_undo 11 = .ok (.dup, 1) := by decide +kernel
theorem d_MO_undo_12 : decode b_MO_undo 12 = .ok (.getfield 48, 3) := by decide +kernel
theorem d_MO_undo_15 : decode b_MO_undo 15 = .ok (.iconst 1, 1) := by decide +kernel
theorem d_MO_undo_16 : decode b_MO_undo 16 = .ok (.isub, 1) := by decide +kernel
theorem d_MO_undo_17 : decode b_MO_undo 17 = .ok (.putfield 48, 3) := by decide +kernel
theorem d_MO_undo_20 : decode b_MO_undo 20 = .ok (.iconst 0, 1) := by decide +kernel
theorem d_MO_undo_21 : decode b_MO_undo 21 = .ok (.istore_n 1, 1) := by decide +kernel
theorem d_MO_undo_22 : decode b_MO_undo 22 = .ok (.iload_n 1, 1) := by decide +kernel
theorem d_MO_undo_23 : decode b_MO_undo 23 = .ok (.sipush 358, 3) := by decide +kernel
theorem d_MO_undo_26 : decode b_MO_undo 26 = .ok (.if_icmp .ge 30, 3) := by decide +kernel
theorem d_MO_undo_29 : decode b_MO_undo 29 = .ok (.aload_n 0, 1) := by decide +kernel
theorem d_MO_undo_30 : decode b_MO_undo 30 = .ok (.getfield 7, 3) := by decide +kernel
theorem d_MO_undo_33 : decode b_MO_undo 33 = .ok (.iload_n 1, 1) := by decide +kernel
theorem d_MO_undo_34 : decode b_MO_undo 34 = .ok (.aload_n 0, 1) := by decide +kernel
theorem d_MO_undo_35 : decode b_MO_undo 35 = .ok (.getfield 13, 3) := by decide +kernel
theorem d_MO_undo_38 : decode b_MO_undo 38 = .ok (.sipush 358, 3) := by decide +kernel
theorem d_MO_undo_41 : decode b_MO_undo 41 = .ok (.aload_n 0, 1) := by decide +kernel
theorem d_MO_undo_42 : decode b_MO_undo 42 = .ok (.getfield 48, 3) := by decide +kernel
theorem d_MO_undo_45 : decode b_MO_undo 45 = .ok (.imul, 1) := by decide +kernel
theorem d_MO_undo_46 : decode b_MO_undo 46 = .ok (.iload_n 1, 1) := by decide +kernel
theorem d_MO_undo_47 : decode b_MO_undo 47 = .ok (.iadd, 1) := by decide +kernel
theorem d_MO_undo_48 : decode b_MO_undo 48 = .ok (.iaload, 1) := by decide +kernel
theorem d_MO_undo_49 : decode b_MO_undo 49 = .ok (.iastore, 1) := by decide +kernel
theorem d_MO_undo_50 : decode b_MO_undo 50 = .ok (.iinc 1 1, 3) := by decide +kernel
theorem d_MO_undo_53 : decode b_MO_undo 53 = .ok (.goto (-31), 3) := by decide +kernel
theorem d_MO_undo_56 : decode b_MO_undo 56 = .ok (.aload_n 0, 1) := by decide +kernel
theorem d_MO_undo_57 : decode b_MO_undo 57 = .ok (.getfield 48, 3) := by decide +kernel
theorem d_MO_undo_60 : decode b_MO_undo 60 = .ok (.ireturn, 1) := by decide +kernel
theorem d_MO_keep_0 : decode b_MO_keep 0 = .ok (.iconst 0, 1) := by decide +kernel
theorem d_MO_keep_1 : decode b_MO_keep 1 = .ok (.istore_n 1, 1) := by decide +kernel
theorem d_MO_keep_2 : decode b_MO_keep 2 = .ok (.iload_n 1, 1) := by decide +kernel
theorem d_MO_keep_3 : decode b_MO_keep 3 = .ok (.sipush 358, 3) := by decide +kernel
theorem d_MO_keep_6 : decode b_MO_keep 6 = .ok (.if_icmp .ge 21, 3) := by decide +kernel
theorem d_MO_keep_9 : decode b_MO_keep 9 = .ok (.aload_n 0, 1) := by decide +kernel
theorem d_MO_keep_10 : decode b_MO_keep 10 = .ok (.getfield 16, 3) := by decide +kernel
theorem d_MO_keep_13 : decode b_MO_keep 13 = .ok (.iload_n 1, 1) := by decide +kernel
theorem d_MO_keep_14 : decode b_MO_keep 14 = .ok (.aload_n 0, 1) := by decide +kernel
theorem d_MO_keep_15 : decode b_MO_keep 15 = .ok (.getfield 7, 3) := by decide +kernel
theorem d_MO_keep_18 : decode b_MO_keep 18 = .ok (.iload_n 1, 1) := by decide +kernel
theorem d_MO_keep_19 : decode b_MO_keep 19 = .ok (.iaload, 1) := by decide +kernel
theorem d_MO_keep_20 : decode b_MO_keep 20 = .ok (.iastore, 1) := by decide +kernel
theorem d_MO_keep_21 : decode b_MO_keep 21 = .ok (.iinc 1 1, 3) := by decide +kernel
theorem d_MO_keep_24 : decode b_MO_keep 24 = .ok (.goto (-22), 3) := by decide +kernel
theorem d_MO_keep_27 : decode b_MO_keep 27 = .ok (.aload_n 0, 1) := by decide +kernel
theorem d_MO_keep_28 : decode b_MO_keep 28 = .ok (.iconst 1, 1) := by decide +kernel
theorem d_MO_keep_29 : decode b_MO_keep 29 = .ok (.putfield 137, 3) := by decide +kernel
theorem d_MO_keep_32 : decode b_MO_keep 32 = .ok (.aload_n 0, 1) := by decide +kernel
theorem d_MO_keep_33 : decode b_MO_keep 33 = .ok (.invokevirtual 60, 3) := by decide +kernel
theorem d_MO_keep_36 : decode b_MO_keep 36 = .ok (.ireturn, 1) := by decide +kernel
theorem d_MO_restore_0 : decode b_MO_restore 0 = .ok (.aload_n 0, 1) := by decide +kernel
theorem d_MO_restore_1 : decode b_MO_restore 1 = .ok (.getfield 137, 3) := by decide +kernel
theorem d_MO_restore_4 : decode b_MO_restore 4 = .ok (.ifCond .ne 6, 3) := by decide +kernel
theorem d_MO_restore_7 : decode b_MO_restore 7 = .ok (.bipush (-5), 2) := by decide +kernel
theorem d_MO_restore_9 : decode b_MO_restore 9 = .ok (.ireturn, 1) := by decide +kernel
theorem d_MO_restore_10 : decode b_MO_restore 10 = .ok (.aload_n 0, 1) := by decide +kernel
theorem d_MO_restore_11 : decode b_MO_restore 11 = .ok (.invokevirtual 80, 3) := by decide +kernel
theorem d_MO_restore_14 : decode b_MO_restore 14 = .ok (.iconst 0, 1) := by decide +kernel
theorem d_MO_restore_15 : decode b_MO_restore 15 = .ok (.istore_n 1, 1) := by decide +kernel
theorem d_MO_restore_16 : decode b_MO_restore 16 = .ok (.iload_n 1, 1) := by decide +kernel
theorem d_MO_restore_17 : decode b_MO_restore 17 = .ok (.sipush 358, 3) := by decide +kernel
theorem d_MO_restore_20 : decode b_MO_restore 20 = .ok (.if_icmp .ge 21, 3) := by decide +kernel
theorem d_MO_restore_23 : decode b_MO_restore 23 = .ok (.aload_n 0, 1) := by decide +kernel
theorem d_MO_restore_24 : decode b_MO_restore 24 = .ok (.getfield 7, 3) := by decide +kernel
theorem d_MO_restore_27 : decode b_MO_restore 27 = .ok (.iload_n 1, 1) := by decide +kernel
theorem d_MO_restore_28 : decode b_MO_restore 28 = .ok (.aload_n 0, 1) := by decide +kernel
theorem d_MO_restore_29 : decode b_MO_restore 29 = .ok (.getfield 16, 3) := by decide +kernel
theorem d_MO_restore_32 : decode b_MO_restore 32 = .ok (.iload_n 1, 1) := by decide +kernel
theorem d_MO_restore_33 : decode b_MO_restore 33 = .ok (.iaload, 1) := by decide +kernel
theorem d_MO_restore_34 : decode b_MO_restore 34 = .ok (.iastore, 1) := by decide +kernel
theorem d_MO_restore_35 : decode b_MO_restore 35 = .ok (.iinc 1 1, 3) := by decide +kernel
theorem d_MO_restore_38 : decode b_MO_restore 38 = .ok (.goto (-22), 3) := by decide +kernel
theorem d_MO_restore_41 : decode b_MO_restore 41 = .ok (.aload_n 0, 1) := by decide +kernel
theorem d_MO_restore_42 : decode b_MO_restore 42 = .ok (.invokevirtual 60, 3) := by decide +kernel
theorem d_MO_restore_45 : decode b_MO_restore 45 = .ok (.ireturn, 1) := by decide +kernel
theorem d_MO_image_0 : decode b_MO_image 0 = .ok (.iload_n 1, 1) := by decide +kernel
theorem d_MO_image_1 : decode b_MO_image 1 = .ok (.invokestatic 89, 3) := by decide +kernel
theorem d_MO_image_4 : decode b_MO_image 4 = .ok (.ifCond .ne 18, 3) := by decide +kernel
theorem d_MO_image_7 : decode b_MO_image 7 = .ok (.iload_n 2, 1) := by decide +kernel
theorem d_MO_image_8 : decode b_MO_image 8 = .ok (.iconst 0, 1) := by decide +kernel
theorem d_MO_image_9 : decode b_MO_image 9 = .ok (.aload_n 0, 1) := by decide +kernel
theorem d_MO_image_10 : decode b_MO_image 10 = .ok (.iload_n 1, 1) := by decide +kernel
theorem d_MO_image_11 : decode b_MO_image 11 = .ok (.invokevirtual 52, 3) := by decide +kernel
theorem d_MO_image_14 : decode b_MO_image 14 = .ok (.iconst 1, 1) := by decide +kernel
theorem d_MO_image_15 : decode b_MO_image 15 = .ok (.isub, 1) := by decide +kernel
theorem d_MO_image_16 : decode b_MO_image 16 = .ok (.invokestatic 44, 3) := by decide +kernel
theorem d_MO_image_19 : decode b_MO_image 19 = .ok (.ifCond .ne 7, 3) := by decide +kernel
theorem d_MO_image_22 : decode b_MO_image 22 = .ok (.iconst (-1), 1) := by decide +kernel
theorem d_MO_image_23 : decode b_MO_image 23 = .ok (.goto 9, 3) := by decide +kernel
theorem d_MO_image_26 : decode b_MO_image 26 = .ok (.aload_n 0, 1) := by decide +kernel
theorem d_MO_image_27 : decode b_MO_image 27 = .ok (.iload_n 1, 1) := by decide +kernel
theorem d_MO_image_28 : decode b_MO_image 28 = .ok (.iload_n 2, 1) := by decide +kernel
theorem d_MO_image_29 : decode b_MO_image 29 = .ok (.invokevirtual 56, 3) := by decide +kernel
theorem d_MO_image_32 : decode b_MO_image 32 = .ok (.ireturn, 1) := by decide +kernel
theorem d_MO_lettersIn_0 : decode b_MO_lettersIn 0 = .ok (.iconst 0, 1) := by decide +kernel
theorem d_MO_lettersIn_1 : decode b_MO_lettersIn 1 = .ok (.istore_n 2, 1) := by decide +kernel
theorem d_MO_lettersIn_2 : decode b_MO_lettersIn 2 = .ok (.iconst 0, 1) := by decide +kernel
theorem d_MO_lettersIn_3 : decode b_MO_lettersIn 3 = .ok (.istore_n 3, 1) := by decide +kernel
theorem d_MO_lettersIn_4 : decode b_MO_lettersIn 4 = .ok (.iload_n 3, 1) := by decide +kernel
theorem d_MO_lettersIn_5 : decode b_MO_lettersIn 5 = .ok (.aload_n 0, 1) := by decide +kernel
theorem d_MO_lettersIn_6 : decode b_MO_lettersIn 6 = .ok (.iload_n 1, 1) := by decide +kernel
theorem d_MO_lettersIn_7 : decode b_MO_lettersIn 7 = .ok (.invokevirtual 52, 3) := by decide +kernel
theorem d_MO_lettersIn_10 : decode b_MO_lettersIn 10 = .ok (.if_icmp .ge 20, 3) := by decide +kernel
theorem d_MO_lettersIn_13 : decode b_MO_lettersIn 13 = .ok (.iload_n 2, 1) := by decide +kernel
theorem d_MO_lettersIn_14 : decode b_MO_lettersIn 14 = .ok (.iconst 1, 1) := by decide +kernel
theorem d_MO_lettersIn_15 : decode b_MO_lettersIn 15 = .ok (.aload_n 0, 1) := by decide +kernel
theorem d_MO_lettersIn_16 : decode b_MO_lettersIn 16 = .ok (.iload_n 1, 1) := by decide +kernel
theorem d_MO_lettersIn_17 : decode b_MO_lettersIn 17 = .ok (.iload_n 3, 1) := by decide +kernel
theorem d_MO_lettersIn_18 : decode b_MO_lettersIn 18 = .ok (.invokevirtual 56, 3) := by decide +kernel
theorem d_MO_lettersIn_21 : decode b_MO_lettersIn 21 = .ok (.ishl, 1) := by decide +kernel
theorem d_MO_lettersIn_22 : decode b_MO_lettersIn 22 = .ok (.ior, 1) := by decide +kernel
theorem d_MO_lettersIn_23 : decode b_MO_lettersIn 23 = .ok (.istore_n 2, 1) := by decide +kernel
theorem d_MO_lettersIn_24 : decode b_MO_lettersIn 24 = .ok (.iinc 3 1, 3) := by decide +kernel
theorem d_MO_lettersIn_27 : decode b_MO_lettersIn 27 = .ok (.goto (-23), 3) := by decide +kernel
theorem d_MO_lettersIn_30 : decode b_MO_lettersIn 30 = .ok (.iload_n 2, 1) := by decide +kernel
theorem d_MO_lettersIn_31 : decode b_MO_lettersIn 31 = .ok (.ireturn, 1) := by decide +kernel
theorem d_MO_ahead_0 : decode b_MO_ahead 0 = .ok (.iconst 0, 1) := by decide +kernel
theorem d_MO_ahead_1 : decode b_MO_ahead 1 = .ok (.istore_n 2, 1) := by decide +kernel
theorem d_MO_ahead_2 : decode b_MO_ahead 2 = .ok (.iconst 0, 1) := by decide +kernel
theorem d_MO_ahead_3 : decode b_MO_ahead 3 = .ok (.istore_n 3, 1) := by decide +kernel
theorem d_MO_ahead_4 : decode b_MO_ahead 4 = .ok (.iload_n 3, 1) := by decide +kernel
theorem d_MO_ahead_5 : decode b_MO_ahead 5 = .ok (.iconst 4, 1) := by decide +kernel
theorem d_MO_ahead_6 : decode b_MO_ahead 6 = .ok (.if_icmp .ge 30, 3) := by decide +kernel
theorem d_MO_ahead_9 : decode b_MO_ahead 9 = .ok (.iload_n 2, 1) := by decide +kernel
theorem d_MO_ahead_10 : decode b_MO_ahead 10 = .ok (.iload_n 1, 1) := by decide +kernel
theorem d_MO_ahead_11 : decode b_MO_ahead 11 = .ok (.iload_n 3, 1) := by decide +kernel
theorem d_MO_ahead_12 : decode b_MO_ahead 12 = .ok (.ishr, 1) := by decide +kernel
theorem d_MO_ahead_13 : decode b_MO_ahead 13 = .ok (.iconst 1, 1) := by decide +kernel
theorem d_MO_ahead_14 : decode b_MO_ahead 14 = .ok (.iand, 1) := by decide +kernel
theorem d_MO_ahead_15 : decode b_MO_ahead 15 = .ok (.iconst 1, 1) := by decide +kernel
theorem d_MO_ahead_16 : decode b_MO_ahead 16 = .ok (.if_icmp .ne 11, 3) := by decide +kernel
theorem d_MO_ahead_19 : decode b_MO_ahead 19 = .ok (.aload_n 0, 1) := by decide +kernel
theorem d_MO_ahead_20 : decode b_MO_ahead 20 = .ok (.iload_n 3, 1) := by decide +kernel
theorem d_MO_ahead_21 : decode b_MO_ahead 21 = .ok (.invokevirtual 141, 3) := by decide +kernel
theorem d_MO_ahead_24 : decode b_MO_ahead 24 = .ok (.goto 4, 3) := by decide +kernel
theorem d_MO_ahead_27 : decode b_MO_ahead 27 = .ok (.iconst 0, 1) := by decide +kernel
theorem d_MO_ahead_28 : decode b_MO_ahead 28 = .ok (.ior, 1) := by decide +kernel
theorem d_MO_ahead_29 : decode b_MO_ahead 29 = .ok (.istore_n 2, 1) := by decide +kernel
theorem d_MO_ahead_30 : decode b_MO_ahead 30 = .ok (.iinc 3 1, 3) := by decide +kernel
theorem d_MO_ahead_33 : decode b_MO_ahead 33 = .ok (.goto (-29), 3) := by decide +kernel
theorem d_MO_ahead_36 : decode b_MO_ahead 36 = .ok (.iload_n 2, 1) := by decide +kernel
theorem d_MO_ahead_37 : decode b_MO_ahead 37 = .ok (.ireturn, 1) := by decide +kernel
theorem d_MO_reached_0 : decode b_MO_reached 0 = .ok (.iconst 1, 1) := by decide +kernel
theorem d_MO_reached_1 : decode b_MO_reached 1 = .ok (.iload_n 1, 1) := by decide +kernel
theorem d_MO_reached_2 : decode b_MO_reached 2 = .ok (.ishl, 1) := by decide +kernel
theorem d_MO_reached_3 : decode b_MO_reached 3 = .ok (.istore_n 2, 1) := by decide +kernel
theorem d_MO_reached_4 : decode b_MO_reached 4 = .ok (.iconst 0, 1) := by decide +kernel
theorem d_MO_reached_5 : decode b_MO_reached 5 = .ok (.istore_n 3, 1) := by decide +kernel
theorem d_MO_reached_6 : decode b_MO_reached 6 = .ok (.iload_n 3, 1) := by decide +kernel
theorem d_MO_reached_7 : decode b_MO_reached 7 = .ok (.iconst 4, 1) := by decide +kernel
theorem d_MO_reached_8 : decode b_MO_reached 8 = .ok (.if_icmp .ge 17, 3) := by decide +kernel
theorem d_MO_reached_11 : decode b_MO_reached 11 = .ok (.iload_n 2, 1) := by decide +kernel
theorem d_MO_reached_12 : decode b_MO_reached 12 = .ok (.aload_n 0, 1) := by decide +kernel
theorem d_MO_reached_13 : decode b_MO_reached 13 = .ok (.iload_n 2, 1) := by decide +kernel
theorem d_MO_reached_14 : decode b_MO_reached 14 = .ok (.invokevirtual 144, 3) := by decide +kernel
theorem d_MO_reached_17 : decode b_MO_reached 17 = .ok (.ior, 1) := by decide +kernel
theorem d_MO_reached_18 : decode b_MO_reached 18 = .ok (.istore_n 2, 1) := by decide +kernel
theorem d_MO_reached_19 : decode b_MO_reached 19 = .ok (.iinc 3 1, 3) := by decide +kernel
theorem d_MO_reached_22 : decode b_MO_reached 22 = .ok (.goto (-16), 3) := by decide +kernel
theorem d_MO_reached_25 : decode b_MO_reached 25 = .ok (.iload_n 2, 1) := by decide +kernel
theorem d_MO_reached_26 : decode b_MO_reached 26 = .ok (.ireturn, 1) := by decide +kernel
theorem d_MO_rule_0 : decode b_MO_rule 0 = .ok (.iload_n 1, 1) := by decide +kernel
theorem d_MO_rule_1 : decode b_MO_rule 1 = .ok (.invokestatic 89, 3) := by decide +kernel
theorem d_MO_rule_4 : decode b_MO_rule 4 = .ok (.ifCond .eq 5, 3) := by decide +kernel
theorem d_MO_rule_7 : decode b_MO_rule 7 = .ok (.iconst (-1), 1) := by decide +kernel
theorem d_MO_rule_8 : decode b_MO_rule 8 = .ok (.ireturn, 1) := by decide +kernel
theorem d_MO_rule_9 : decode b_MO_rule 9 = .ok (.iload_n 2, 1) := by decide +kernel
theorem d_MO_rule_10 : decode b_MO_rule 10 = .ok (.tableswitch 73 0 3 #[30, 36, 42, 48], 30) := by decide +kernel
theorem d_MO_rule_40 : decode b_MO_rule 40 = .ok (.aload_n 0, 1) := by decide +kernel
theorem d_MO_rule_41 : decode b_MO_rule 41 = .ok (.iload_n 1, 1) := by decide +kernel
theorem d_MO_rule_42 : decode b_MO_rule 42 = .ok (.invokevirtual 52, 3) := by decide +kernel
theorem d_MO_rule_45 : decode b_MO_rule 45 = .ok (.ireturn, 1) := by decide +kernel
theorem d_MO_rule_46 : decode b_MO_rule 46 = .ok (.aload_n 0, 1) := by decide +kernel
theorem d_MO_rule_47 : decode b_MO_rule 47 = .ok (.iload_n 1, 1) := by decide +kernel
theorem d_MO_rule_48 : decode b_MO_rule 48 = .ok (.invokevirtual 141, 3) := by decide +kernel
theorem d_MO_rule_51 : decode b_MO_rule 51 = .ok (.ireturn, 1) := by decide +kernel
theorem d_MO_rule_52 : decode b_MO_rule 52 = .ok (.aload_n 0, 1) := by decide +kernel
theorem d_MO_rule_53 : decode b_MO_rule 53 = .ok (.iload_n 1, 1) := by decide +kernel
theorem d_MO_rule_54 : decode b_MO_rule 54 = .ok (.invokevirtual 147, 3) := by decide +kernel
theorem d_MO_rule_57 : decode b_MO_rule 57 = .ok (.ireturn, 1) := by decide +kernel
theorem d_MO_rule_58 : decode b_MO_rule 58 = .ok (.aload_n 0, 1) := by decide +kernel
theorem d_MO_rule_59 : decode b_MO_rule 59 = .ok (.iload_n 1, 1) := by decide +kernel
theorem d_MO_rule_60 : decode b_MO_rule 60 = .ok (.iconst 0, 1) := by decide +kernel
theorem d_MO_rule_61 : decode b_MO_rule 61 = .ok (.invokevirtual 56, 3) := by decide +kernel
theorem d_MO_rule_64 : decode b_MO_rule 64 = .ok (.iload_n 1, 1) := by decide +kernel
theorem d_MO_rule_65 : decode b_MO_rule 65 = .ok (.if_icmp .ne 16, 3) := by decide +kernel
theorem d_MO_rule_68 : decode b_MO_rule 68 = .ok (.aload_n 0, 1) := by decide +kernel
theorem d_MO_rule_69 : decode b_MO_rule 69 = .ok (.iload_n 1, 1) := by decide +kernel
theorem d_MO_rule_70 : decode b_MO_rule 70 = .ok (.invokevirtual 52, 3) := by decide +kernel
theorem d_MO_rule_73 : decode b_MO_rule 73 = .ok (.iconst 1, 1) := by decide +kernel
theorem d_MO_rule_74 : decode b_MO_rule 74 = .ok (.if_icmp .le 7, 3) := by decide +kernel
theorem d_MO_rule_77 : decode b_MO_rule 77 = .ok (.iconst 1, 1) := by decide +kernel
theorem d_MO_rule_78 : decode b_MO_rule 78 = .ok (.goto 4, 3) := by decide +kernel
theorem d_MO_rule_81 : decode b_MO_rule 81 = .ok (.iconst 0, 1) := by decide +kernel
theorem d_MO_rule_82 : decode b_MO_rule 82 = .ok (.ireturn, 1) := by decide +kernel
theorem d_MO_rule_83 : decode b_MO_rule 83 = .ok (.bipush (-2), 2) := by decide +kernel
theorem d_MO_rule_85 : decode b_MO_rule 85 = .ok (.ireturn, 1) := by decide +kernel
theorem d_MO_sum_0 : decode b_MO_sum 0 = .ok (.aload_n 0, 1) := by decide +kernel
theorem d_MO_sum_1 : decode b_MO_sum 1 = .ok (.getfield 35, 3) := by decide +kernel
theorem d_MO_sum_4 : decode b_MO_sum 4 = .ok (.iconst 4, 1) := by decide +kernel
theorem d_MO_sum_5 : decode b_MO_sum 5 = .ok (.iload_n 1, 1) := by decide +kernel
theorem d_MO_sum_6 : decode b_MO_sum 6 = .ok (.imul, 1) := by decide +kernel
theorem d_MO_sum_7 : decode b_MO_sum 7 = .ok (.iaload, 1) := by decide +kernel
theorem d_MO_sum_8 : decode b_MO_sum 8 = .ok (.aload_n 0, 1) := by decide +kernel
theorem d_MO_sum_9 : decode b_MO_sum 9 = .ok (.getfield 35, 3) := by decide +kernel
theorem d_MO_sum_12 : decode b_MO_sum 12 = .ok (.iconst 4, 1) := by decide +kernel
theorem d_MO_sum_13 : decode b_MO_sum 13 = .ok (.iload_n 1, 1) := by decide +kernel
theorem d_MO_sum_14 : decode b_MO_sum 14 = .ok (.imul, 1) := by decide +kernel
theorem d_MO_sum_15 : decode b_MO_sum 15 = .ok (.iconst 1, 1) := by decide +kernel
theorem d_MO_sum_16 : decode b_MO_sum 16 = .ok (.iadd, 1) := by decide +kernel
theorem d_MO_sum_17 : decode b_MO_sum 17 = .ok (.iaload, 1) := by decide +kernel
theorem d_MO_sum_18 : decode b_MO_sum 18 = .ok (.iadd, 1) := by decide +kernel
theorem d_MO_sum_19 : decode b_MO_sum 19 = .ok (.aload_n 0, 1) := by decide +kernel
theorem d_MO_sum_20 : decode b_MO_sum 20 = .ok (.getfield 35, 3) := by decide +kernel
theorem d_MO_sum_23 : decode b_MO_sum 23 = .ok (.iconst 4, 1) := by decide +kernel
theorem d_MO_sum_24 : decode b_MO_sum 24 = .ok (.iload_n 1, 1) := by decide +kernel
theorem d_MO_sum_25 : decode b_MO_sum 25 = .ok (.imul, 1) := by decide +kernel
theorem d_MO_sum_26 : decode b_MO_sum 26 = .ok (.iconst 2, 1) := by decide +kernel
theorem d_MO_sum_27 : decode b_MO_sum 27 = .ok (.iadd, 1) := by decide +kernel
theorem d_MO_sum_28 : decode b_MO_sum 28 = .ok (.iaload, 1) := by decide +kernel
theorem d_MO_sum_29 : decode b_MO_sum 29 = .ok (.iadd, 1) := by decide +kernel
theorem d_MO_sum_30 : decode b_MO_sum 30 = .ok (.aload_n 0, 1) := by decide +kernel
theorem d_MO_sum_31 : decode b_MO_sum 31 = .ok (.getfield 35, 3) := by decide +kernel
theorem d_MO_sum_34 : decode b_MO_sum 34 = .ok (.iconst 4, 1) := by decide +kernel
theorem d_MO_sum_35 : decode b_MO_sum 35 = .ok (.iload_n 1, 1) := by decide +kernel
theorem d_MO_sum_36 : decode b_MO_sum 36 = .ok (.imul, 1) := by decide +kernel
theorem d_MO_sum_37 : decode b_MO_sum 37 = .ok (.iconst 3, 1) := by decide +kernel
theorem d_MO_sum_38 : decode b_MO_sum 38 = .ok (.iadd, 1) := by decide +kernel
theorem d_MO_sum_39 : decode b_MO_sum 39 = .ok (.iaload, 1) := by decide +kernel
theorem d_MO_sum_40 : decode b_MO_sum 40 = .ok (.iadd, 1) := by decide +kernel
theorem d_MO_sum_41 : decode b_MO_sum 41 = .ok (.istore_n 2, 1) := by decide +kernel
theorem d_MO_sum_42 : decode b_MO_sum 42 = .ok (.iload_n 2, 1) := by decide +kernel
theorem d_MO_sum_43 : decode b_MO_sum 43 = .ok (.ldc 150, 2) := by decide +kernel
theorem d_MO_sum_45 : decode b_MO_sum 45 = .ok (.if_icmp .le 8, 3) := by decide +kernel
theorem d_MO_sum_48 : decode b_MO_sum 48 = .ok (.ldc 151, 2) := by decide +kernel
theorem d_MO_sum_50 : decode b_MO_sum 50 = .ok (.goto 4, 3) := by decide +kernel
theorem d_MO_sum_53 : decode b_MO_sum 53 = .ok (.iload_n 2, 1) := by decide +kernel
theorem d_MO_sum_54 : decode b_MO_sum 54 = .ok (.ireturn, 1) := by decide +kernel
theorem d_MO_images_0 : decode b_MO_images 0 = .ok (.iconst 0, 1) := by decide +kernel
theorem d_MO_images_1 : decode b_MO_images 1 = .ok (.istore_n 2, 1) := by decide +kernel
theorem d_MO_images_2 : decode b_MO_images 2 = .ok (.iload_n 2, 1) := by decide +kernel
theorem d_MO_images_3 : decode b_MO_images 3 = .ok (.bipush 16, 2) := by decide +kernel
theorem d_MO_images_5 : decode b_MO_images 5 = .ok (.if_icmp .ge 26, 3) := by decide +kernel
theorem d_MO_images_8 : decode b_MO_images 8 = .ok (.aload_n 0, 1) := by decide +kernel
theorem d_MO_images_9 : decode b_MO_images 9 = .ok (.getfield 35, 3) := by decide +kernel
theorem d_MO_images_12 : decode b_MO_images 12 = .ok (.iload_n 2, 1) := by decide +kernel
theorem d_MO_images_13 : decode b_MO_images 13 = .ok (.iload_n 2, 1) := by decide +kernel
theorem d_MO_images_14 : decode b_MO_images 14 = .ok (.iconst 5, 1) := by decide +kernel
theorem d_MO_images_15 : decode b_MO_images 15 = .ok (.irem, 1) := by decide +kernel
theorem d_MO_images_16 : decode b_MO_images 16 = .ok (.ifCond .ne 7, 3) := by decide +kernel
theorem d_MO_images_19 : decode b_MO_images 19 = .ok (.iconst 1, 1) := by decide +kernel
theorem d_MO_images_20 : decode b_MO_images 20 = .ok (.goto 4, 3) := by decide +kernel
theorem d_MO_images_23 : decode b_MO_images 23 = .ok (.iconst 0, 1) := by decide +kernel
theorem d_MO_images_24 : decode b_MO_images 24 = .ok (.iastore, 1) := by decide +kernel
theorem d_MO_images_25 : decode b_MO_images 25 = .ok (.iinc 2 1, 3) := by decide +kernel
theorem d_MO_images_28 : decode b_MO_images 28 = .ok (.goto (-26), 3) := by decide +kernel
theorem d_MO_images_31 : decode b_MO_images 31 = .ok (.iconst 0, 1) := by decide +kernel
theorem d_MO_images_32 : decode b_MO_images 32 = .ok (.istore_n 2, 1) := by decide +kernel
theorem d_MO_images_33 : decode b_MO_images 33 = .ok (.iload_n 2, 1) := by decide +kernel
theorem d_MO_images_34 : decode b_MO_images 34 = .ok (.iload_n 1, 1) := by decide +kernel
theorem d_MO_images_35 : decode b_MO_images 35 = .ok (.if_icmp .ge 118, 3) := by decide +kernel
theorem d_MO_images_38 : decode b_MO_images 38 = .ok (.iconst 0, 1) := by decide +kernel
theorem d_MO_images_39 : decode b_MO_images 39 = .ok (.istore_n 3, 1) := by decide +kernel
theorem d_MO_images_40 : decode b_MO_images 40 = .ok (.iload_n 3, 1) := by decide +kernel
theorem d_MO_images_41 : decode b_MO_images 41 = .ok (.bipush 16, 2) := by decide +kernel
theorem d_MO_images_43 : decode b_MO_images 43 = .ok (.if_icmp .ge 78, 3) := by decide +kernel
theorem d_MO_images_46 : decode b_MO_images 46 = .ok (.iconst 0, 1) := by decide +kernel
theorem d_MO_images_47 : decode b_MO_images 47 = .ok (.istore 4, 2) := by decide +kernel
theorem d_MO_images_49 : decode b_MO_images 49 = .ok (.iconst 0, 1) := by decide +kernel
theorem d_MO_images_50 : decode b_MO_images 50 = .ok (.istore 5, 2) := by decide +kernel
theorem d_MO_images_52 : decode b_MO_images 52 = .ok (.iload 5, 2) := by decide +kernel
theorem d_MO_images_54 : decode b_MO_images 54 = .ok (.aload_n 0, 1) := by decide +kernel
theorem d_MO_images_55 : decode b_MO_images 55 = .ok (.iload_n 3, 1) := by decide +kernel
theorem d_MO_images_56 : decode b_MO_images 56 = .ok (.iconst 4, 1) := by decide +kernel
theorem d_MO_images_57 : decode b_MO_images 57 = .ok (.idiv, 1) := by decide +kernel
theorem d_MO_images_58 : decode b_MO_images 58 = .ok (.invokevirtual 52, 3) := by decide +kernel
theorem d_MO_images_61 : decode b_MO_images 61 = .ok (.if_icmp .ge 34, 3) := by decide +kernel
theorem d_MO_images_64 : decode b_MO_images 64 = .ok (.iload 4, 2) := by decide +kernel
theorem d_MO_images_66 : decode b_MO_images 66 = .ok (.aload_n 0, 1) := by decide +kernel
theorem d_MO_images_67 : decode b_MO_images 67 = .ok (.getfield 35, 3) := by decide +kernel
theorem d_MO_images_70 : decode b_MO_images 70 = .ok (.iconst 4, 1) := by decide +kernel
theorem d_MO_images_71 : decode b_MO_images 71 = .ok (.aload_n 0, 1) := by decide +kernel
theorem d_MO_images_72 : decode b_MO_images 72 = .ok (.iload_n 3, 1) := by decide +kernel
theorem d_MO_images_73 : decode b_MO_images 73 = .ok (.iconst 4, 1) := by decide +kernel
theorem d_MO_images_74 : decode b_MO_images 74 = .ok (.idiv, 1) := by decide +kernel
theorem d_MO_images_75 : decode b_MO_images 75 = .ok (.iload 5, 2) := by decide +kernel
theorem d_MO_images_77 : decode b_MO_images 77 = .ok (.invokevirtual 56, 3) := by decide +kernel
theorem d_MO_images_80 : decode b_MO_images 80 = .ok (.imul, 1) := by decide +kernel
theorem d_MO_images_81 : decode b_MO_images 81 = .ok (.iload_n 3, 1) := by decide +kernel
theorem d_MO_images_82 : decode b_MO_images 82 = .ok (.iconst 4, 1) := by decide +kernel
theorem d_MO_images_83 : decode b_MO_images 83 = .ok (.irem, 1) := by decide +kernel
theorem d_MO_images_84 : decode b_MO_images 84 = .ok (.iadd, 1) := by decide +kernel
theorem d_MO_images_85 : decode b_MO_images 85 = .ok (.iaload, 1) := by decide +kernel
theorem d_MO_images_86 : decode b_MO_images 86 = .ok (.iadd, 1) := by decide +kernel
theorem d_MO_images_87 : decode b_MO_images 87 = .ok (.istore 4, 2) := by decide +kernel
theorem d_MO_images_89 : decode b_MO_images 89 = .ok (.iinc 5 1, 3) := by decide +kernel
theorem d_MO_images_92 : decode b_MO_images 92 = .ok (.goto (-40), 3) := by decide +kernel
theorem d_MO_images_95 : decode b_MO_images 95 = .ok (.aload_n 0, 1) := by decide +kernel
theorem d_MO_images_96 : decode b_MO_images 96 = .ok (.getfield 38, 3) := by decide +kernel
theorem d_MO_images_99 : decode b_MO_images 99 = .ok (.iload_n 3, 1) := by decide +kernel
theorem d_MO_images_100 : decode b_MO_images 100 = .ok (.iload 4, 2) := by decide +kernel
theorem d_MO_images_102 : decode b_MO_images 102 = .ok (.ldc 150, 2) := by decide +kernel
theorem d_MO_images_104 : decode b_MO_images 104 = .ok (.if_icmp .le 8, 3) := by decide +kernel
theorem d_MO_images_107 : decode b_MO_images 107 = .ok (.ldc 151, 2) := by decide +kernel
theorem d_MO_images_109 : decode b_MO_images 109 = .ok (.goto 5, 3) := by decide +kernel
theorem d_MO_images_112 : decode b_MO_images 112 = .ok (.iload 4, 2) := by decide +kernel
theorem d_MO_images_114 : decode b_MO_images 114 = .ok (.iastore, 1) := by decide +kernel
theorem d_MO_images_115 : decode b_MO_images 115 = .ok (.iinc 3 1, 3) := by decide +kernel
theorem d_MO_images_118 : decode b_MO_images 118 = .ok (.goto (-78), 3) := by decide +kernel
theorem d_MO_images_121 : decode b_MO_images 121 = .ok (.iconst 0, 1) := by decide +kernel
theorem d_MO_images_122 : decode b_MO_images 122 = .ok (.istore_n 3, 1) := by decide +kernel
theorem d_MO_images_123 : decode b_MO_images 123 = .ok (.iload_n 3, 1) := by decide +kernel
theorem d_MO_images_124 : decode b_MO_images 124 = .ok (.bipush 16, 2) := by decide +kernel
theorem d_MO_images_126 : decode b_MO_images 126 = .ok (.if_icmp .ge 21, 3) := by decide +kernel
theorem d_MO_images_129 : decode b_MO_images 129 = .ok (.aload_n 0, 1) := by decide +kernel
theorem d_MO_images_130 : decode b_MO_images 130 = .ok (.getfield 35, 3) := by decide +kernel
theorem d_MO_images_133 : decode b_MO_images 133 = .ok (.iload_n 3, 1) := by decide +kernel
theorem d_MO_images_134 : decode b_MO_images 134 = .ok (.aload_n 0, 1) := by decide +kernel
theorem d_MO_images_135 : decode b_MO_images 135 = .ok (.getfield 38, 3) := by decide +kernel
theorem d_MO_images_138 : decode b_MO_images 138 = .ok (.iload_n 3, 1) := by decide +kernel
theorem d_MO_images_139 : decode b_MO_images 139 = .ok (.iaload, 1) := by decide +kernel
theorem d_MO_images_140 : decode b_MO_images 140 = .ok (.iastore, 1) := by decide +kernel
theorem d_MO_images_141 : decode b_MO_images 141 = .ok (.iinc 3 1, 3) := by decide +kernel
theorem d_MO_images_144 : decode b_MO_images 144 = .ok (.goto (-21), 3) := by decide +kernel
theorem d_MO_images_147 : decode b_MO_images 147 = .ok (.iinc 2 1, 3) := by decide +kernel
theorem d_MO_images_150 : decode b_MO_images 150 = .ok (.goto (-117), 3) := by decide +kernel
theorem d_MO_images_153 : decode b_MO_images 153 = .ok (.return_, 1) := by decide +kernel
theorem d_MO_lengthBehind_0 : decode b_MO_lengthBehind 0 = .ok (.iload_n 1, 1) := by decide +kernel
theorem d_MO_lengthBehind_1 : decode b_MO_lengthBehind 1 = .ok (.invokestatic 89, 3) := by decide +kernel
theorem d_MO_lengthBehind_4 : decode b_MO_lengthBehind 4 = .ok (.ifCond .eq 5, 3) := by decide +kernel
theorem d_MO_lengthBehind_7 : decode b_MO_lengthBehind 7 = .ok (.iconst (-1), 1) := by decide +kernel
theorem d_MO_lengthBehind_8 : decode b_MO_lengthBehind 8 = .ok (.ireturn, 1) := by decide +kernel
theorem d_MO_lengthBehind_9 : decode b_MO_lengthBehind 9 = .ok (.iload_n 2, 1) := by decide +kernel
theorem d_MO_lengthBehind_10 : decode b_MO_lengthBehind 10 = .ok (.iconst 0, 1) := by decide +kernel
theorem d_MO_lengthBehind_11 : decode b_MO_lengthBehind 11 = .ok (.bipush 30, 2) := by decide +kernel
theorem d_MO_lengthBehind_13 : decode b_MO_lengthBehind 13 = .ok (.invokestatic 44, 3) := by decide +kernel
theorem d_MO_lengthBehind_16 : decode b_MO_lengthBehind 16 = .ok (.ifCond .ne 6, 3) := by decide +kernel
theorem d_MO_lengthBehind_19 : decode b_MO_lengthBehind 19 = .ok (.bipush (-2), 2) := by decide +kernel
theorem d_MO_lengthBehind_21 : decode b_MO_lengthBehind 21 = .ok (.ireturn, 1) := by decide +kernel
theorem d_MO_lengthBehind_22 : decode b_MO_lengthBehind 22 = .ok (.aload_n 0, 1) := by decide +kernel
theorem d_MO_lengthBehind_23 : decode b_MO_lengthBehind 23 = .ok (.iload_n 2, 1) := by decide +kernel
theorem d_MO_lengthBehind_24 : decode b_MO_lengthBehind 24 = .ok (.invokevirtual 152, 3) := by decide +kernel
theorem d_MO_lengthBehind_27 : decode b_MO_lengthBehind 27 = .ok (.aload_n 0, 1) := by decide +kernel
theorem d_MO_lengthBehind_28 : decode b_MO_lengthBehind 28 = .ok (.iload_n 1, 1) := by decide +kernel
theorem d_MO_lengthBehind_29 : decode b_MO_lengthBehind 29 = .ok (.invokevirtual 156, 3) := by decide +kernel
theorem d_MO_lengthBehind_32 : decode b_MO_lengthBehind 32 = .ok (.ldc 150, 2) := by decide +kernel
theorem d_MO_lengthBehind_34 : decode b_MO_lengthBehind 34 = .ok (.if_icmp .le 8, 3) := by decide +kernel
theorem d_MO_lengthBehind_37 : decode b_MO_lengthBehind 37 = .ok (.bipush (-3), 2) := by decide +kernel
theorem d_MO_lengthBehind_39 : decode b_MO_lengthBehind 39 = .ok (.goto 8, 3) := by decide +kernel
theorem d_MO_lengthBehind_42 : decode b_MO_lengthBehind 42 = .ok (.aload_n 0, 1) := by decide +kernel
theorem d_MO_lengthBehind_43 : decode b_MO_lengthBehind 43 = .ok (.iload_n 1, 1) := by decide +kernel
theorem d_MO_lengthBehind_44 : decode b_MO_lengthBehind 44 = .ok (.invokevirtual 156, 3) := by decide +kernel
theorem d_MO_lengthBehind_47 : decode b_MO_lengthBehind 47 = .ok (.ireturn, 1) := by decide +kernel
theorem d_MO_countBehind_0 : decode b_MO_countBehind 0 = .ok (.iload_n 1, 1) := by decide +kernel
theorem d_MO_countBehind_1 : decode b_MO_countBehind 1 = .ok (.invokestatic 89, 3) := by decide +kernel
theorem d_MO_countBehind_4 : decode b_MO_countBehind 4 = .ok (.ifCond .ne 10, 3) := by decide +kernel
theorem d_MO_countBehind_7 : decode b_MO_countBehind 7 = .ok (.iload_n 2, 1) := by decide +kernel
theorem d_MO_countBehind_8 : decode b_MO_countBehind 8 = .ok (.invokestatic 89, 3) := by decide +kernel
theorem d_MO_countBehind_11 : decode b_MO_countBehind 11 = .ok (.ifCond .eq 5, 3) := by decide +kernel
theorem d_MO_countBehind_14 : decode b_MO_countBehind 14 = .ok (.iconst (-1), 1) := by decide +kernel
theorem d_MO_countBehind_15 : decode b_MO_countBehind 15 = .ok (.ireturn, 1) := by decide +kernel
theorem d_MO_countBehind_16 : decode b_MO_countBehind 16 = .ok (.iload_n 3, 1) := by decide +kernel
theorem d_MO_countBehind_17 : decode b_MO_countBehind 17 = .ok (.iconst 0, 1) := by decide +kernel
theorem d_MO_countBehind_18 : decode b_MO_countBehind 18 = .ok (.bipush 30, 2) := by decide +kernel
theorem d_MO_countBehind_20 : decode b_MO_countBehind 20 = .ok (.invokestatic 44, 3) := by decide +kernel
theorem d_MO_countBehind_23 : decode b_MO_countBehind 23 = .ok (.ifCond .ne 6, 3) := by decide +kernel
theorem d_MO_countBehind_26 : decode b_MO_countBehind 26 = .ok (.bipush (-2), 2) := by decide +kernel
theorem d_MO_countBehind_28 : decode b_MO_countBehind 28 = .ok (.ireturn, 1) := by decide +kernel
theorem d_MO_countBehind_29 : decode b_MO_countBehind 29 = .ok (.aload_n 0, 1) := by decide +kernel
theorem d_MO_countBehind_30 : decode b_MO_countBehind 30 = .ok (.iload_n 3, 1) := by decide +kernel
theorem d_MO_countBehind_31 : decode b_MO_countBehind 31 = .ok (.invokevirtual 152, 3) := by decide +kernel
theorem d_MO_countBehind_34 : decode b_MO_countBehind 34 = .ok (.aload_n 0, 1) := by decide +kernel
theorem d_MO_countBehind_35 : decode b_MO_countBehind 35 = .ok (.iload_n 1, 1) := by decide +kernel
theorem d_MO_countBehind_36 : decode b_MO_countBehind 36 = .ok (.invokevirtual 156, 3) := by decide +kernel
theorem d_MO_countBehind_39 : decode b_MO_countBehind 39 = .ok (.ldc 150, 2) := by decide +kernel
theorem d_MO_countBehind_41 : decode b_MO_countBehind 41 = .ok (.if_icmp .le 8, 3) := by decide +kernel
theorem d_MO_countBehind_44 : decode b_MO_countBehind 44 = .ok (.bipush (-3), 2) := by decide +kernel
theorem d_MO_countBehind_46 : decode b_MO_countBehind 46 = .ok (.goto 13, 3) := by decide +kernel
theorem d_MO_countBehind_49 : decode b_MO_countBehind 49 = .ok (.aload_n 0, 1) := by decide +kernel
theorem d_MO_countBehind_50 : decode b_MO_countBehind 50 = .ok (.getfield 35, 3) := by decide +kernel
theorem d_MO_countBehind_53 : decode b_MO_countBehind 53 = .ok (.iconst 4, 1) := by decide +kernel
theorem d_MO_countBehind_54 : decode b_MO_countBehind 54 = .ok (.iload_n 1, 1) := by decide +kernel
theorem d_MO_countBehind_55 : decode b_MO_countBehind 55 = .ok (.imul, 1) := by decide +kernel
theorem d_MO_countBehind_56 : decode b_MO_countBehind 56 = .ok (.iload_n 2, 1) := by decide +kernel
theorem d_MO_countBehind_57 : decode b_MO_countBehind 57 = .ok (.iadd, 1) := by decide +kernel
theorem d_MO_countBehind_58 : decode b_MO_countBehind 58 = .ok (.iaload, 1) := by decide +kernel
theorem d_MO_countBehind_59 : decode b_MO_countBehind 59 = .ok (.ireturn, 1) := by decide +kernel
theorem d_MO_mixing_0 : decode b_MO_mixing 0 = .ok (.aload_n 0, 1) := by decide +kernel
theorem d_MO_mixing_1 : decode b_MO_mixing 1 = .ok (.iconst 0, 1) := by decide +kernel
theorem d_MO_mixing_2 : decode b_MO_mixing 2 = .ok (.invokevirtual 147, 3) := by decide +kernel
theorem d_MO_mixing_5 : decode b_MO_mixing 5 = .ok (.istore_n 1, 1) := by decide +kernel
theorem d_MO_mixing_6 : decode b_MO_mixing 6 = .ok (.iconst 0, 1) := by decide +kernel
theorem d_MO_mixing_7 : decode b_MO_mixing 7 = .ok (.istore_n 2, 1) := by decide +kernel
theorem d_MO_mixing_8 : decode b_MO_mixing 8 = .ok (.iload_n 2, 1) := by decide +kernel
theorem d_MO_mixing_9 : decode b_MO_mixing 9 = .ok (.iconst 4, 1) := by decide +kernel
theorem d_MO_mixing_10 : decode b_MO_mixing 10 = .ok (.if_icmp .ge 18, 3) := by decide +kernel
theorem d_MO_mixing_13 : decode b_MO_mixing 13 = .ok (.aload_n 0, 1) := by decide +kernel
theorem d_MO_mixing_14 : decode b_MO_mixing 14 = .ok (.getfield 41, 3) := by decide +kernel
theorem d_MO_mixing_17 : decode b_MO_mixing 17 = .ok (.iload_n 2, 1) := by decide +kernel
theorem d_MO_mixing_18 : decode b_MO_mixing 18 = .ok (.iconst 1, 1) := by decide +kernel
theorem d_MO_mixing_19 : decode b_MO_mixing 19 = .ok (.iload_n 2, 1) := by decide +kernel
theorem d_MO_mixing_20 : decode b_MO_mixing 20 = .ok (.ishl, 1) := by decide +kernel
theorem d_MO_mixing_21 : decode b_MO_mixing 21 = .ok (.iastore, 1) := by decide +kernel
theorem d_MO_mixing_22 : decode b_MO_mixing 22 = .ok (.iinc 2 1, 3) := by decide +kernel
theorem d_MO_mixing_25 : decode b_MO_mixing 25 = .ok (.goto (-17), 3) := by decide +kernel
theorem d_MO_mixing_28 : decode b_MO_mixing 28 = .ok (.iconst 1, 1) := by decide +kernel
theorem d_MO_mixing_29 : decode b_MO_mixing 29 = .ok (.istore_n 2, 1) := by decide +kernel
theorem d_MO_mixing_30 : decode b_MO_mixing 30 = .ok (.iload_n 2, 1) := by decide +kernel
theorem d_MO_mixing_31 : decode b_MO_mixing 31 = .ok (.bipush 16, 2) := by decide +kernel
theorem d_MO_mixing_33 : decode b_MO_mixing 33 = .ok (.if_icmp .gt 80, 3) := by decide +kernel
theorem d_MO_mixing_36 : decode b_MO_mixing 36 = .ok (.iconst 1, 1) := by decide +kernel
theorem d_MO_mixing_37 : decode b_MO_mixing 37 = .ok (.istore_n 3, 1) := by decide +kernel
theorem d_MO_mixing_38 : decode b_MO_mixing 38 = .ok (.iconst 0, 1) := by decide +kernel
theorem d_MO_mixing_39 : decode b_MO_mixing 39 = .ok (.istore 4, 2) := by decide +kernel
theorem d_MO_mixing_41 : decode b_MO_mixing 41 = .ok (.iload 4, 2) := by decide +kernel
theorem d_MO_mixing_43 : decode b_MO_mixing 43 = .ok (.iconst 4, 1) := by decide +kernel
theorem d_MO_mixing_44 : decode b_MO_mixing 44 = .ok (.if_icmp .ge 57, 3) := by decide +kernel
theorem d_MO_mixing_47 : decode b_MO_mixing 47 = .ok (.aload_n 0, 1) := by decide +kernel
theorem d_MO_mixing_48 : decode b_MO_mixing 48 = .ok (.getfield 41, 3) := by decide +kernel
theorem d_MO_mixing_51 : decode b_MO_mixing 51 = .ok (.iload 4, 2) := by decide +kernel
theorem d_MO_mixing_53 : decode b_MO_mixing 53 = .ok (.aload_n 0, 1) := by decide +kernel
theorem d_MO_mixing_54 : decode b_MO_mixing 54 = .ok (.aload_n 0, 1) := by decide +kernel
theorem d_MO_mixing_55 : decode b_MO_mixing 55 = .ok (.getfield 41, 3) := by decide +kernel
theorem d_MO_mixing_58 : decode b_MO_mixing 58 = .ok (.iload 4, 2) := by decide +kernel
theorem d_MO_mixing_60 : decode b_MO_mixing 60 = .ok (.iaload, 1) := by decide +kernel
theorem d_MO_mixing_61 : decode b_MO_mixing 61 = .ok (.invokevirtual 144, 3) := by decide +kernel
theorem d_MO_mixing_64 : decode b_MO_mixing 64 = .ok (.iastore, 1) := by decide +kernel
theorem d_MO_mixing_65 : decode b_MO_mixing 65 = .ok (.iload_n 3, 1) := by decide +kernel
theorem d_MO_mixing_66 : decode b_MO_mixing 66 = .ok (.iload_n 1, 1) := by decide +kernel
theorem d_MO_mixing_67 : decode b_MO_mixing 67 = .ok (.iload 4, 2) := by decide +kernel
theorem d_MO_mixing_69 : decode b_MO_mixing 69 = .ok (.ishr, 1) := by decide +kernel
theorem d_MO_mixing_70 : decode b_MO_mixing 70 = .ok (.iconst 1, 1) := by decide +kernel
theorem d_MO_mixing_71 : decode b_MO_mixing 71 = .ok (.iand, 1) := by decide +kernel
theorem d_MO_mixing_72 : decode b_MO_mixing 72 = .ok (.ifCond .eq 16, 3) := by decide +kernel
theorem d_MO_mixing_75 : decode b_MO_mixing 75 = .ok (.aload_n 0, 1) := by decide +kernel
theorem d_MO_mixing_76 : decode b_MO_mixing 76 = .ok (.getfield 41, 3) := by decide +kernel
theorem d_MO_mixing_79 : decode b_MO_mixing 79 = .ok (.iload 4, 2) := by decide +kernel
theorem d_MO_mixing_81 : decode b_MO_mixing 81 = .ok (.iaload, 1) := by decide +kernel
theorem d_MO_mixing_82 : decode b_MO_mixing 82 = .ok (.iload_n 1, 1) := by decide +kernel
theorem d_MO_mixing_83 : decode b_MO_mixing 83 = .ok (.iand, 1) := by decide +kernel
theorem d_MO_mixing_84 : decode b_MO_mixing 84 = .ok (.iload_n 1, 1) := by decide +kernel
theorem d_MO_mixing_85 : decode b_MO_mixing 85 = .ok (.if_icmp .ne 7, 3) := by decide +kernel
theorem d_MO_mixing_88 : decode b_MO_mixing 88 = .ok (.iconst 1, 1) := by decide +kernel
theorem d_MO_mixing_89 : decode b_MO_mixing 89 = .ok (.goto 4, 3) := by decide +kernel
theorem d_MO_mixing_92 : decode b_MO_mixing 92 = .ok (.iconst 0, 1) := by decide +kernel
theorem d_MO_mixing_93 : decode b_MO_mixing 93 = .ok (.iand, 1) := by decide +kernel
theorem d_MO_mixing_94 : decode b_MO_mixing 94 = .ok (.istore_n 3, 1) := by decide +kernel
theorem d_MO_mixing_95 : decode b_MO_mixing 95 = .ok (.iinc 4 1, 3) := by decide +kernel
theorem d_MO_mixing_98 : decode b_MO_mixing 98 = .ok (.goto (-57), 3) := by decide +kernel
theorem d_MO_mixing_101 : decode b_MO_mixing 101 = .ok (.iload_n 3, 1) := by decide +kernel
theorem d_MO_mixing_102 : decode b_MO_mixing 102 = .ok (.ifCond .eq 5, 3) := by decide +kernel
theorem d_MO_mixing_105 : decode b_MO_mixing 105 = .ok (.iload_n 2, 1) := by decide +kernel
theorem d_MO_mixing_106 : decode b_MO_mixing 106 = .ok (.ireturn, 1) := by decide +kernel
theorem d_MO_mixing_107 : decode b_MO_mixing 107 = .ok (.iinc 2 1, 3) := by decide +kernel
theorem d_MO_mixing_110 : decode b_MO_mixing 110 = .ok (.goto (-80), 3) := by decide +kernel
theorem d_MO_mixing_113 : decode b_MO_mixing 113 = .ok (.bipush (-5), 2) := by decide +kernel
theorem d_MO_mixing_115 : decode b_MO_mixing 115 = .ok (.ireturn, 1) := by decide +kernel
theorem d_MO_at_0 : decode b_MO_at 0 = .ok (.iload_n 1, 1) := by decide +kernel
theorem d_MO_at_1 : decode b_MO_at 1 = .ok (.iconst 0, 1) := by decide +kernel
theorem d_MO_at_2 : decode b_MO_at 2 = .ok (.aload_n 0, 1) := by decide +kernel
theorem d_MO_at_3 : decode b_MO_at 3 = .ok (.invokevirtual 60, 3) := by decide +kernel
theorem d_MO_at_6 : decode b_MO_at 6 = .ok (.iconst 1, 1) := by decide +kernel
theorem d_MO_at_7 : decode b_MO_at 7 = .ok (.isub, 1) := by decide +kernel
theorem d_MO_at_8 : decode b_MO_at 8 = .ok (.invokestatic 44, 3) := by decide +kernel
theorem d_MO_at_11 : decode b_MO_at 11 = .ok (.ifCond .eq 11, 3) := by decide +kernel
theorem d_MO_at_14 : decode b_MO_at 14 = .ok (.aload_n 0, 1) := by decide +kernel
theorem d_MO_at_15 : decode b_MO_at 15 = .ok (.iload_n 1, 1) := by decide +kernel
theorem d_MO_at_16 : decode b_MO_at 16 = .ok (.invokevirtual 64, 3) := by decide +kernel
theorem d_MO_at_19 : decode b_MO_at 19 = .ok (.goto 4, 3) := by decide +kernel
theorem d_MO_at_22 : decode b_MO_at 22 = .ok (.iconst (-1), 1) := by decide +kernel
theorem d_MO_at_23 : decode b_MO_at 23 = .ok (.ireturn, 1) := by decide +kernel
theorem d_MO_isSamePiece_0 : decode b_MO_isSamePiece 0 = .ok (.iconst 1, 1) := by decide +kernel
theorem d_MO_isSamePiece_1 : decode b_MO_isSamePiece 1 = .ok (.istore 4, 2) := by decide +kernel
theorem d_MO_isSamePiece_3 : decode b_MO_isSamePiece 3 = .ok (.iconst 0, 1) := by decide +kernel
theorem d_MO_isSamePiece_4 : decode b_MO_isSamePiece 4 = .ok (.istore 5, 2) := by decide +kernel
theorem d_MO_isSamePiece_6 : decode b_MO_isSamePiece 6 = .ok (.iload 5, 2) := by decide +kernel
theorem d_MO_isSamePiece_8 : decode b_MO_isSamePiece 8 = .ok (.iload_n 3, 1) := by decide +kernel
theorem d_MO_isSamePiece_9 : decode b_MO_isSamePiece 9 = .ok (.if_icmp .ge 40, 3) := by decide +kernel
theorem d_MO_isSamePiece_12 : decode b_MO_isSamePiece 12 = .ok (.iload 4, 2) := by decide +kernel
theorem d_MO_isSamePiece_14 : decode b_MO_isSamePiece 14 = .ok (.ifCond .eq 35, 3) := by decide +kernel
theorem d_MO_isSamePiece_17 : decode b_MO_isSamePiece 17 = .ok (.aload_n 0, 1) := by decide +kernel
theorem d_MO_isSamePiece_18 : decode b_MO_isSamePiece 18 = .ok (.iload_n 1, 1) := by decide +kernel
theorem d_MO_isSamePiece_19 : decode b_MO_isSamePiece 19 = .ok (.iload 5, 2) := by decide +kernel
theorem d_MO_isSamePiece_21 : decode b_MO_isSamePiece 21 = .ok (.iadd, 1) := by decide +kernel
theorem d_MO_isSamePiece_22 : decode b_MO_isSamePiece 22 = .ok (.invokevirtual 64, 3) := by decide +kernel
theorem d_MO_isSamePiece_25 : decode b_MO_isSamePiece 25 = .ok (.aload_n 0, 1) := by decide +kernel
theorem d_MO_isSamePiece_26 : decode b_MO_isSamePiece 26 = .ok (.iload_n 2, 1) := by decide +kernel
theorem d_MO_isSamePiece_27 : decode b_MO_isSamePiece 27 = .ok (.iload 5, 2) := by decide +kernel
theorem d_MO_isSamePiece_29 : decode b_MO_isSamePiece 29 = .ok (.iadd, 1) := by decide +kernel
theorem d_MO_isSamePiece_30 : decode b_MO_isSamePiece 30 = .ok (.invokevirtual 64, 3) := by decide +kernel
theorem d_MO_isSamePiece_33 : decode b_MO_isSamePiece 33 = .ok (.if_icmp .ne 7, 3) := by decide +kernel
theorem d_MO_isSamePiece_36 : decode b_MO_isSamePiece 36 = .ok (.iconst 1, 1) := by decide +kernel
theorem d_MO_isSamePiece_37 : decode b_MO_isSamePiece 37 = .ok (.goto 4, 3) := by decide +kernel
theorem d_MO_isSamePiece_40 : decode b_MO_isSamePiece 40 = .ok (.iconst 0, 1) := by decide +kernel
theorem d_MO_isSamePiece_41 : decode b_MO_isSamePiece 41 = .ok (.istore 4, 2) := by decide +kernel
theorem d_MO_isSamePiece_43 : decode b_MO_isSamePiece 43 = .ok (.iinc 5 1, 3) := by decide +kernel
theorem d_MO_isSamePiece_46 : decode b_MO_isSamePiece 46 = .ok (.goto (-40), 3) := by decide +kernel
theorem d_MO_isSamePiece_49 : decode b_MO_isSamePiece 49 = .ok (.iload 4, 2) := by decide +kernel
theorem d_MO_isSamePiece_51 : decode b_MO_isSamePiece 51 = .ok (.ireturn, 1) := by decide +kernel
theorem d_MO_isMirrored_0 : decode b_MO_isMirrored 0 = .ok (.iconst 1, 1) := by decide +kernel
theorem d_MO_isMirrored_1 : decode b_MO_isMirrored 1 = .ok (.istore_n 3, 1) := by decide +kernel
theorem d_MO_isMirrored_2 : decode b_MO_isMirrored 2 = .ok (.iconst 0, 1) := by decide +kernel
theorem d_MO_isMirrored_3 : decode b_MO_isMirrored 3 = .ok (.istore 4, 2) := by decide +kernel
theorem d_MO_isMirrored_5 : decode b_MO_isMirrored 5 = .ok (.iload 4, 2) := by decide +kernel
theorem d_MO_isMirrored_7 : decode b_MO_isMirrored 7 = .ok (.iload_n 2, 1) := by decide +kernel
theorem d_MO_isMirrored_8 : decode b_MO_isMirrored 8 = .ok (.iconst 2, 1) := by decide +kernel
theorem d_MO_isMirrored_9 : decode b_MO_isMirrored 9 = .ok (.idiv, 1) := by decide +kernel
theorem d_MO_isMirrored_10 : decode b_MO_isMirrored 10 = .ok (.if_icmp .ge 42, 3) := by decide +kernel
theorem d_MO_isMirrored_13 : decode b_MO_isMirrored 13 = .ok (.iload_n 3, 1) := by decide +kernel
theorem d_MO_isMirrored_14 : decode b_MO_isMirrored 14 = .ok (.ifCond .eq 38, 3) := by decide +kernel
theorem d_MO_isMirrored_17 : decode b_MO_isMirrored 17 = .ok (.aload_n 0, 1) := by decide +kernel
theorem d_MO_isMirrored_18 : decode b_MO_isMirrored 18 = .ok (.iload_n 1, 1) := by decide +kernel
theorem d_MO_isMirrored_19 : decode b_MO_isMirrored 19 = .ok (.iload 4, 2) := by decide +kernel
theorem d_MO_isMirrored_21 : decode b_MO_isMirrored 21 = .ok (.iadd, 1) := by decide +kernel
theorem d_MO_isMirrored_22 : decode b_MO_isMirrored 22 = .ok (.invokevirtual 64, 3) := by decide +kernel
theorem d_MO_isMirrored_25 : decode b_MO_isMirrored 25 = .ok (.aload_n 0, 1) := by decide +kernel
theorem d_MO_isMirrored_26 : decode b_MO_isMirrored 26 = .ok (.iload_n 1, 1) := by decide +kernel
theorem d_MO_isMirrored_27 : decode b_MO_isMirrored 27 = .ok (.iload_n 2, 1) := by decide +kernel
theorem d_MO_isMirrored_28 : decode b_MO_isMirrored 28 = .ok (.iadd, 1) := by decide +kernel
theorem d_MO_isMirrored_29 : decode b_MO_isMirrored 29 = .ok (.iconst 1, 1) := by decide +kernel
theorem d_MO_isMirrored_30 : decode b_MO_isMirrored 30 = .ok (.isub, 1) := by decide +kernel
theorem d_MO_isMirrored_31 : decode b_MO_isMirrored 31 = .ok (.iload 4, 2) := by decide +kernel
theorem d_MO_isMirrored_33 : decode b_MO_isMirrored 33 = .ok (.isub, 1) := by decide +kernel
theorem d_MO_isMirrored_34 : decode b_MO_isMirrored 34 = .ok (.invokevirtual 64, 3) := by decide +kernel
theorem d_MO_isMirrored_37 : decode b_MO_isMirrored 37 = .ok (.if_icmp .ne 7, 3) := by decide +kernel
theorem d_MO_isMirrored_40 : decode b_MO_isMirrored 40 = .ok (.iconst 1, 1) := by decide +kernel
theorem d_MO_isMirrored_41 : decode b_MO_isMirrored 41 = .ok (.goto 4, 3) := by decide +kernel
theorem d_MO_isMirrored_44 : decode b_MO_isMirrored 44 = .ok (.iconst 0, 1) := by decide +kernel
theorem d_MO_isMirrored_45 : decode b_MO_isMirrored 45 = .ok (.istore_n 3, 1) := by decide +kernel
theorem d_MO_isMirrored_46 : decode b_MO_isMirrored 46 = .ok (.iinc 4 1, 3) := by decide +kernel
theorem d_MO_isMirrored_49 : decode b_MO_isMirrored 49 = .ok (.goto (-44), 3) := by decide +kernel
theorem d_MO_isMirrored_52 : decode b_MO_isMirrored 52 = .ok (.iload_n 3, 1) := by decide +kernel
theorem d_MO_isMirrored_53 : decode b_MO_isMirrored 53 = .ok (.ireturn, 1) := by decide +kernel
theorem d_MO_around_0 : decode b_MO_around 0 = .ok (.iconst 0, 1) := by decide +kernel
theorem d_MO_around_1 : decode b_MO_around 1 = .ok (.istore 4, 2) := by decide +kernel
theorem d_MO_around_3 : decode b_MO_around 3 = .ok (.iconst 0, 1) := by decide +kernel
theorem d_MO_around_4 : decode b_MO_around 4 = .ok (.istore 5, 2) := by decide +kernel
theorem d_MO_around_6 : decode b_MO_around 6 = .ok (.iload 5, 2) := by decide +kernel
theorem d_MO_around_8 : decode b_MO_around 8 = .ok (.iload_n 2, 1) := by decide +kernel
theorem d_MO_around_9 : decode b_MO_around 9 = .ok (.iadd, 1) := by decide +kernel
theorem d_MO_around_10 : decode b_MO_around 10 = .ok (.aload_n 0, 1) := by decide +kernel
theorem d_MO_around_11 : decode b_MO_around 11 = .ok (.invokevirtual 60, 3) := by decide +kernel
theorem d_MO_around_14 : decode b_MO_around 14 = .ok (.if_icmp .gt 65, 3) := by decide +kernel
theorem d_MO_around_17 : decode b_MO_around 17 = .ok (.iload_n 3, 1) := by decide +kernel
theorem d_MO_around_18 : decode b_MO_around 18 = .ok (.ifCond .eq 10, 3) := by decide +kernel
theorem d_MO_around_21 : decode b_MO_around 21 = .ok (.iload 5, 2) := by decide +kernel
theorem d_MO_around_23 : decode b_MO_around 23 = .ok (.iconst 1, 1) := by decide +kernel
theorem d_MO_around_24 : decode b_MO_around 24 = .ok (.isub, 1) := by decide +kernel
theorem d_MO_around_25 : decode b_MO_around 25 = .ok (.goto 7, 3) := by decide +kernel
theorem d_MO_around_28 : decode b_MO_around 28 = .ok (.iload 5, 2) := by decide +kernel
theorem d_MO_around_30 : decode b_MO_around 30 = .ok (.iload_n 2, 1) := by decide +kernel
theorem d_MO_around_31 : decode b_MO_around 31 = .ok (.iadd, 1) := by decide +kernel
theorem d_MO_around_32 : decode b_MO_around 32 = .ok (.istore 6, 2) := by decide +kernel
theorem d_MO_around_34 : decode b_MO_around 34 = .ok (.iload 6, 2) := by decide +kernel
theorem d_MO_around_36 : decode b_MO_around 36 = .ok (.iconst 0, 1) := by decide +kernel
theorem d_MO_around_37 : decode b_MO_around 37 = .ok (.aload_n 0, 1) := by decide +kernel
theorem d_MO_around_38 : decode b_MO_around 38 = .ok (.invokevirtual 60, 3) := by decide +kernel
theorem d_MO_around_41 : decode b_MO_around 41 = .ok (.iconst 1, 1) := by decide +kernel
theorem d_MO_around_42 : decode b_MO_around 42 = .ok (.isub, 1) := by decide +kernel
theorem d_MO_around_43 : decode b_MO_around 43 = .ok (.invokestatic 44, 3) := by decide +kernel
theorem d_MO_around_46 : decode b_MO_around 46 = .ok (.ifCond .eq 27, 3) := by decide +kernel
theorem d_MO_around_49 : decode b_MO_around 49 = .ok (.aload_n 0, 1) := by decide +kernel
theorem d_MO_around_50 : decode b_MO_around 50 = .ok (.iload_n 1, 1) := by decide +kernel
theorem d_MO_around_51 : decode b_MO_around 51 = .ok (.iload 5, 2) := by decide +kernel
theorem d_MO_around_53 : decode b_MO_around 53 = .ok (.iload_n 2, 1) := by decide +kernel
theorem d_MO_around_54 : decode b_MO_around 54 = .ok (.invokevirtual 159, 3) := by decide +kernel
theorem d_MO_around_57 : decode b_MO_around 57 = .ok (.ifCond .eq 16, 3) := by decide +kernel
theorem d_MO_around_60 : decode b_MO_around 60 = .ok (.iload 4, 2) := by decide +kernel
theorem d_MO_around_62 : decode b_MO_around 62 = .ok (.iconst 1, 1) := by decide +kernel
theorem d_MO_around_63 : decode b_MO_around 63 = .ok (.aload_n 0, 1) := by decide +kernel
theorem d_MO_around_64 : decode b_MO_around 64 = .ok (.iload 6, 2) := by decide +kernel
theorem d_MO_around_66 : decode b_MO_around 66 = .ok (.invokevirtual 64, 3) := by decide +kernel
theorem d_MO_around_69 : decode b_MO_around 69 = .ok (.ishl, 1) := by decide +kernel
theorem d_MO_around_70 : decode b_MO_around 70 = .ok (.ior, 1) := by decide +kernel
theorem d_MO_around_71 : decode b_MO_around 71 = .ok (.istore 4, 2) := by decide +kernel
theorem d_MO_around_73 : decode b_MO_around 73 = .ok (.iinc 5 1, 3) := by decide +kernel
theorem d_MO_around_76 : decode b_MO_around 76 = .ok (.goto (-70), 3) := by decide +kernel
theorem d_MO_around_79 : decode b_MO_around 79 = .ok (.iload 4, 2) := by decide +kernel
theorem d_MO_around_81 : decode b_MO_around 81 = .ok (.ireturn, 1) := by decide +kernel
theorem d_MO_isMany_0 : decode b_MO_isMany 0 = .ok (.iload_n 0, 1) := by decide +kernel
theorem d_MO_isMany_1 : decode b_MO_isMany 1 = .ok (.iload_n 0, 1) := by decide +kernel
theorem d_MO_isMany_2 : decode b_MO_isMany 2 = .ok (.iconst 1, 1) := by decide +kernel
theorem d_MO_isMany_3 : decode b_MO_isMany 3 = .ok (.isub, 1) := by decide +kernel
theorem d_MO_isMany_4 : decode b_MO_isMany 4 = .ok (.iand, 1) := by decide +kernel
theorem d_MO_isMany_5 : decode b_MO_isMany 5 = .ok (.ifCond .eq 7, 3) := by decide +kernel
theorem d_MO_isMany_8 : decode b_MO_isMany 8 = .ok (.iconst 1, 1) := by decide +kernel
theorem d_MO_isMany_9 : decode b_MO_isMany 9 = .ok (.goto 4, 3) := by decide +kernel
theorem d_MO_isMany_12 : decode b_MO_isMany 12 = .ok (.iconst 0, 1) := by decide +kernel
theorem d_MO_isMany_13 : decode b_MO_isMany 13 = .ok (.ireturn, 1) := by decide +kernel
theorem d_MO_pieces_0 : decode b_MO_pieces 0 = .ok (.iload_n 1, 1) := by decide +kernel
theorem d_MO_pieces_1 : decode b_MO_pieces 1 = .ok (.iconst 1, 1) := by decide +kernel
theorem d_MO_pieces_2 : decode b_MO_pieces 2 = .ok (.bipush 20, 2) := by decide +kernel
theorem d_MO_pieces_4 : decode b_MO_pieces 4 = .ok (.invokestatic 44, 3) := by decide +kernel
theorem d_MO_pieces_7 : decode b_MO_pieces 7 = .ok (.ifCond .eq 12, 3) := by decide +kernel
theorem d_MO_pieces_10 : decode b_MO_pieces 10 = .ok (.iload_n 2, 1) := by decide +kernel
theorem d_MO_pieces_11 : decode b_MO_pieces 11 = .ok (.iconst 0, 1) := by decide +kernel
theorem d_MO_pieces_12 : decode b_MO_pieces 12 = .ok (.iconst 3, 1) := by decide +kernel
theorem d_MO_pieces_13 : decode b_MO_pieces 13 = .ok (.invokestatic 44, 3) := by decide +kernel
theorem d_MO_pieces_16 : decode b_MO_pieces 16 = .ok (.ifCond .ne 6, 3) := by decide +kernel
theorem d_MO_pieces_19 : decode b_MO_pieces 19 = .ok (.bipush (-2), 2) := by decide +kernel
theorem d_MO_pieces_21 : decode b_MO_pieces 21 = .ok (.ireturn, 1) := by decide +kernel
theorem d_MO_pieces_22 : decode b_MO_pieces 22 = .ok (.iconst 0, 1) := by decide +kernel
theorem d_MO_pieces_23 : decode b_MO_pieces 23 = .ok (.istore_n 3, 1) := by decide +kernel
theorem d_MO_pieces_24 : decode b_MO_pieces 24 = .ok (.iconst 0, 1) := by decide +kernel
theorem d_MO_pieces_25 : decode b_MO_pieces 25 = .ok (.istore 4, 2) := by decide +kernel
theorem d_MO_pieces_27 : decode b_MO_pieces 27 = .ok (.iload 4, 2) := by decide +kernel
theorem d_MO_pieces_29 : decode b_MO_pieces 29 = .ok (.iload_n 1, 1) := by decide +kernel
theorem d_MO_pieces_30 : decode b_MO_pieces 30 = .ok (.iadd, 1) := by decide +kernel
theorem d_MO_pieces_31 : decode b_MO_pieces 31 = .ok (.aload_n 0, 1) := by decide +kernel
theorem d_MO_pieces_32 : decode b_MO_pieces 32 = .ok (.invokevirtual 60, 3) := by decide +kernel
theorem d_MO_pieces_35 : decode b_MO_pieces 35 = .ok (.if_icmp .gt 118, 3) := by decide +kernel
theorem d_MO_pieces_38 : decode b_MO_pieces 38 = .ok (.iconst 1, 1) := by decide +kernel
theorem d_MO_pieces_39 : decode b_MO_pieces 39 = .ok (.istore 5, 2) := by decide +kernel
theorem d_MO_pieces_41 : decode b_MO_pieces 41 = .ok (.iconst 0, 1) := by decide +kernel
theorem d_MO_pieces_42 : decode b_MO_pieces 42 = .ok (.istore 6, 2) := by decide +kernel
theorem d_MO_pieces_44 : decode b_MO_pieces 44 = .ok (.iload 6, 2) := by decide +kernel
theorem d_MO_pieces_46 : decode b_MO_pieces 46 = .ok (.iload 4, 2) := by decide +kernel
theorem d_MO_pieces_48 : decode b_MO_pieces 48 = .ok (.if_icmp .ge 33, 3) := by decide +kernel
theorem d_MO_pieces_51 : decode b_MO_pieces 51 = .ok (.iload 5, 2) := by decide +kernel
theorem d_MO_pieces_53 : decode b_MO_pieces 53 = .ok (.ifCond .eq 28, 3) := by decide +kernel
theorem d_MO_pieces_56 : decode b_MO_pieces 56 = .ok (.aload_n 0, 1) := by decide +kernel
theorem d_MO_pieces_57 : decode b_MO_pieces 57 = .ok (.iload 4, 2) := by decide +kernel
theorem d_MO_pieces_59 : decode b_MO_pieces 59 = .ok (.iload 6, 2) := by decide +kernel
theorem d_MO_pieces_61 : decode b_MO_pieces 61 = .ok (.iload_n 1, 1) := by decide +kernel
theorem d_MO_pieces_62 : decode b_MO_pieces 62 = .ok (.invokevirtual 159, 3) := by decide +kernel
theorem d_MO_pieces_65 : decode b_MO_pieces 65 = .ok (.ifCond .ne 7, 3) := by decide +kernel
theorem d_MO_pieces_68 : decode b_MO_pieces 68 = .ok (.iconst 1, 1) := by decide +kernel
theorem d_MO_pieces_69 : decode b_MO_pieces 69 = .ok (.goto 4, 3) := by decide +kernel
theorem d_MO_pieces_72 : decode b_MO_pieces 72 = .ok (.iconst 0, 1) := by decide +kernel
theorem d_MO_pieces_73 : decode b_MO_pieces 73 = .ok (.istore 5, 2) := by decide +kernel
theorem d_MO_pieces_75 : decode b_MO_pieces 75 = .ok (.iinc 6 1, 3) := by decide +kernel
theorem d_MO_pieces_78 : decode b_MO_pieces 78 = .ok (.goto (-34), 3) := by decide +kernel
theorem d_MO_pieces_81 : decode b_MO_pieces 81 = .ok (.iload 5, 2) := by decide +kernel
theorem d_MO_pieces_83 : decode b_MO_pieces 83 = .ok (.ifCond .eq 20, 3) := by decide +kernel
theorem d_MO_pieces_86 : decode b_MO_pieces 86 = .ok (.iload_n 2, 1) := by decide +kernel
theorem d_MO_pieces_87 : decode b_MO_pieces 87 = .ok (.iconst 3, 1) := by decide +kernel
theorem d_MO_pieces_88 : decode b_MO_pieces 88 = .ok (.if_icmp .ne 15, 3) := by decide +kernel
theorem d_MO_pieces_91 : decode b_MO_pieces 91 = .ok (.aload_n 0, 1) := by decide +kernel
theorem d_MO_pieces_92 : decode b_MO_pieces 92 = .ok (.iload 4, 2) := by decide +kernel
theorem d_MO_pieces_94 : decode b_MO_pieces 94 = .ok (.iload_n 1, 1) := by decide +kernel
theorem d_MO_pieces_95 : decode b_MO_pieces 95 = .ok (.invokevirtual 162, 3) := by decide +kernel
theorem d_MO_pieces_98 : decode b_MO_pieces 98 = .ok (.istore 5, 2) := by decide +kernel
theorem d_MO_pieces_100 : decode b_MO_pieces 100 = .ok (.goto 34, 3) := by decide +kernel
theorem d_MO_pieces_103 : decode b_MO_pieces 103 = .ok (.iload 5, 2) := by decide +kernel
theorem d_MO_pieces_105 : decode b_MO_pieces 105 = .ok (.ifCond .eq 29, 3) := by decide +kernel
theorem d_MO_pieces_108 : decode b_MO_pieces 108 = .ok (.iload_n 2, 1) := by decide +kernel
theorem d_MO_pieces_109 : decode b_MO_pieces 109 = .ok (.ifCond .le 25, 3) := by decide +kernel
theorem d_MO_pieces_112 : decode b_MO_pieces 112 = .ok (.aload_n 0, 1) := by decide +kernel
theorem d_MO_pieces_113 : decode b_MO_pieces 113 = .ok (.iload 4, 2) := by decide +kernel
theorem d_MO_pieces_115 : decode b_MO_pieces 115 = .ok (.iload_n 1, 1) := by decide +kernel
theorem d_MO_pieces_116 : decode b_MO_pieces 116 = .ok (.iload_n 2, 1) := by decide +kernel
theorem d_MO_pieces_117 : decode b_MO_pieces 117 = .ok (.iconst 2, 1) := by decide +kernel
theorem d_MO_pieces_118 : decode b_MO_pieces 118 = .ok (.if_icmp .ne 7, 3) := by decide +kernel
theorem d_MO_pieces_121 : decode b_MO_pieces 121 = .ok (.iconst 1, 1) := by decide +kernel
theorem d_MO_pieces_122 : decode b_MO_pieces 122 = .ok (.goto 4, 3) := by decide +kernel
theorem d_MO_pieces_125 : decode b_MO_pieces 125 = .ok (.iconst 0, 1) := by decide +kernel
theorem d_MO_pieces_126 : decode b_MO_pieces 126 = .ok (.invokevirtual 165, 3) := by decide +kernel
theorem d_MO_pieces_129 : decode b_MO_pieces 129 = .ok (.invokestatic 169, 3) := by decide +kernel
theorem d_MO_pieces_132 : decode b_MO_pieces 132 = .ok (.istore 5, 2) := by decide +kernel
theorem d_MO_pieces_134 : decode b_MO_pieces 134 = .ok (.iload_n 3, 1) := by decide +kernel
theorem d_MO_pieces_135 : decode b_MO_pieces 135 = .ok (.iload 5, 2) := by decide +kernel
theorem d_MO_pieces_137 : decode b_MO_pieces 137 = .ok (.ifCond .eq 7, 3) := by decide +kernel
theorem d_MO_pieces_140 : decode b_MO_pieces 140 = .ok (.iconst 1, 1) := by decide +kernel
theorem d_MO_pieces_141 : decode b_MO_pieces 141 = .ok (.goto 4, 3) := by decide +kernel
theorem d_MO_pieces_144 : decode b_MO_pieces 144 = .ok (.iconst 0, 1) := by decide +kernel
theorem d_MO_pieces_145 : decode b_MO_pieces 145 = .ok (.iadd, 1) := by decide +kernel
theorem d_MO_pieces_146 : decode b_MO_pieces 146 = .ok (.istore_n 3, 1) := by decide +kernel
theorem d_MO_pieces_147 : decode b_MO_pieces 147 = .ok (.iinc 4 1, 3) := by decide +kernel
theorem d_MO_pieces_150 : decode b_MO_pieces 150 = .ok (.goto (-123), 3) := by decide +kernel
theorem d_MO_pieces_153 : decode b_MO_pieces 153 = .ok (.iload_n 3, 1) := by decide +kernel
theorem d_MO_pieces_154 : decode b_MO_pieces 154 = .ok (.ireturn, 1) := by decide +kernel
theorem d_MO_times_0 : decode b_MO_times 0 = .ok (.iconst 0, 1) := by decide +kernel
theorem d_MO_times_1 : decode b_MO_times 1 = .ok (.istore 4, 2) := by decide +kernel
theorem d_MO_times_3 : decode b_MO_times 3 = .ok (.iconst 0, 1) := by decide +kernel
theorem d_MO_times_4 : decode b_MO_times 4 = .ok (.istore 5, 2) := by decide +kernel
theorem d_MO_times_6 : decode b_MO_times 6 = .ok (.iload 5, 2) := by decide +kernel
theorem d_MO_times_8 : decode b_MO_times 8 = .ok (.iload_n 3, 1) := by decide +kernel
theorem d_MO_times_9 : decode b_MO_times 9 = .ok (.if_icmp .ge 31, 3) := by decide +kernel
theorem d_MO_times_12 : decode b_MO_times 12 = .ok (.iload 4, 2) := by decide +kernel
theorem d_MO_times_14 : decode b_MO_times 14 = .ok (.aload_n 0, 1) := by decide +kernel
theorem d_MO_times_15 : decode b_MO_times 15 = .ok (.iload_n 2, 1) := by decide +kernel
theorem d_MO_times_16 : decode b_MO_times 16 = .ok (.iload 5, 2) := by decide +kernel
theorem d_MO_times_18 : decode b_MO_times 18 = .ok (.iadd, 1) := by decide +kernel
theorem d_MO_times_19 : decode b_MO_times 19 = .ok (.invokevirtual 64, 3) := by decide +kernel
theorem d_MO_times_22 : decode b_MO_times 22 = .ok (.iload_n 1, 1) := by decide +kernel
theorem d_MO_times_23 : decode b_MO_times 23 = .ok (.if_icmp .ne 7, 3) := by decide +kernel
theorem d_MO_times_26 : decode b_MO_times 26 = .ok (.iconst 1, 1) := by decide +kernel
theorem d_MO_times_27 : decode b_MO_times 27 = .ok (.goto 4, 3) := by decide +kernel
theorem d_MO_times_30 : decode b_MO_times 30 = .ok (.iconst 0, 1) := by decide +kernel
theorem d_MO_times_31 : decode b_MO_times 31 = .ok (.iadd, 1) := by decide +kernel
theorem d_MO_times_32 : decode b_MO_times 32 = .ok (.istore 4, 2) := by decide +kernel
theorem d_MO_times_34 : decode b_MO_times 34 = .ok (.iinc 5 1, 3) := by decide +kernel
theorem d_MO_times_37 : decode b_MO_times 37 = .ok (.goto (-31), 3) := by decide +kernel
theorem d_MO_times_40 : decode b_MO_times 40 = .ok (.iload 4, 2) := by decide +kernel
theorem d_MO_times_42 : decode b_MO_times 42 = .ok (.ireturn, 1) := by decide +kernel
theorem d_MO_balance_0 : decode b_MO_balance 0 = .ok (.iload_n 1, 1) := by decide +kernel
theorem d_MO_balance_1 : decode b_MO_balance 1 = .ok (.invokestatic 89, 3) := by decide +kernel
theorem d_MO_balance_4 : decode b_MO_balance 4 = .ok (.ifCond .eq 5, 3) := by decide +kernel
theorem d_MO_balance_7 : decode b_MO_balance 7 = .ok (.iconst (-1), 1) := by decide +kernel
theorem d_MO_balance_8 : decode b_MO_balance 8 = .ok (.ireturn, 1) := by decide +kernel
theorem d_MO_balance_9 : decode b_MO_balance 9 = .ok (.iload_n 2, 1) := by decide +kernel
theorem d_MO_balance_10 : decode b_MO_balance 10 = .ok (.iconst 1, 1) := by decide +kernel
theorem d_MO_balance_11 : decode b_MO_balance 11 = .ok (.sipush 300, 3) := by decide +kernel
theorem d_MO_balance_14 : decode b_MO_balance 14 = .ok (.invokestatic 44, 3) := by decide +kernel
theorem d_MO_balance_17 : decode b_MO_balance 17 = .ok (.ifCond .ne 6, 3) := by decide +kernel
theorem d_MO_balance_20 : decode b_MO_balance 20 = .ok (.bipush (-2), 2) := by decide +kernel
theorem d_MO_balance_22 : decode b_MO_balance 22 = .ok (.ireturn, 1) := by decide +kernel
theorem d_MO_balance_23 : decode b_MO_balance 23 = .ok (.iconst (-1), 1) := by decide +kernel
theorem d_MO_balance_24 : decode b_MO_balance 24 = .ok (.istore_n 3, 1) := by decide +kernel
theorem d_MO_balance_25 : decode b_MO_balance 25 = .ok (.sipush 300, 3) := by decide +kernel
theorem d_MO_balance_28 : decode b_MO_balance 28 = .ok (.istore 4, 2) := by decide +kernel
theorem d_MO_balance_30 : decode b_MO_balance 30 = .ok (.iconst 0, 1) := by decide +kernel
theorem d_MO_balance_31 : decode b_MO_balance 31 = .ok (.istore 5, 2) := by decide +kernel
theorem d_MO_balance_33 : decode b_MO_balance 33 = .ok (.iload 5, 2) := by decide +kernel
theorem d_MO_balance_35 : decode b_MO_balance 35 = .ok (.iload_n 2, 1) := by decide +kernel
theorem d_MO_balance_36 : decode b_MO_balance 36 = .ok (.iadd, 1) := by decide +kernel
theorem d_MO_balance_37 : decode b_MO_balance 37 = .ok (.aload_n 0, 1) := by decide +kernel
theorem d_MO_balance_38 : decode b_MO_balance 38 = .ok (.invokevirtual 60, 3) := by decide +kernel
theorem d_MO_balance_41 : decode b_MO_balance 41 = .ok (.if_icmp .gt 48, 3) := by decide +kernel
theorem d_MO_balance_44 : decode b_MO_balance 44 = .ok (.aload_n 0, 1) := by decide +kernel
theorem d_MO_balance_45 : decode b_MO_balance 45 = .ok (.iload_n 1, 1) := by decide +kernel
theorem d_MO_balance_46 : decode b_MO_balance 46 = .ok (.iload 5, 2) := by decide +kernel
theorem d_MO_balance_48 : decode b_MO_balance 48 = .ok (.iload_n 2, 1) := by decide +kernel
theorem d_MO_balance_49 : decode b_MO_balance 49 = .ok (.invokevirtual 172, 3) := by decide +kernel
theorem d_MO_balance_52 : decode b_MO_balance 52 = .ok (.istore 6, 2) := by decide +kernel
theorem d_MO_balance_54 : decode b_MO_balance 54 = .ok (.iload 6, 2) := by decide +kernel
theorem d_MO_balance_56 : decode b_MO_balance 56 = .ok (.iload_n 3, 1) := by decide +kernel
theorem d_MO_balance_57 : decode b_MO_balance 57 = .ok (.if_icmp .le 8, 3) := by decide +kernel
theorem d_MO_balance_60 : decode b_MO_balance 60 = .ok (.iload 6, 2) := by decide +kernel
theorem d_MO_balance_62 : decode b_MO_balance 62 = .ok (.goto 4, 3) := by decide +kernel
theorem d_MO_balance_65 : decode b_MO_balance 65 = .ok (.iload_n 3, 1) := by decide +kernel
theorem d_MO_balance_66 : decode b_MO_balance 66 = .ok (.istore_n 3, 1) := by decide +kernel
theorem d_MO_balance_67 : decode b_MO_balance 67 = .ok (.iload 6, 2) := by decide +kernel
theorem d_MO_balance_69 : decode b_MO_balance 69 = .ok (.iload 4, 2) := by decide +kernel
theorem d_MO_balance_71 : decode b_MO_balance 71 = .ok (.if_icmp .ge 8, 3) := by decide +kernel
theorem d_MO_balance_74 : decode b_MO_balance 74 = .ok (.iload 6, 2) := by decide +kernel
theorem d_MO_balance_76 : decode b_MO_balance 76 = .ok (.goto 5, 3) := by decide +kernel
theorem d_MO_balance_79 : decode b_MO_balance 79 = .ok (.iload 4, 2) := by decide +kernel
theorem d_MO_balance_81 : decode b_MO_balance 81 = .ok (.istore 4, 2) := by decide +kernel
theorem d_MO_balance_83 : decode b_MO_balance 83 = .ok (.iinc 5 1, 3) := by decide +kernel
theorem d_MO_balance_86 : decode b_MO_balance 86 = .ok (.goto (-53), 3) := by decide +kernel
theorem d_MO_balance_89 : decode b_MO_balance 89 = .ok (.iload_n 3, 1) := by decide +kernel
theorem d_MO_balance_90 : decode b_MO_balance 90 = .ok (.ifCond .ge 8, 3) := by decide +kernel
theorem d_MO_balance_93 : decode b_MO_balance 93 = .ok (.bipush (-5), 2) := by decide +kernel
theorem d_MO_balance_95 : decode b_MO_balance 95 = .ok (.goto 7, 3) := by decide +kernel
theorem d_MO_balance_98 : decode b_MO_balance 98 = .ok (.iload_n 3, 1) := by decide +kernel
theorem d_MO_balance_99 : decode b_MO_balance 99 = .ok (.iload 4, 2) := by decide +kernel
theorem d_MO_balance_101 : decode b_MO_balance 101 = .ok (.isub, 1) := by decide +kernel
theorem d_MO_balance_102 : decode b_MO_balance 102 = .ok (.ireturn, 1) := by decide +kernel
theorem d_MO_divisor_0 : decode b_MO_divisor 0 = .ok (.iload_n 0, 1) := by decide +kernel
theorem d_MO_divisor_1 : decode b_MO_divisor 1 = .ok (.istore_n 2, 1) := by decide +kernel
theorem d_MO_divisor_2 : decode b_MO_divisor 2 = .ok (.iload_n 1, 1) := by decide +kernel
theorem d_MO_divisor_3 : decode b_MO_divisor 3 = .ok (.istore_n 3, 1) := by decide +kernel
theorem d_MO_divisor_4 : decode b_MO_divisor 4 = .ok (.iload_n 3, 1) := by decide +kernel
theorem d_MO_divisor_5 : decode b_MO_divisor 5 = .ok (.ifCond .le 16, 3) := by decide +kernel
theorem d_MO_divisor_8 : decode b_MO_divisor 8 = .ok (.iload_n 2, 1) := by decide +kernel
theorem d_MO_divisor_9 : decode b_MO_divisor 9 = .ok (.iload_n 3, 1) := by decide +kernel
theorem d_MO_divisor_10 : decode b_MO_divisor 10 = .ok (.irem, 1) := by decide +kernel
theorem d_MO_divisor_11 : decode b_MO_divisor 11 = .ok (.istore 4, 2) := by decide +kernel
theorem d_MO_divisor_13 : decode b_MO_divisor 13 = .ok (.iload_n 3, 1) := by decide +kernel
theorem d_MO_divisor_14 : decode b_MO_divisor 14 = .ok (.istore_n 2, 1) := by decide +kernel
theorem d_MO_divisor_15 : decode b_MO_divisor 15 = .ok (.iload 4, 2) := by decide +kernel
theorem d_MO_divisor_17 : decode b_MO_divisor 17 = .ok (.istore_n 3, 1) := by decide +kernel
theorem d_MO_divisor_18 : decode b_MO_divisor 18 = .ok (.goto (-14), 3) := by decide +kernel
theorem d_MO_divisor_21 : decode b_MO_divisor 21 = .ok (.iload_n 2, 1) := by decide +kernel
theorem d_MO_divisor_22 : decode b_MO_divisor 22 = .ok (.ireturn, 1) := by decide +kernel
theorem d_MO_share_0 : decode b_MO_share 0 = .ok (.iload_n 1, 1) := by decide +kernel
theorem d_MO_share_1 : decode b_MO_share 1 = .ok (.invokestatic 89, 3) := by decide +kernel
theorem d_MO_share_4 : decode b_MO_share 4 = .ok (.ifCond .eq 5, 3) := by decide +kernel
theorem d_MO_share_7 : decode b_MO_share 7 = .ok (.iconst (-1), 1) := by decide +kernel
theorem d_MO_share_8 : decode b_MO_share 8 = .ok (.ireturn, 1) := by decide +kernel
theorem d_MO_share_9 : decode b_MO_share 9 = .ok (.iload_n 2, 1) := by decide +kernel
theorem d_MO_share_10 : decode b_MO_share 10 = .ok (.iconst 0, 1) := by decide +kernel
theorem d_MO_share_11 : decode b_MO_share 11 = .ok (.iconst 1, 1) := by decide +kernel
theorem d_MO_share_12 : decode b_MO_share 12 = .ok (.invokestatic 44, 3) := by decide +kernel
theorem d_MO_share_15 : decode b_MO_share 15 = .ok (.ifCond .ne 6, 3) := by decide +kernel
theorem d_MO_share_18 : decode b_MO_share 18 = .ok (.bipush (-2), 2) := by decide +kernel
theorem d_MO_share_20 : decode b_MO_share 20 = .ok (.ireturn, 1) := by decide +kernel
theorem d_MO_share_21 : decode b_MO_share 21 = .ok (.aload_n 0, 1) := by decide +kernel
theorem d_MO_share_22 : decode b_MO_share 22 = .ok (.iload_n 1, 1) := by decide +kernel
theorem d_MO_share_23 : decode b_MO_share 23 = .ok (.iconst 0, 1) := by decide +kernel
theorem d_MO_share_24 : decode b_MO_share 24 = .ok (.aload_n 0, 1) := by decide +kernel
theorem d_MO_share_25 : decode b_MO_share 25 = .ok (.invokevirtual 60, 3) := by decide +kernel
theorem d_MO_share_28 : decode b_MO_share 28 = .ok (.invokevirtual 172, 3) := by decide +kernel
theorem d_MO_share_31 : decode b_MO_share 31 = .ok (.istore_n 3, 1) := by decide +kernel
theorem d_MO_share_32 : decode b_MO_share 32 = .ok (.iload_n 2, 1) := by decide +kernel
theorem d_MO_share_33 : decode b_MO_share 33 = .ok (.ifCond .ne 7, 3) := by decide +kernel
theorem d_MO_share_36 : decode b_MO_share 36 = .ok (.iload_n 3, 1) := by decide +kernel
theorem d_MO_share_37 : decode b_MO_share 37 = .ok (.goto 7, 3) := by decide +kernel
theorem d_MO_share_40 : decode b_MO_share 40 = .ok (.aload_n 0, 1) := by decide +kernel
theorem d_MO_share_41 : decode b_MO_share 41 = .ok (.invokevirtual 60, 3) := by decide +kernel
theorem d_MO_share_44 : decode b_MO_share 44 = .ok (.iload_n 3, 1) := by decide +kernel
theorem d_MO_share_45 : decode b_MO_share 45 = .ok (.aload_n 0, 1) := by decide +kernel
theorem d_MO_share_46 : decode b_MO_share 46 = .ok (.invokevirtual 60, 3) := by decide +kernel
theorem d_MO_share_49 : decode b_MO_share 49 = .ok (.invokestatic 175, 3) := by decide +kernel
theorem d_MO_share_52 : decode b_MO_share 52 = .ok (.idiv, 1) := by decide +kernel
theorem d_MO_share_53 : decode b_MO_share 53 = .ok (.ireturn, 1) := by decide +kernel
theorem d_MO_run_0 : decode b_MO_run 0 = .ok (.iload_n 1, 1) := by decide +kernel
theorem d_MO_run_1 : decode b_MO_run 1 = .ok (.iconst 0, 1) := by decide +kernel
theorem d_MO_run_2 : decode b_MO_run 2 = .ok (.iconst 4, 1) := by decide +kernel
theorem d_MO_run_3 : decode b_MO_run 3 = .ok (.invokestatic 44, 3) := by decide +kernel
theorem d_MO_run_6 : decode b_MO_run 6 = .ok (.ifCond .ne 6, 3) := by decide +kernel
theorem d_MO_run_9 : decode b_MO_run 9 = .ok (.bipush (-2), 2) := by decide +kernel
theorem d_MO_run_11 : decode b_MO_run 11 = .ok (.ireturn, 1) := by decide +kernel
theorem d_MO_run_12 : decode b_MO_run 12 = .ok (.iconst 1, 1) := by decide +kernel
theorem d_MO_run_13 : decode b_MO_run 13 = .ok (.istore_n 2, 1) := by decide +kernel
theorem d_MO_run_14 : decode b_MO_run 14 = .ok (.iconst 0, 1) := by decide +kernel
theorem d_MO_run_15 : decode b_MO_run 15 = .ok (.istore_n 3, 1) := by decide +kernel
theorem d_MO_run_16 : decode b_MO_run 16 = .ok (.iconst 1, 1) := by decide +kernel
theorem d_MO_run_17 : decode b_MO_run 17 = .ok (.istore 4, 2) := by decide +kernel
theorem d_MO_run_19 : decode b_MO_run 19 = .ok (.iconst 1, 1) := by decide +kernel
theorem d_MO_run_20 : decode b_MO_run 20 = .ok (.istore 5, 2) := by decide +kernel
theorem d_MO_run_22 : decode b_MO_run 22 = .ok (.iload 5, 2) := by decide +kernel
theorem d_MO_run_24 : decode b_MO_run 24 = .ok (.aload_n 0, 1) := by decide +kernel
theorem d_MO_run_25 : decode b_MO_run 25 = .ok (.invokevirtual 60, 3) := by decide +kernel
theorem d_MO_run_28 : decode b_MO_run 28 = .ok (.if_icmp .ge 94, 3) := by decide +kernel
theorem d_MO_run_31 : decode b_MO_run 31 = .ok (.iconst 0, 1) := by decide +kernel
theorem d_MO_run_32 : decode b_MO_run 32 = .ok (.istore 6, 2) := by decide +kernel
theorem d_MO_run_34 : decode b_MO_run 34 = .ok (.iconst 0, 1) := by decide +kernel
theorem d_MO_run_35 : decode b_MO_run 35 = .ok (.istore 7, 2) := by decide +kernel
theorem d_MO_run_37 : decode b_MO_run 37 = .ok (.iload 7, 2) := by decide +kernel
theorem d_MO_run_39 : decode b_MO_run 39 = .ok (.iload 5, 2) := by decide +kernel
theorem d_MO_run_41 : decode b_MO_run 41 = .ok (.iadd, 1) := by decide +kernel
theorem d_MO_run_42 : decode b_MO_run 42 = .ok (.aload_n 0, 1) := by decide +kernel
theorem d_MO_run_43 : decode b_MO_run 43 = .ok (.invokevirtual 60, 3) := by decide +kernel
theorem d_MO_run_46 : decode b_MO_run 46 = .ok (.if_icmp .ge 70, 3) := by decide +kernel
theorem d_MO_run_49 : decode b_MO_run 49 = .ok (.aload_n 0, 1) := by decide +kernel
theorem d_MO_run_50 : decode b_MO_run 50 = .ok (.iload 7, 2) := by decide +kernel
theorem d_MO_run_52 : decode b_MO_run 52 = .ok (.invokevirtual 64, 3) := by decide +kernel
theorem d_MO_run_55 : decode b_MO_run 55 = .ok (.aload_n 0, 1) := by decide +kernel
theorem d_MO_run_56 : decode b_MO_run 56 = .ok (.iload 7, 2) := by decide +kernel
theorem d_MO_run_58 : decode b_MO_run 58 = .ok (.iload 5, 2) := by decide +kernel
theorem d_MO_run_60 : decode b_MO_run 60 = .ok (.iadd, 1) := by decide +kernel
theorem d_MO_run_61 : decode b_MO_run 61 = .ok (.invokevirtual 64, 3) := by decide +kernel
theorem d_MO_run_64 : decode b_MO_run 64 = .ok (.if_icmp .ne 10, 3) := by decide +kernel
theorem d_MO_run_67 : decode b_MO_run 67 = .ok (.iload 6, 2) := by decide +kernel
theorem d_MO_run_69 : decode b_MO_run 69 = .ok (.iconst 1, 1) := by decide +kernel
theorem d_MO_run_70 : decode b_MO_run 70 = .ok (.iadd, 1) := by decide +kernel
theorem d_MO_run_71 : decode b_MO_run 71 = .ok (.goto 4, 3) := by decide +kernel
theorem d_MO_run_74 : decode b_MO_run 74 = .ok (.iconst 0, 1) := by decide +kernel
theorem d_MO_run_75 : decode b_MO_run 75 = .ok (.istore 6, 2) := by decide +kernel
theorem d_MO_run_77 : decode b_MO_run 77 = .ok (.iload 6, 2) := by decide +kernel
theorem d_MO_run_79 : decode b_MO_run 79 = .ok (.iload 5, 2) := by decide +kernel
theorem d_MO_run_81 : decode b_MO_run 81 = .ok (.iadd, 1) := by decide +kernel
theorem d_MO_run_82 : decode b_MO_run 82 = .ok (.iload_n 2, 1) := by decide +kernel
theorem d_MO_run_83 : decode b_MO_run 83 = .ok (.imul, 1) := by decide +kernel
theorem d_MO_run_84 : decode b_MO_run 84 = .ok (.iload 4, 2) := by decide +kernel
theorem d_MO_run_86 : decode b_MO_run 86 = .ok (.iload 5, 2) := by decide +kernel
theorem d_MO_run_88 : decode b_MO_run 88 = .ok (.imul, 1) := by decide +kernel
theorem d_MO_run_89 : decode b_MO_run 89 = .ok (.if_icmp .le 21, 3) := by decide +kernel
theorem d_MO_run_92 : decode b_MO_run 92 = .ok (.iload 5, 2) := by decide +kernel
theorem d_MO_run_94 : decode b_MO_run 94 = .ok (.istore_n 2, 1) := by decide +kernel
theorem d_MO_run_95 : decode b_MO_run 95 = .ok (.iload 7, 2) := by decide +kernel
theorem d_MO_run_97 : decode b_MO_run 97 = .ok (.iconst 1, 1) := by decide +kernel
theorem d_MO_run_98 : decode b_MO_run 98 = .ok (.iadd, 1) := by decide +kernel
theorem d_MO_run_99 : decode b_MO_run 99 = .ok (.iload 6, 2) := by decide +kernel
theorem d_MO_run_101 : decode b_MO_run 101 = .ok (.isub, 1) := by decide +kernel
theorem d_MO_run_102 : decode b_MO_run 102 = .ok (.istore_n 3, 1) := by decide +kernel
theorem d_MO_run_103 : decode b_MO_run 103 = .ok (.iload 6, 2) := by decide +kernel
theorem d_MO_run_105 : decode b_MO_run 105 = .ok (.iload 5, 2) := by decide +kernel
theorem d_MO_run_107 : decode b_MO_run 107 = .ok (.iadd, 1) := by decide +kernel
theorem d_MO_run_108 : decode b_MO_run 108 = .ok (.istore 4, 2) := by decide +kernel
theorem d_MO_run_110 : decode b_MO_run 110 = .ok (.iinc 7 1, 3) := by decide +kernel
theorem d_MO_run_113 : decode b_MO_run 113 = .ok (.goto (-76), 3) := by decide +kernel
theorem d_MO_run_116 : decode b_MO_run 116 = .ok (.iinc 5 1, 3) := by decide +kernel
theorem d_MO_run_119 : decode b_MO_run 119 = .ok (.goto (-97), 3) := by decide +kernel
theorem d_MO_run_122 : decode b_MO_run 122 = .ok (.iload 4, 2) := by decide +kernel
theorem d_MO_run_124 : decode b_MO_run 124 = .ok (.iload_n 2, 1) := by decide +kernel
theorem d_MO_run_125 : decode b_MO_run 125 = .ok (.invokestatic 175, 3) := by decide +kernel
theorem d_MO_run_128 : decode b_MO_run 128 = .ok (.istore 5, 2) := by decide +kernel
theorem d_MO_run_130 : decode b_MO_run 130 = .ok (.iload_n 1, 1) := by decide +kernel
theorem d_MO_run_131 : decode b_MO_run 131 = .ok (.ifCond .ne 7, 3) := by decide +kernel
theorem d_MO_run_134 : decode b_MO_run 134 = .ok (.iload_n 2, 1) := by decide +kernel
theorem d_MO_run_135 : decode b_MO_run 135 = .ok (.goto 36, 3) := by decide +kernel
theorem d_MO_run_138 : decode b_MO_run 138 = .ok (.iload_n 1, 1) := by decide +kernel
theorem d_MO_run_139 : decode b_MO_run 139 = .ok (.iconst 1, 1) := by decide +kernel
theorem d_MO_run_140 : decode b_MO_run 140 = .ok (.if_icmp .ne 7, 3) := by decide +kernel
theorem d_MO_run_143 : decode b_MO_run 143 = .ok (.iload_n 3, 1) := by decide +kernel
theorem d_MO_run_144 : decode b_MO_run 144 = .ok (.goto 27, 3) := by decide +kernel
theorem d_MO_run_147 : decode b_MO_run 147 = .ok (.iload_n 1, 1) := by decide +kernel
theorem d_MO_run_148 : decode b_MO_run 148 = .ok (.iconst 2, 1) := by decide +kernel
theorem d_MO_run_149 : decode b_MO_run 149 = .ok (.if_icmp .ne 8, 3) := by decide +kernel
theorem d_MO_run_152 : decode b_MO_run 152 = .ok (.iload 4, 2) := by decide +kernel
theorem d_MO_run_154 : decode b_MO_run 154 = .ok (.goto 17, 3) := by decide +kernel
theorem d_MO_run_157 : decode b_MO_run 157 = .ok (.iload_n 1, 1) := by decide +kernel
theorem d_MO_run_158 : decode b_MO_run 158 = .ok (.iconst 3, 1) := by decide +kernel
theorem d_MO_run_159 : decode b_MO_run 159 = .ok (.if_icmp .ne 8, 3) := by decide +kernel
theorem d_MO_run_162 : decode b_MO_run 162 = .ok (.iload 4, 2) := by decide +kernel
theorem d_MO_run_164 : decode b_MO_run 164 = .ok (.goto 4, 3) := by decide +kernel
theorem d_MO_run_167 : decode b_MO_run 167 = .ok (.iload_n 2, 1) := by decide +kernel
theorem d_MO_run_168 : decode b_MO_run 168 = .ok (.iload 5, 2) := by decide +kernel
theorem d_MO_run_170 : decode b_MO_run 170 = .ok (.idiv, 1) := by decide +kernel
theorem d_MO_run_171 : decode b_MO_run 171 = .ok (.ireturn, 1) := by decide +kernel
theorem d_MO_mirrored_0 : decode b_MO_mirrored 0 = .ok (.iload_n 1, 1) := by decide +kernel
theorem d_MO_mirrored_1 : decode b_MO_mirrored 1 = .ok (.iconst 0, 1) := by decide +kernel
theorem d_MO_mirrored_2 : decode b_MO_mirrored 2 = .ok (.iconst 1, 1) := by decide +kernel
theorem d_MO_mirrored_3 : decode b_MO_mirrored 3 = .ok (.invokestatic 44, 3) := by decide +kernel
theorem d_MO_mirrored_6 : decode b_MO_mirrored 6 = .ok (.ifCond .ne 6, 3) := by decide +kernel
theorem d_MO_mirrored_9 : decode b_MO_mirrored 9 = .ok (.bipush (-2), 2) := by decide +kernel
theorem d_MO_mirrored_11 : decode b_MO_mirrored 11 = .ok (.ireturn, 1) := by decide +kernel
theorem d_MO_mirrored_12 : decode b_MO_mirrored 12 = .ok (.iconst 0, 1) := by decide +kernel
theorem d_MO_mirrored_13 : decode b_MO_mirrored 13 = .ok (.istore_n 2, 1) := by decide +kernel
theorem d_MO_mirrored_14 : decode b_MO_mirrored 14 = .ok (.iconst 1, 1) := by decide +kernel
theorem d_MO_mirrored_15 : decode b_MO_mirrored 15 = .ok (.istore_n 3, 1) := by decide +kernel
theorem d_MO_mirrored_16 : decode b_MO_mirrored 16 = .ok (.iconst 0, 1) := by decide +kernel
theorem d_MO_mirrored_17 : decode b_MO_mirrored 17 = .ok (.istore 4, 2) := by decide +kernel
theorem d_MO_mirrored_19 : decode b_MO_mirrored 19 = .ok (.iload 4, 2) := by decide +kernel
theorem d_MO_mirrored_21 : decode b_MO_mirrored 21 = .ok (.aload_n 0, 1) := by decide +kernel
theorem d_MO_mirrored_22 : decode b_MO_mirrored 22 = .ok (.invokevirtual 60, 3) := by decide +kernel
theorem d_MO_mirrored_25 : decode b_MO_mirrored 25 = .ok (.if_icmp .ge 49, 3) := by decide +kernel
theorem d_MO_mirrored_28 : decode b_MO_mirrored 28 = .ok (.iload_n 3, 1) := by decide +kernel
theorem d_MO_mirrored_29 : decode b_MO_mirrored 29 = .ok (.iconst 1, 1) := by decide +kernel
theorem d_MO_mirrored_30 : decode b_MO_mirrored 30 = .ok (.iadd, 1) := by decide +kernel
theorem d_MO_mirrored_31 : decode b_MO_mirrored 31 = .ok (.istore 5, 2) := by decide +kernel
theorem d_MO_mirrored_33 : decode b_MO_mirrored 33 = .ok (.iload 4, 2) := by decide +kernel
theorem d_MO_mirrored_35 : decode b_MO_mirrored 35 = .ok (.iload 5, 2) := by decide +kernel
theorem d_MO_mirrored_37 : decode b_MO_mirrored 37 = .ok (.iadd, 1) := by decide +kernel
theorem d_MO_mirrored_38 : decode b_MO_mirrored 38 = .ok (.aload_n 0, 1) := by decide +kernel
theorem d_MO_mirrored_39 : decode b_MO_mirrored 39 = .ok (.invokevirtual 60, 3) := by decide +kernel
theorem d_MO_mirrored_42 : decode b_MO_mirrored 42 = .ok (.if_icmp .gt 26, 3) := by decide +kernel
theorem d_MO_mirrored_45 : decode b_MO_mirrored 45 = .ok (.aload_n 0, 1) := by decide +kernel
theorem d_MO_mirrored_46 : decode b_MO_mirrored 46 = .ok (.iload 4, 2) := by decide +kernel
theorem d_MO_mirrored_48 : decode b_MO_mirrored 48 = .ok (.iload 5, 2) := by decide +kernel
theorem d_MO_mirrored_50 : decode b_MO_mirrored 50 = .ok (.invokevirtual 162, 3) := by decide +kernel
theorem d_MO_mirrored_53 : decode b_MO_mirrored 53 = .ok (.ifCond .eq 9, 3) := by decide +kernel
theorem d_MO_mirrored_56 : decode b_MO_mirrored 56 = .ok (.iload 4, 2) := by decide +kernel
theorem d_MO_mirrored_58 : decode b_MO_mirrored 58 = .ok (.istore_n 2, 1) := by decide +kernel
theorem d_MO_mirrored_59 : decode b_MO_mirrored 59 = .ok (.iload 5, 2) := by decide +kernel
theorem d_MO_mirrored_61 : decode b_MO_mirrored 61 = .ok (.istore_n 3, 1) := by decide +kernel
theorem d_MO_mirrored_62 : decode b_MO_mirrored 62 = .ok (.iinc 5 1, 3) := by decide +kernel
theorem d_MO_mirrored_65 : decode b_MO_mirrored 65 = .ok (.goto (-32), 3) := by decide +kernel
theorem d_MO_mirrored_68 : decode b_MO_mirrored 68 = .ok (.iinc 4 1, 3) := by decide +kernel
theorem d_MO_mirrored_71 : decode b_MO_mirrored 71 = .ok (.goto (-52), 3) := by decide +kernel
theorem d_MO_mirrored_74 : decode b_MO_mirrored 74 = .ok (.iload_n 1, 1) := by decide +kernel
theorem d_MO_mirrored_75 : decode b_MO_mirrored 75 = .ok (.ifCond .ne 7, 3) := by decide +kernel
theorem d_MO_mirrored_78 : decode b_MO_mirrored 78 = .ok (.iload_n 2, 1) := by decide +kernel
theorem d_MO_mirrored_79 : decode b_MO_mirrored 79 = .ok (.goto 4, 3) := by decide +kernel
theorem d_MO_mirrored_82 : decode b_MO_mirrored 82 = .ok (.iload_n 3, 1) := by decide +kernel
theorem d_MO_mirrored_83 : decode b_MO_mirrored 83 = .ok (.ireturn, 1) := by decide +kernel
theorem d_MO_comes_0 : decode b_MO_comes 0 = .ok (.iload_n 1, 1) := by decide +kernel
theorem d_MO_comes_1 : decode b_MO_comes 1 = .ok (.ifCond .ge 6, 3) := by decide +kernel
theorem d_MO_comes_4 : decode b_MO_comes 4 = .ok (.bipush (-2), 2) := by decide +kernel
theorem d_MO_comes_6 : decode b_MO_comes 6 = .ok (.ireturn, 1) := by decide +kernel
theorem d_MO_comes_7 : decode b_MO_comes 7 = .ok (.aload_n 0, 1) := by decide +kernel
theorem d_MO_comes_8 : decode b_MO_comes 8 = .ok (.getfield 7, 3) := by decide +kernel
theorem d_MO_comes_11 : decode b_MO_comes 11 = .ok (.sipush 337, 3) := by decide +kernel
theorem d_MO_comes_14 : decode b_MO_comes 14 = .ok (.iaload, 1) := by decide +kernel
theorem d_MO_comes_15 : decode b_MO_comes 15 = .ok (.ifCond .ne 6, 3) := by decide +kernel
theorem d_MO_comes_18 : decode b_MO_comes 18 = .ok (.bipush (-4), 2) := by decide +kernel
theorem d_MO_comes_20 : decode b_MO_comes 20 = .ok (.ireturn, 1) := by decide +kernel
theorem d_MO_comes_21 : decode b_MO_comes 21 = .ok (.iload_n 1, 1) := by decide +kernel
theorem d_MO_comes_22 : decode b_MO_comes 22 = .ok (.aload_n 0, 1) := by decide +kernel
theorem d_MO_comes_23 : decode b_MO_comes 23 = .ok (.invokevirtual 109, 3) := by decide +kernel
theorem d_MO_comes_26 : decode b_MO_comes 26 = .ok (.if_icmp .ge 12, 3) := by decide +kernel
theorem d_MO_comes_29 : decode b_MO_comes 29 = .ok (.aload_n 0, 1) := by decide +kernel
theorem d_MO_comes_30 : decode b_MO_comes 30 = .ok (.getfield 25, 3) := by decide +kernel
theorem d_MO_comes_33 : decode b_MO_comes 33 = .ok (.iload_n 1, 1) := by decide +kernel
theorem d_MO_comes_34 : decode b_MO_comes 34 = .ok (.iaload, 1) := by decide +kernel
theorem d_MO_comes_35 : decode b_MO_comes 35 = .ok (.goto 5, 3) := by decide +kernel
theorem d_MO_comes_38 : decode b_MO_comes 38 = .ok (.bipush (-5), 2) := by decide +kernel
theorem d_MO_comes_40 : decode b_MO_comes 40 = .ok (.ireturn, 1) := by decide +kernel
theorem d_MO_returns_0 : decode b_MO_returns 0 = .ok (.iload_n 1, 1) := by decide +kernel
theorem d_MO_returns_1 : decode b_MO_returns 1 = .ok (.ifCond .lt 12, 3) := by decide +kernel
theorem d_MO_returns_4 : decode b_MO_returns 4 = .ok (.iload_n 2, 1) := by decide +kernel
theorem d_MO_returns_5 : decode b_MO_returns 5 = .ok (.iconst 0, 1) := by decide +kernel
theorem d_MO_returns_6 : decode b_MO_returns 6 = .ok (.iconst 2, 1) := by decide +kernel
theorem d_MO_returns_7 : decode b_MO_returns 7 = .ok (.invokestatic 44, 3) := by decide +kernel
theorem d_MO_returns_10 : decode b_MO_returns 10 = .ok (.ifCond .ne 6, 3) := by decide +kernel
theorem d_MO_returns_13 : decode b_MO_returns 13 = .ok (.bipush (-2), 2) := by decide +kernel
theorem d_MO_returns_15 : decode b_MO_returns 15 = .ok (.ireturn, 1) := by decide +kernel
theorem d_MO_returns_16 : decode b_MO_returns 16 = .ok (.aload_n 0, 1) := by decide +kernel
theorem d_MO_returns_17 : decode b_MO_returns 17 = .ok (.getfield 7, 3) := by decide +kernel
theorem d_MO_returns_20 : decode b_MO_returns 20 = .ok (.sipush 337, 3) := by decide +kernel
theorem d_MO_returns_23 : decode b_MO_returns 23 = .ok (.iaload, 1) := by decide +kernel
theorem d_MO_returns_24 : decode b_MO_returns 24 = .ok (.ifCond .ne 6, 3) := by decide +kernel
theorem d_MO_returns_27 : decode b_MO_returns 27 = .ok (.bipush (-4), 2) := by decide +kernel
theorem d_MO_returns_29 : decode b_MO_returns 29 = .ok (.ireturn, 1) := by decide +kernel
theorem d_MO_returns_30 : decode b_MO_returns 30 = .ok (.aload_n 0, 1) := by decide +kernel
theorem d_MO_returns_31 : decode b_MO_returns 31 = .ok (.invokevirtual 109, 3) := by decide +kernel
theorem d_MO_returns_34 : decode b_MO_returns 34 = .ok (.pop, 1) := by decide +kernel
theorem d_MO_returns_35 : decode b_MO_returns 35 = .ok (.bipush (-5), 2) := by decide +kernel
theorem d_MO_returns_37 : decode b_MO_returns 37 = .ok (.istore_n 3, 1) := by decide +kernel
theorem d_MO_returns_38 : decode b_MO_returns 38 = .ok (.iconst 0, 1) := by decide +kernel
theorem d_MO_returns_39 : decode b_MO_returns 39 = .ok (.istore 4, 2) := by decide +kernel
theorem d_MO_returns_41 : decode b_MO_returns 41 = .ok (.aload_n 0, 1) := by decide +kernel
theorem d_MO_returns_42 : decode b_MO_returns 42 = .ok (.getfield 115, 3) := by decide +kernel
theorem d_MO_returns_45 : decode b_MO_returns 45 = .ok (.iconst 2, 1) := by decide +kernel
theorem d_MO_returns_46 : decode b_MO_returns 46 = .ok (.isub, 1) := by decide +kernel
theorem d_MO_returns_47 : decode b_MO_returns 47 = .ok (.istore 5, 2) := by decide +kernel
theorem d_MO_returns_49 : decode b_MO_returns 49 = .ok (.iload 5, 2) := by decide +kernel
theorem d_MO_returns_51 : decode b_MO_returns 51 = .ok (.ifCond .lt 48, 3) := by decide +kernel
theorem d_MO_returns_54 : decode b_MO_returns 54 = .ok (.aload_n 0, 1) := by decide +kernel
theorem d_MO_returns_55 : decode b_MO_returns 55 = .ok (.getfield 28, 3) := by decide +kernel
theorem d_MO_returns_58 : decode b_MO_returns 58 = .ok (.iload 5, 2) := by decide +kernel
theorem d_MO_returns_60 : decode b_MO_returns 60 = .ok (.iaload, 1) := by decide +kernel
theorem d_MO_returns_61 : decode b_MO_returns 61 = .ok (.iload_n 1, 1) := by decide +kernel
theorem d_MO_returns_62 : decode b_MO_returns 62 = .ok (.if_icmp .ne 8, 3) := by decide +kernel
theorem d_MO_returns_65 : decode b_MO_returns 65 = .ok (.iload 5, 2) := by decide +kernel
theorem d_MO_returns_67 : decode b_MO_returns 67 = .ok (.goto 4, 3) := by decide +kernel
theorem d_MO_returns_70 : decode b_MO_returns 70 = .ok (.iload_n 3, 1) := by decide +kernel
theorem d_MO_returns_71 : decode b_MO_returns 71 = .ok (.istore_n 3, 1) := by decide +kernel
theorem d_MO_returns_72 : decode b_MO_returns 72 = .ok (.iload 4, 2) := by decide +kernel
theorem d_MO_returns_74 : decode b_MO_returns 74 = .ok (.aload_n 0, 1) := by decide +kernel
theorem d_MO_returns_75 : decode b_MO_returns 75 = .ok (.getfield 28, 3) := by decide +kernel
theorem d_MO_returns_78 : decode b_MO_returns 78 = .ok (.iload 5, 2) := by decide +kernel
theorem d_MO_returns_80 : decode b_MO_returns 80 = .ok (.iaload, 1) := by decide +kernel
theorem d_MO_returns_81 : decode b_MO_returns 81 = .ok (.iload_n 1, 1) := by decide +kernel
theorem d_MO_returns_82 : decode b_MO_returns 82 = .ok (.if_icmp .ne 7, 3) := by decide +kernel
theorem d_MO_returns_85 : decode b_MO_returns 85 = .ok (.iconst 1, 1) := by decide +kernel
theorem d_MO_returns_86 : decode b_MO_returns 86 = .ok (.goto 4, 3) := by decide +kernel
theorem d_MO_returns_89 : decode b_MO_returns 89 = .ok (.iconst 0, 1) := by decide +kernel
theorem d_MO_returns_90 : decode b_MO_returns 90 = .ok (.iadd, 1) := by decide +kernel
theorem d_MO_returns_91 : decode b_MO_returns 91 = .ok (.istore 4, 2) := by decide +kernel
theorem d_MO_returns_93 : decode b_MO_returns 93 = .ok (.iinc 5 (-1), 3) := by decide +kernel
theorem d_MO_returns_96 : decode b_MO_returns 96 = .ok (.goto (-47), 3) := by decide +kernel
theorem d_MO_returns_99 : decode b_MO_returns 99 = .ok (.iload_n 3, 1) := by decide +kernel
theorem d_MO_returns_100 : decode b_MO_returns 100 = .ok (.bipush (-5), 2) := by decide +kernel
theorem d_MO_returns_102 : decode b_MO_returns 102 = .ok (.if_icmp .ne 6, 3) := by decide +kernel
theorem d_MO_returns_105 : decode b_MO_returns 105 = .ok (.bipush (-5), 2) := by decide +kernel
theorem d_MO_returns_107 : decode b_MO_returns 107 = .ok (.ireturn, 1) := by decide +kernel
theorem d_MO_returns_108 : decode b_MO_returns 108 = .ok (.iload_n 2, 1) := by decide +kernel
theorem d_MO_returns_109 : decode b_MO_returns 109 = .ok (.ifCond .ne 11, 3) := by decide +kernel
theorem d_MO_returns_112 : decode b_MO_returns 112 = .ok (.aload_n 0, 1) := by decide +kernel
theorem d_MO_returns_113 : decode b_MO_returns 113 = .ok (.iload_n 3, 1) := by decide +kernel
theorem d_MO_returns_114 : decode b_MO_returns 114 = .ok (.invokevirtual 118, 3) := by decide +kernel
theorem d_MO_returns_117 : decode b_MO_returns 117 = .ok (.goto 19, 3) := by decide +kernel
theorem d_MO_returns_120 : decode b_MO_returns 120 = .ok (.iload_n 2, 1) := by decide +kernel
theorem d_MO_returns_121 : decode b_MO_returns 121 = .ok (.iconst 1, 1) := by decide +kernel
theorem d_MO_returns_122 : decode b_MO_returns 122 = .ok (.if_icmp .ne 12, 3) := by decide +kernel
theorem d_MO_returns_125 : decode b_MO_returns 125 = .ok (.aload_n 0, 1) := by decide +kernel
theorem d_MO_returns_126 : decode b_MO_returns 126 = .ok (.getfield 25, 3) := by decide +kernel
theorem d_MO_returns_129 : decode b_MO_returns 129 = .ok (.iload_n 3, 1) := by decide +kernel
theorem d_MO_returns_130 : decode b_MO_returns 130 = .ok (.iaload, 1) := by decide +kernel
theorem d_MO_returns_131 : decode b_MO_returns 131 = .ok (.goto 5, 3) := by decide +kernel
theorem d_MO_returns_134 : decode b_MO_returns 134 = .ok (.iload 4, 2) := by decide +kernel
theorem d_MO_returns_136 : decode b_MO_returns 136 = .ok (.ireturn, 1) := by decide +kernel
theorem d_MO_row_0 : decode b_MO_row 0 = .ok (.iload_n 1, 1) := by decide +kernel
theorem d_MO_row_1 : decode b_MO_row 1 = .ok (.ifCond .ge 6, 3) := by decide +kernel
theorem d_MO_row_4 : decode b_MO_row 4 = .ok (.bipush (-2), 2) := by decide +kernel
theorem d_MO_row_6 : decode b_MO_row 6 = .ok (.ireturn, 1) := by decide +kernel
theorem d_MO_row_7 : decode b_MO_row 7 = .ok (.aload_n 0, 1) := by decide +kernel
theorem d_MO_row_8 : decode b_MO_row 8 = .ok (.getfield 7, 3) := by decide +kernel
theorem d_MO_row_11 : decode b_MO_row 11 = .ok (.sipush 337, 3) := by decide +kernel
theorem d_MO_row_14 : decode b_MO_row 14 = .ok (.iaload, 1) := by decide +kernel
theorem d_MO_row_15 : decode b_MO_row 15 = .ok (.ifCond .ne 6, 3) := by decide +kernel
theorem d_MO_row_18 : decode b_MO_row 18 = .ok (.bipush (-4), 2) := by decide +kernel
theorem d_MO_row_20 : decode b_MO_row 20 = .ok (.ireturn, 1) := by decide +kernel
theorem d_MO_row_21 : decode b_MO_row 21 = .ok (.iload_n 1, 1) := by decide +kernel
theorem d_MO_row_22 : decode b_MO_row 22 = .ok (.aload_n 0, 1) := by decide +kernel
theorem d_MO_row_23 : decode b_MO_row 23 = .ok (.invokevirtual 109, 3) := by decide +kernel
theorem d_MO_row_26 : decode b_MO_row 26 = .ok (.iconst 1, 1) := by decide +kernel
theorem d_MO_row_27 : decode b_MO_row 27 = .ok (.isub, 1) := by decide +kernel
theorem d_MO_row_28 : decode b_MO_row 28 = .ok (.if_icmp .ge 12, 3) := by decide +kernel
theorem d_MO_row_31 : decode b_MO_row 31 = .ok (.aload_n 0, 1) := by decide +kernel
theorem d_MO_row_32 : decode b_MO_row 32 = .ok (.getfield 28, 3) := by decide +kernel
theorem d_MO_row_35 : decode b_MO_row 35 = .ok (.iload_n 1, 1) := by decide +kernel
theorem d_MO_row_36 : decode b_MO_row 36 = .ok (.iaload, 1) := by decide +kernel
theorem d_MO_row_37 : decode b_MO_row 37 = .ok (.goto 5, 3) := by decide +kernel
theorem d_MO_row_40 : decode b_MO_row 40 = .ok (.bipush (-5), 2) := by decide +kernel
theorem d_MO_row_42 : decode b_MO_row 42 = .ok (.ireturn, 1) := by decide +kernel
theorem d_MO_lettersOfWord_0 : decode b_MO_lettersOfWord 0 = .ok (.iconst 0, 1) := by decide +kernel
theorem d_MO_lettersOfWord_1 : decode b_MO_lettersOfWord 1 = .ok (.istore_n 1, 1) := by decide +kernel
theorem d_MO_lettersOfWord_2 : decode b_MO_lettersOfWord 2 = .ok (.iconst 0, 1) := by decide +kernel
theorem d_MO_lettersOfWord_3 : decode b_MO_lettersOfWord 3 = .ok (.istore_n 2, 1) := by decide +kernel
theorem d_MO_lettersOfWord_4 : decode b_MO_lettersOfWord 4 = .ok (.iload_n 2, 1) := by decide +kernel
theorem d_MO_lettersOfWord_5 : decode b_MO_lettersOfWord 5 = .ok (.aload_n 0, 1) := by decide +kernel
theorem d_MO_lettersOfWord_6 : decode b_MO_lettersOfWord 6 = .ok (.invokevirtual 60, 3) := by decide +kernel
theorem d_MO_lettersOfWord_9 : decode b_MO_lettersOfWord 9 = .ok (.if_icmp .ge 19, 3) := by decide +kernel
theorem d_MO_lettersOfWord_12 : decode b_MO_lettersOfWord 12 = .ok (.iload_n 1, 1) := by decide +kernel
theorem d_MO_lettersOfWord_13 : decode b_MO_lettersOfWord 13 = .ok (.iconst 1, 1) := by decide +kernel
theorem d_MO_lettersOfWord_14 : decode b_MO_lettersOfWord 14 = .ok (.aload_n 0, 1) := by decide +kernel
theorem d_MO_lettersOfWord_15 : decode b_MO_lettersOfWord 15 = .ok (.iload_n 2, 1) := by decide +kernel
theorem d_MO_lettersOfWord_16 : decode b_MO_lettersOfWord 16 = .ok (.invokevirtual 64, 3) := by decide +kernel
theorem d_MO_lettersOfWord_19 : decode b_MO_lettersOfWord 19 = .ok (.ishl, 1) := by decide +kernel
theorem d_MO_lettersOfWord_20 : decode b_MO_lettersOfWord 20 = .ok (.ior, 1) := by decide +kernel
theorem d_MO_lettersOfWord_21 : decode b_MO_lettersOfWord 21 = .ok (.istore_n 1, 1) := by decide +kernel
theorem d_MO_lettersOfWord_22 : decode b_MO_lettersOfWord 22 = .ok (.iinc 2 1, 3) := by decide +kernel
theorem d_MO_lettersOfWord_25 : decode b_MO_lettersOfWord 25 = .ok (.goto (-21), 3) := by decide +kernel
theorem d_MO_lettersOfWord_28 : decode b_MO_lettersOfWord 28 = .ok (.iload_n 1, 1) := by decide +kernel
theorem d_MO_lettersOfWord_29 : decode b_MO_lettersOfWord 29 = .ok (.ireturn, 1) := by decide +kernel
theorem d_MO_count_0 : decode b_MO_count 0 = .ok (.iload_n 1, 1) := by decide +kernel
theorem d_MO_count_1 : decode b_MO_count 1 = .ok (.tableswitch 128 0 7 #[47, 52, 57, 66, 87, 113, 118, 123], 47) := by decide +kernel
theorem d_MO_count_48 : decode b_MO_count 48 = .ok (.aload_n 0, 1) := by decide +kernel
theorem d_MO_count_49 : decode b_MO_count 49 = .ok (.invokevirtual 60, 3) := by decide +kernel
theorem d_MO_count_52 : decode b_MO_count 52 = .ok (.ireturn, 1) := by decide +kernel
theorem d_MO_count_53 : decode b_MO_count 53 = .ok (.aload_n 0, 1) := by decide +kernel
theorem d_MO_count_54 : decode b_MO_count 54 = .ok (.invokevirtual 178, 3) := by decide +kernel
theorem d_MO_count_57 : decode b_MO_count 57 = .ok (.ireturn, 1) := by decide +kernel
theorem d_MO_count_58 : decode b_MO_count 58 = .ok (.aload_n 0, 1) := by decide +kernel
theorem d_MO_count_59 : decode b_MO_count 59 = .ok (.getfield 7, 3) := by decide +kernel
theorem d_MO_count_62 : decode b_MO_count 62 = .ok (.sipush 337, 3) := by decide +kernel
theorem d_MO_count_65 : decode b_MO_count 65 = .ok (.iaload, 1) := by decide +kernel
theorem d_MO_count_66 : decode b_MO_count 66 = .ok (.ireturn, 1) := by decide +kernel
theorem d_MO_count_67 : decode b_MO_count 67 = .ok (.aload_n 0, 1) := by decide +kernel
theorem d_MO_count_68 : decode b_MO_count 68 = .ok (.getfield 7, 3) := by decide +kernel
theorem d_MO_count_71 : decode b_MO_count 71 = .ok (.sipush 337, 3) := by decide +kernel
theorem d_MO_count_74 : decode b_MO_count 74 = .ok (.iaload, 1) := by decide +kernel
theorem d_MO_count_75 : decode b_MO_count 75 = .ok (.ifCond .ne 8, 3) := by decide +kernel
theorem d_MO_count_78 : decode b_MO_count 78 = .ok (.bipush (-5), 2) := by decide +kernel
theorem d_MO_count_80 : decode b_MO_count 80 = .ok (.goto 7, 3) := by decide +kernel
theorem d_MO_count_83 : decode b_MO_count 83 = .ok (.aload_n 0, 1) := by decide +kernel
theorem d_MO_count_84 : decode b_MO_count 84 = .ok (.invokevirtual 109, 3) := by decide +kernel
theorem d_MO_count_87 : decode b_MO_count 87 = .ok (.ireturn, 1) := by decide +kernel
theorem d_MO_count_88 : decode b_MO_count 88 = .ok (.aload_n 0, 1) := by decide +kernel
theorem d_MO_count_89 : decode b_MO_count 89 = .ok (.invokevirtual 109, 3) := by decide +kernel
theorem d_MO_count_92 : decode b_MO_count 92 = .ok (.pop, 1) := by decide +kernel
theorem d_MO_count_93 : decode b_MO_count 93 = .ok (.aload_n 0, 1) := by decide +kernel
theorem d_MO_count_94 : decode b_MO_count 94 = .ok (.getfield 7, 3) := by decide +kernel
theorem d_MO_count_97 : decode b_MO_count 97 = .ok (.sipush 337, 3) := by decide +kernel
theorem d_MO_count_100 : decode b_MO_count 100 = .ok (.iaload, 1) := by decide +kernel
theorem d_MO_count_101 : decode b_MO_count 101 = .ok (.ifCond .ne 8, 3) := by decide +kernel
theorem d_MO_count_104 : decode b_MO_count 104 = .ok (.bipush (-5), 2) := by decide +kernel
theorem d_MO_count_106 : decode b_MO_count 106 = .ok (.goto 7, 3) := by decide +kernel
theorem d_MO_count_109 : decode b_MO_count 109 = .ok (.aload_n 0, 1) := by decide +kernel
theorem d_MO_count_110 : decode b_MO_count 110 = .ok (.getfield 112, 3) := by decide +kernel
theorem d_MO_count_113 : decode b_MO_count 113 = .ok (.ireturn, 1) := by decide +kernel
theorem d_MO_count_114 : decode b_MO_count 114 = .ok (.aload_n 0, 1) := by decide +kernel
theorem d_MO_count_115 : decode b_MO_count 115 = .ok (.invokevirtual 86, 3) := by decide +kernel
theorem d_MO_count_118 : decode b_MO_count 118 = .ok (.ireturn, 1) := by decide +kernel
theorem d_MO_count_119 : decode b_MO_count 119 = .ok (.aload_n 0, 1) := by decide +kernel
theorem d_MO_count_120 : decode b_MO_count 120 = .ok (.getfield 48, 3) := by decide +kernel
theorem d_MO_count_123 : decode b_MO_count 123 = .ok (.ireturn, 1) := by decide +kernel
theorem d_MO_count_124 : decode b_MO_count 124 = .ok (.aload_n 0, 1) := by decide +kernel
theorem d_MO_count_125 : decode b_MO_count 125 = .ok (.getfield 131, 3) := by decide +kernel
theorem d_MO_count_128 : decode b_MO_count 128 = .ok (.ireturn, 1) := by decide +kernel
theorem d_MO_count_129 : decode b_MO_count 129 = .ok (.bipush (-2), 2) := by decide +kernel
theorem d_MO_count_131 : decode b_MO_count 131 = .ok (.ireturn, 1) := by decide +kernel
