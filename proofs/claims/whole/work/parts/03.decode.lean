theorem dX0_init_0 : decode cX0_init 0 = .ok (.aload_n 0, 1) := by decide +kernel
theorem dX0_init_1 : decode cX0_init 1 = .ok (.invokespecial 3, 3) := by decide +kernel
theorem dX0_init_4 : decode cX0_init 4 = .ok (.aload_n 0, 1) := by decide +kernel
theorem dX0_init_5 : decode cX0_init 5 = .ok (.bipush 8, 2) := by decide +kernel
theorem dX0_init_7 : decode cX0_init 7 = .ok (.newarray .int, 2) := by decide +kernel
theorem dX0_init_9 : decode cX0_init 9 = .ok (.putfield 9, 3) := by decide +kernel
theorem dX0_init_12 : decode cX0_init 12 = .ok (.aload_n 0, 1) := by decide +kernel
theorem dX0_init_13 : decode cX0_init 13 = .ok (.bipush 8, 2) := by decide +kernel
theorem dX0_init_15 : decode cX0_init 15 = .ok (.newarray .int, 2) := by decide +kernel
theorem dX0_init_17 : decode cX0_init 17 = .ok (.putfield 15, 3) := by decide +kernel
theorem dX0_init_20 : decode cX0_init 20 = .ok (.aload_n 0, 1) := by decide +kernel
theorem dX0_init_21 : decode cX0_init 21 = .ok (.bipush 8, 2) := by decide +kernel
theorem dX0_init_23 : decode cX0_init 23 = .ok (.newarray .int, 2) := by decide +kernel
theorem dX0_init_25 : decode cX0_init 25 = .ok (.putfield 18, 3) := by decide +kernel
theorem dX0_init_28 : decode cX0_init 28 = .ok (.aload_n 0, 1) := by decide +kernel
theorem dX0_init_29 : decode cX0_init 29 = .ok (.iconst 0, 1) := by decide +kernel
theorem dX0_init_30 : decode cX0_init 30 = .ok (.putfield 21, 3) := by decide +kernel
theorem dX0_init_33 : decode cX0_init 33 = .ok (.return_, 1) := by decide +kernel
theorem dX0_forget_0 : decode cX0_forget 0 = .ok (.aload_n 0, 1) := by decide +kernel
theorem dX0_forget_1 : decode cX0_forget 1 = .ok (.iconst 0, 1) := by decide +kernel
theorem dX0_forget_2 : decode cX0_forget 2 = .ok (.putfield 21, 3) := by decide +kernel
theorem dX0_forget_5 : decode cX0_forget 5 = .ok (.return_, 1) := by decide +kernel
theorem dX0_note_0 : decode cX0_note 0 = .ok (.aload_n 0, 1) := by decide +kernel
theorem dX0_note_1 : decode cX0_note 1 = .ok (.getfield 21, 3) := by decide +kernel
theorem dX0_note_4 : decode cX0_note 4 = .ok (.bipush 8, 2) := by decide +kernel
theorem dX0_note_6 : decode cX0_note 6 = .ok (.if_icmp .ne 7, 3) := by decide +kernel
theorem dX0_note_9 : decode cX0_note 9 = .ok (.aload_n 0, 1) := by decide +kernel
theorem dX0_note_10 : decode cX0_note 10 = .ok (.invokevirtual 25, 3) := by decide +kernel
theorem dX0_note_13 : decode cX0_note 13 = .ok (.aload_n 0, 1) := by decide +kernel
theorem dX0_note_14 : decode cX0_note 14 = .ok (.getfield 9, 3) := by decide +kernel
theorem dX0_note_17 : decode cX0_note 17 = .ok (.aload_n 0, 1) := by decide +kernel
theorem dX0_note_18 : decode cX0_note 18 = .ok (.getfield 21, 3) := by decide +kernel
theorem dX0_note_21 : decode cX0_note 21 = .ok (.iload_n 1, 1) := by decide +kernel
theorem dX0_note_22 : decode cX0_note 22 = .ok (.invokestatic 28, 3) := by decide +kernel
theorem dX0_note_25 : decode cX0_note 25 = .ok (.aload_n 0, 1) := by decide +kernel
theorem dX0_note_26 : decode cX0_note 26 = .ok (.getfield 15, 3) := by decide +kernel
theorem dX0_note_29 : decode cX0_note 29 = .ok (.aload_n 0, 1) := by decide +kernel
theorem dX0_note_30 : decode cX0_note 30 = .ok (.getfield 21, 3) := by decide +kernel
theorem dX0_note_33 : decode cX0_note 33 = .ok (.iload_n 2, 1) := by decide +kernel
theorem dX0_note_34 : decode cX0_note 34 = .ok (.invokestatic 28, 3) := by decide +kernel
theorem dX0_note_37 : decode cX0_note 37 = .ok (.aload_n 0, 1) := by decide +kernel
theorem dX0_note_38 : decode cX0_note 38 = .ok (.getfield 18, 3) := by decide +kernel
theorem dX0_note_41 : decode cX0_note 41 = .ok (.aload_n 0, 1) := by decide +kernel
theorem dX0_note_42 : decode cX0_note 42 = .ok (.getfield 21, 3) := by decide +kernel
theorem dX0_note_45 : decode cX0_note 45 = .ok (.iload_n 3, 1) := by decide +kernel
theorem dX0_note_46 : decode cX0_note 46 = .ok (.invokestatic 28, 3) := by decide +kernel
theorem dX0_note_49 : decode cX0_note 49 = .ok (.aload_n 0, 1) := by decide +kernel
theorem dX0_note_50 : decode cX0_note 50 = .ok (.dup, 1) := by decide +kernel
theorem dX0_note_51 : decode cX0_note 51 = .ok (.getfield 21, 3) := by decide +kernel
theorem dX0_note_54 : decode cX0_note 54 = .ok (.iconst 1, 1) := by decide +kernel
theorem dX0_note_55 : decode cX0_note 55 = .ok (.iadd, 1) := by decide +kernel
theorem dX0_note_56 : decode cX0_note 56 = .ok (.putfield 21, 3) := by decide +kernel
theorem dX0_note_59 : decode cX0_note 59 = .ok (.return_, 1) := by decide +kernel
theorem dX0_dropOldest_0 : decode cX0_dropOldest 0 = .ok (.iconst 1, 1) := by decide +kernel
theorem dX0_dropOldest_1 : decode cX0_dropOldest 1 = .ok (.istore_n 1, 1) := by decide +kernel
theorem dX0_dropOldest_2 : decode cX0_dropOldest 2 = .ok (.iload_n 1, 1) := by decide +kernel
theorem dX0_dropOldest_3 : decode cX0_dropOldest 3 = .ok (.aload_n 0, 1) := by decide +kernel
theorem dX0_dropOldest_4 : decode cX0_dropOldest 4 = .ok (.getfield 21, 3) := by decide +kernel
theorem dX0_dropOldest_7 : decode cX0_dropOldest 7 = .ok (.if_icmp .ge 63, 3) := by decide +kernel
theorem dX0_dropOldest_10 : decode cX0_dropOldest 10 = .ok (.aload_n 0, 1) := by decide +kernel
theorem dX0_dropOldest_11 : decode cX0_dropOldest 11 = .ok (.getfield 9, 3) := by decide +kernel
theorem dX0_dropOldest_14 : decode cX0_dropOldest 14 = .ok (.iload_n 1, 1) := by decide +kernel
theorem dX0_dropOldest_15 : decode cX0_dropOldest 15 = .ok (.iconst 1, 1) := by decide +kernel
theorem dX0_dropOldest_16 : decode cX0_dropOldest 16 = .ok (.isub, 1) := by decide +kernel
theorem dX0_dropOldest_17 : decode cX0_dropOldest 17 = .ok (.aload_n 0, 1) := by decide +kernel
theorem dX0_dropOldest_18 : decode cX0_dropOldest 18 = .ok (.getfield 9, 3) := by decide +kernel
theorem dX0_dropOldest_21 : decode cX0_dropOldest 21 = .ok (.iload_n 1, 1) := by decide +kernel
theorem dX0_dropOldest_22 : decode cX0_dropOldest 22 = .ok (.invokestatic 32, 3) := by decide +kernel
theorem dX0_dropOldest_25 : decode cX0_dropOldest 25 = .ok (.invokestatic 28, 3) := by decide +kernel
theorem dX0_dropOldest_28 : decode cX0_dropOldest 28 = .ok (.aload_n 0, 1) := by decide +kernel
theorem dX0_dropOldest_29 : decode cX0_dropOldest 29 = .ok (.getfield 15, 3) := by decide +kernel
theorem dX0_dropOldest_32 : decode cX0_dropOldest 32 = .ok (.iload_n 1, 1) := by decide +kernel
theorem dX0_dropOldest_33 : decode cX0_dropOldest 33 = .ok (.iconst 1, 1) := by decide +kernel
theorem dX0_dropOldest_34 : decode cX0_dropOldest 34 = .ok (.isub, 1) := by decide +kernel
theorem dX0_dropOldest_35 : decode cX0_dropOldest 35 = .ok (.aload_n 0, 1) := by decide +kernel
theorem dX0_dropOldest_36 : decode cX0_dropOldest 36 = .ok (.getfield 15, 3) := by decide +kernel
theorem dX0_dropOldest_39 : decode cX0_dropOldest 39 = .ok (.iload_n 1, 1) := by decide +kernel
theorem dX0_dropOldest_40 : decode cX0_dropOldest 40 = .ok (.invokestatic 32, 3) := by decide +kernel
theorem dX0_dropOldest_43 : decode cX0_dropOldest 43 = .ok (.invokestatic 28, 3) := by decide +kernel
theorem dX0_dropOldest_46 : decode cX0_dropOldest 46 = .ok (.aload_n 0, 1) := by decide +kernel
theorem dX0_dropOldest_47 : decode cX0_dropOldest 47 = .ok (.getfield 18, 3) := by decide +kernel
theorem dX0_dropOldest_50 : decode cX0_dropOldest 50 = .ok (.iload_n 1, 1) := by decide +kernel
theorem dX0_dropOldest_51 : decode cX0_dropOldest 51 = .ok (.iconst 1, 1) := by decide +kernel
theorem dX0_dropOldest_52 : decode cX0_dropOldest 52 = .ok (.isub, 1) := by decide +kernel
theorem dX0_dropOldest_53 : decode cX0_dropOldest 53 = .ok (.aload_n 0, 1) := by decide +kernel
theorem dX0_dropOldest_54 : decode cX0_dropOldest 54 = .ok (.getfield 18, 3) := by decide +kernel
theorem dX0_dropOldest_57 : decode cX0_dropOldest 57 = .ok (.iload_n 1, 1) := by decide +kernel
theorem dX0_dropOldest_58 : decode cX0_dropOldest 58 = .ok (.invokestatic 32, 3) := by decide +kernel
theorem dX0_dropOldest_61 : decode cX0_dropOldest 61 = .ok (.invokestatic 28, 3) := by decide +kernel
theorem dX0_dropOldest_64 : decode cX0_dropOldest 64 = .ok (.iinc 1 1, 3) := by decide +kernel
theorem dX0_dropOldest_67 : decode cX0_dropOldest 67 = .ok (.goto (-65), 3) := by decide +kernel
theorem dX0_dropOldest_70 : decode cX0_dropOldest 70 = .ok (.aload_n 0, 1) := by decide +kernel
theorem dX0_dropOldest_71 : decode cX0_dropOldest 71 = .ok (.dup, 1) := by decide +kernel
theorem dX0_dropOldest_72 : decode cX0_dropOldest 72 = .ok (.getfield 21, 3) := by decide +kernel
theorem dX0_dropOldest_75 : decode cX0_dropOldest 75 = .ok (.iconst 1, 1) := by decide +kernel
theorem dX0_dropOldest_76 : decode cX0_dropOldest 76 = .ok (.isub, 1) := by decide +kernel
theorem dX0_dropOldest_77 : decode cX0_dropOldest 77 = .ok (.putfield 21, 3) := by decide +kernel
theorem dX0_dropOldest_80 : decode cX0_dropOldest 80 = .ok (.return_, 1) := by decide +kernel
theorem dX0_takeBack_0 : decode cX0_takeBack 0 = .ok (.aload_n 0, 1) := by decide +kernel
theorem dX0_takeBack_1 : decode cX0_takeBack 1 = .ok (.getfield 21, 3) := by decide +kernel
theorem dX0_takeBack_4 : decode cX0_takeBack 4 = .ok (.ifCond .ne 5, 3) := by decide +kernel
theorem dX0_takeBack_7 : decode cX0_takeBack 7 = .ok (.iconst 0, 1) := by decide +kernel
theorem dX0_takeBack_8 : decode cX0_takeBack 8 = .ok (.ireturn, 1) := by decide +kernel
theorem dX0_takeBack_9 : decode cX0_takeBack 9 = .ok (.aload_n 0, 1) := by decide +kernel
theorem dX0_takeBack_10 : decode cX0_takeBack 10 = .ok (.dup, 1) := by decide +kernel
theorem dX0_takeBack_11 : decode cX0_takeBack 11 = .ok (.getfield 21, 3) := by decide +kernel
theorem dX0_takeBack_14 : decode cX0_takeBack 14 = .ok (.iconst 1, 1) := by decide +kernel
theorem dX0_takeBack_15 : decode cX0_takeBack 15 = .ok (.isub, 1) := by decide +kernel
theorem dX0_takeBack_16 : decode cX0_takeBack 16 = .ok (.putfield 21, 3) := by decide +kernel
theorem dX0_takeBack_19 : decode cX0_takeBack 19 = .ok (.aload_n 1, 1) := by decide +kernel
theorem dX0_takeBack_20 : decode cX0_takeBack 20 = .ok (.aload_n 0, 1) := by decide +kernel
theorem dX0_takeBack_21 : decode cX0_takeBack 21 = .ok (.getfield 9, 3) := by decide +kernel
theorem dX0_takeBack_24 : decode cX0_takeBack 24 = .ok (.aload_n 0, 1) := by decide +kernel
theorem dX0_takeBack_25 : decode cX0_takeBack 25 = .ok (.getfield 21, 3) := by decide +kernel
theorem dX0_takeBack_28 : decode cX0_takeBack 28 = .ok (.invokestatic 32, 3) := by decide +kernel
theorem dX0_takeBack_31 : decode cX0_takeBack 31 = .ok (.aload_n 0, 1) := by decide +kernel
theorem dX0_takeBack_32 : decode cX0_takeBack 32 = .ok (.getfield 15, 3) := by decide +kernel
theorem dX0_takeBack_35 : decode cX0_takeBack 35 = .ok (.aload_n 0, 1) := by decide +kernel
theorem dX0_takeBack_36 : decode cX0_takeBack 36 = .ok (.getfield 21, 3) := by decide +kernel
theorem dX0_takeBack_39 : decode cX0_takeBack 39 = .ok (.invokestatic 32, 3) := by decide +kernel
theorem dX0_takeBack_42 : decode cX0_takeBack 42 = .ok (.aload_n 0, 1) := by decide +kernel
theorem dX0_takeBack_43 : decode cX0_takeBack 43 = .ok (.getfield 18, 3) := by decide +kernel
theorem dX0_takeBack_46 : decode cX0_takeBack 46 = .ok (.aload_n 0, 1) := by decide +kernel
theorem dX0_takeBack_47 : decode cX0_takeBack 47 = .ok (.getfield 21, 3) := by decide +kernel
theorem dX0_takeBack_50 : decode cX0_takeBack 50 = .ok (.invokestatic 32, 3) := by decide +kernel
theorem dX0_takeBack_53 : decode cX0_takeBack 53 = .ok (.invokevirtual 36, 3) := by decide +kernel
theorem dX0_takeBack_56 : decode cX0_takeBack 56 = .ok (.iconst 1, 1) := by decide +kernel
theorem dX0_takeBack_57 : decode cX0_takeBack 57 = .ok (.ireturn, 1) := by decide +kernel
theorem dX1_init_0 : decode cX1_init 0 = .ok (.aload_n 0, 1) := by decide +kernel
theorem dX1_init_1 : decode cX1_init 1 = .ok (.invokespecial 3, 3) := by decide +kernel
theorem dX1_init_4 : decode cX1_init 4 = .ok (.aload_n 0, 1) := by decide +kernel
theorem dX1_init_5 : decode cX1_init 5 = .ok (.new 9, 3) := by decide +kernel
theorem dX1_init_8 : decode cX1_init 8 = .ok (.dup, 1) := by decide +kernel
theorem dX1_init_9 : decode cX1_init 9 = .ok (.bipush 7, 2) := by decide +kernel
theorem dX1_init_11 : decode cX1_init 11 = .ok (.bipush 10, 2) := by decide +kernel
theorem dX1_init_13 : decode cX1_init 13 = .ok (.invokespecial 11, 3) := by decide +kernel
theorem dX1_init_16 : decode cX1_init 16 = .ok (.putfield 14, 3) := by decide +kernel
theorem dX1_init_19 : decode cX1_init 19 = .ok (.aload_n 0, 1) := by decide +kernel
theorem dX1_init_20 : decode cX1_init 20 = .ok (.bipush 7, 2) := by decide +kernel
theorem dX1_init_22 : decode cX1_init 22 = .ok (.newarray .int, 2) := by decide +kernel
theorem dX1_init_24 : decode cX1_init 24 = .ok (.putfield 20, 3) := by decide +kernel
theorem dX1_init_27 : decode cX1_init 27 = .ok (.aload_n 0, 1) := by decide +kernel
theorem dX1_init_28 : decode cX1_init 28 = .ok (.iconst 0, 1) := by decide +kernel
theorem dX1_init_29 : decode cX1_init 29 = .ok (.putfield 24, 3) := by decide +kernel
theorem dX1_init_32 : decode cX1_init 32 = .ok (.aload_n 0, 1) := by decide +kernel
theorem dX1_init_33 : decode cX1_init 33 = .ok (.iconst 0, 1) := by decide +kernel
theorem dX1_init_34 : decode cX1_init 34 = .ok (.putfield 28, 3) := by decide +kernel
theorem dX1_init_37 : decode cX1_init 37 = .ok (.aload_n 0, 1) := by decide +kernel
theorem dX1_init_38 : decode cX1_init 38 = .ok (.iconst 0, 1) := by decide +kernel
theorem dX1_init_39 : decode cX1_init 39 = .ok (.putfield 31, 3) := by decide +kernel
theorem dX1_init_42 : decode cX1_init 42 = .ok (.return_, 1) := by decide +kernel
theorem dX1_fly_0 : decode cX1_fly 0 = .ok (.aload_n 0, 1) := by decide +kernel
theorem dX1_fly_1 : decode cX1_fly 1 = .ok (.iconst 0, 1) := by decide +kernel
theorem dX1_fly_2 : decode cX1_fly 2 = .ok (.putfield 24, 3) := by decide +kernel
theorem dX1_fly_5 : decode cX1_fly 5 = .ok (.iconst 0, 1) := by decide +kernel
theorem dX1_fly_6 : decode cX1_fly 6 = .ok (.istore_n 3, 1) := by decide +kernel
theorem dX1_fly_7 : decode cX1_fly 7 = .ok (.iload_n 3, 1) := by decide +kernel
theorem dX1_fly_8 : decode cX1_fly 8 = .ok (.aload_n 1, 1) := by decide +kernel
theorem dX1_fly_9 : decode cX1_fly 9 = .ok (.getfield 34, 3) := by decide +kernel
theorem dX1_fly_12 : decode cX1_fly 12 = .ok (.invokevirtual 39, 3) := by decide +kernel
theorem dX1_fly_15 : decode cX1_fly 15 = .ok (.if_icmp .ge 57, 3) := by decide +kernel
theorem dX1_fly_18 : decode cX1_fly 18 = .ok (.iconst 0, 1) := by decide +kernel
theorem dX1_fly_19 : decode cX1_fly 19 = .ok (.istore 4, 2) := by decide +kernel
theorem dX1_fly_21 : decode cX1_fly 21 = .ok (.iload 4, 2) := by decide +kernel
theorem dX1_fly_23 : decode cX1_fly 23 = .ok (.iconst 4, 1) := by decide +kernel
theorem dX1_fly_24 : decode cX1_fly 24 = .ok (.if_icmp .ge 29, 3) := by decide +kernel
theorem dX1_fly_27 : decode cX1_fly 27 = .ok (.aload_n 0, 1) := by decide +kernel
theorem dX1_fly_28 : decode cX1_fly 28 = .ok (.getfield 14, 3) := by decide +kernel
theorem dX1_fly_31 : decode cX1_fly 31 = .ok (.iload_n 3, 1) := by decide +kernel
theorem dX1_fly_32 : decode cX1_fly 32 = .ok (.iload 4, 2) := by decide +kernel
theorem dX1_fly_34 : decode cX1_fly 34 = .ok (.aload_n 1, 1) := by decide +kernel
theorem dX1_fly_35 : decode cX1_fly 35 = .ok (.getfield 34, 3) := by decide +kernel
theorem dX1_fly_38 : decode cX1_fly 38 = .ok (.iload_n 3, 1) := by decide +kernel
theorem dX1_fly_39 : decode cX1_fly 39 = .ok (.iload 4, 2) := by decide +kernel
theorem dX1_fly_41 : decode cX1_fly 41 = .ok (.invokevirtual 43, 3) := by decide +kernel
theorem dX1_fly_44 : decode cX1_fly 44 = .ok (.invokevirtual 47, 3) := by decide +kernel
theorem dX1_fly_47 : decode cX1_fly 47 = .ok (.iinc 4 1, 3) := by decide +kernel
theorem dX1_fly_50 : decode cX1_fly 50 = .ok (.goto (-29), 3) := by decide +kernel
theorem dX1_fly_53 : decode cX1_fly 53 = .ok (.iload_n 2, 1) := by decide +kernel
theorem dX1_fly_54 : decode cX1_fly 54 = .ok (.iload_n 3, 1) := by decide +kernel
theorem dX1_fly_55 : decode cX1_fly 55 = .ok (.ishr, 1) := by decide +kernel
theorem dX1_fly_56 : decode cX1_fly 56 = .ok (.iconst 1, 1) := by decide +kernel
theorem dX1_fly_57 : decode cX1_fly 57 = .ok (.iand, 1) := by decide +kernel
theorem dX1_fly_58 : decode cX1_fly 58 = .ok (.ifCond .ne 8, 3) := by decide +kernel
theorem dX1_fly_61 : decode cX1_fly 61 = .ok (.aload_n 0, 1) := by decide +kernel
theorem dX1_fly_62 : decode cX1_fly 62 = .ok (.iload_n 3, 1) := by decide +kernel
theorem dX1_fly_63 : decode cX1_fly 63 = .ok (.invokevirtual 51, 3) := by decide +kernel
theorem dX1_fly_66 : decode cX1_fly 66 = .ok (.iinc 3 1, 3) := by decide +kernel
theorem dX1_fly_69 : decode cX1_fly 69 = .ok (.goto (-62), 3) := by decide +kernel
theorem dX1_fly_72 : decode cX1_fly 72 = .ok (.aload_n 0, 1) := by decide +kernel
theorem dX1_fly_73 : decode cX1_fly 73 = .ok (.aload_n 1, 1) := by decide +kernel
theorem dX1_fly_74 : decode cX1_fly 74 = .ok (.getfield 55, 3) := by decide +kernel
theorem dX1_fly_77 : decode cX1_fly 77 = .ok (.invokevirtual 58, 3) := by decide +kernel
theorem dX1_fly_80 : decode cX1_fly 80 = .ok (.aload_n 0, 1) := by decide +kernel
theorem dX1_fly_81 : decode cX1_fly 81 = .ok (.aload_n 1, 1) := by decide +kernel
theorem dX1_fly_82 : decode cX1_fly 82 = .ok (.getfield 61, 3) := by decide +kernel
theorem dX1_fly_85 : decode cX1_fly 85 = .ok (.invokevirtual 64, 3) := by decide +kernel
theorem dX1_fly_88 : decode cX1_fly 88 = .ok (.aload_n 0, 1) := by decide +kernel
theorem dX1_fly_89 : decode cX1_fly 89 = .ok (.aload_n 1, 1) := by decide +kernel
theorem dX1_fly_90 : decode cX1_fly 90 = .ok (.invokevirtual 67, 3) := by decide +kernel
theorem dX1_fly_93 : decode cX1_fly 93 = .ok (.return_, 1) := by decide +kernel
theorem dX1_lineUp_0 : decode cX1_lineUp 0 = .ok (.aload_n 0, 1) := by decide +kernel
theorem dX1_lineUp_1 : decode cX1_lineUp 1 = .ok (.getfield 24, 3) := by decide +kernel
theorem dX1_lineUp_4 : decode cX1_lineUp 4 = .ok (.istore_n 2, 1) := by decide +kernel
theorem dX1_lineUp_5 : decode cX1_lineUp 5 = .ok (.iload_n 2, 1) := by decide +kernel
theorem dX1_lineUp_6 : decode cX1_lineUp 6 = .ok (.ifCond .le 57, 3) := by decide +kernel
theorem dX1_lineUp_9 : decode cX1_lineUp 9 = .ok (.aload_n 0, 1) := by decide +kernel
theorem dX1_lineUp_10 : decode cX1_lineUp 10 = .ok (.getfield 14, 3) := by decide +kernel
theorem dX1_lineUp_13 : decode cX1_lineUp 13 = .ok (.aload_n 0, 1) := by decide +kernel
theorem dX1_lineUp_14 : decode cX1_lineUp 14 = .ok (.getfield 20, 3) := by decide +kernel
theorem dX1_lineUp_17 : decode cX1_lineUp 17 = .ok (.iload_n 2, 1) := by decide +kernel
theorem dX1_lineUp_18 : decode cX1_lineUp 18 = .ok (.iconst 1, 1) := by decide +kernel
theorem dX1_lineUp_19 : decode cX1_lineUp 19 = .ok (.isub, 1) := by decide +kernel
theorem dX1_lineUp_20 : decode cX1_lineUp 20 = .ok (.invokestatic 71, 3) := by decide +kernel
theorem dX1_lineUp_23 : decode cX1_lineUp 23 = .ok (.iconst 0, 1) := by decide +kernel
theorem dX1_lineUp_24 : decode cX1_lineUp 24 = .ok (.invokevirtual 43, 3) := by decide +kernel
theorem dX1_lineUp_27 : decode cX1_lineUp 27 = .ok (.aload_n 0, 1) := by decide +kernel
theorem dX1_lineUp_28 : decode cX1_lineUp 28 = .ok (.getfield 14, 3) := by decide +kernel
theorem dX1_lineUp_31 : decode cX1_lineUp 31 = .ok (.iload_n 1, 1) := by decide +kernel
theorem dX1_lineUp_32 : decode cX1_lineUp 32 = .ok (.iconst 0, 1) := by decide +kernel
theorem dX1_lineUp_33 : decode cX1_lineUp 33 = .ok (.invokevirtual 43, 3) := by decide +kernel
theorem dX1_lineUp_36 : decode cX1_lineUp 36 = .ok (.if_icmp .le 27, 3) := by decide +kernel
theorem dX1_lineUp_39 : decode cX1_lineUp 39 = .ok (.aload_n 0, 1) := by decide +kernel
theorem dX1_lineUp_40 : decode cX1_lineUp 40 = .ok (.getfield 20, 3) := by decide +kernel
theorem dX1_lineUp_43 : decode cX1_lineUp 43 = .ok (.iload_n 2, 1) := by decide +kernel
theorem dX1_lineUp_44 : decode cX1_lineUp 44 = .ok (.aload_n 0, 1) := by decide +kernel
theorem dX1_lineUp_45 : decode cX1_lineUp 45 = .ok (.getfield 20, 3) := by decide +kernel
theorem dX1_lineUp_48 : decode cX1_lineUp 48 = .ok (.iload_n 2, 1) := by decide +kernel
theorem dX1_lineUp_49 : decode cX1_lineUp 49 = .ok (.iconst 1, 1) := by decide +kernel
theorem dX1_lineUp_50 : decode cX1_lineUp 50 = .ok (.isub, 1) := by decide +kernel
theorem dX1_lineUp_51 : decode cX1_lineUp 51 = .ok (.invokestatic 71, 3) := by decide +kernel
theorem dX1_lineUp_54 : decode cX1_lineUp 54 = .ok (.invokestatic 75, 3) := by decide +kernel
theorem dX1_lineUp_57 : decode cX1_lineUp 57 = .ok (.iinc 2 (-1), 3) := by decide +kernel
theorem dX1_lineUp_60 : decode cX1_lineUp 60 = .ok (.goto (-55), 3) := by decide +kernel
theorem dX1_lineUp_63 : decode cX1_lineUp 63 = .ok (.aload_n 0, 1) := by decide +kernel
theorem dX1_lineUp_64 : decode cX1_lineUp 64 = .ok (.getfield 20, 3) := by decide +kernel
theorem dX1_lineUp_67 : decode cX1_lineUp 67 = .ok (.iload_n 2, 1) := by decide +kernel
theorem dX1_lineUp_68 : decode cX1_lineUp 68 = .ok (.iload_n 1, 1) := by decide +kernel
theorem dX1_lineUp_69 : decode cX1_lineUp 69 = .ok (.invokestatic 75, 3) := by decide +kernel
theorem dX1_lineUp_72 : decode cX1_lineUp 72 = .ok (.aload_n 0, 1) := by decide +kernel
theorem dX1_lineUp_73 : decode cX1_lineUp 73 = .ok (.dup, 1) := by decide +kernel
theorem dX1_lineUp_74 : decode cX1_lineUp 74 = .ok (.getfield 24, 3) := by decide +kernel
theorem dX1_lineUp_77 : decode cX1_lineUp 77 = .ok (.iconst 1, 1) := by decide +kernel
theorem dX1_lineUp_78 : decode cX1_lineUp 78 = .ok (.iadd, 1) := by decide +kernel
theorem dX1_lineUp_79 : decode cX1_lineUp 79 = .ok (.putfield 24, 3) := by decide +kernel
theorem dX1_lineUp_82 : decode cX1_lineUp 82 = .ok (.return_, 1) := by decide +kernel
theorem dX1_throwAll_0 : decode cX1_throwAll 0 = .ok (.aload_n 0, 1) := by decide +kernel
theorem dX1_throwAll_1 : decode cX1_throwAll 1 = .ok (.iload_n 1, 1) := by decide +kernel
theorem dX1_throwAll_2 : decode cX1_throwAll 2 = .ok (.putfield 28, 3) := by decide +kernel
theorem dX1_throwAll_5 : decode cX1_throwAll 5 = .ok (.aload_n 0, 1) := by decide +kernel
theorem dX1_throwAll_6 : decode cX1_throwAll 6 = .ok (.iload_n 1, 1) := by decide +kernel
theorem dX1_throwAll_7 : decode cX1_throwAll 7 = .ok (.putfield 31, 3) := by decide +kernel
theorem dX1_throwAll_10 : decode cX1_throwAll 10 = .ok (.iconst 0, 1) := by decide +kernel
theorem dX1_throwAll_11 : decode cX1_throwAll 11 = .ok (.istore_n 2, 1) := by decide +kernel
theorem dX1_throwAll_12 : decode cX1_throwAll 12 = .ok (.iload_n 2, 1) := by decide +kernel
theorem dX1_throwAll_13 : decode cX1_throwAll 13 = .ok (.aload_n 0, 1) := by decide +kernel
theorem dX1_throwAll_14 : decode cX1_throwAll 14 = .ok (.getfield 24, 3) := by decide +kernel
theorem dX1_throwAll_17 : decode cX1_throwAll 17 = .ok (.if_icmp .ge 89, 3) := by decide +kernel
theorem dX1_throwAll_20 : decode cX1_throwAll 20 = .ok (.aload_n 0, 1) := by decide +kernel
theorem dX1_throwAll_21 : decode cX1_throwAll 21 = .ok (.getfield 20, 3) := by decide +kernel
theorem dX1_throwAll_24 : decode cX1_throwAll 24 = .ok (.iload_n 2, 1) := by decide +kernel
theorem dX1_throwAll_25 : decode cX1_throwAll 25 = .ok (.invokestatic 71, 3) := by decide +kernel
theorem dX1_throwAll_28 : decode cX1_throwAll 28 = .ok (.istore_n 3, 1) := by decide +kernel
theorem dX1_throwAll_29 : decode cX1_throwAll 29 = .ok (.aload_n 0, 1) := by decide +kernel
theorem dX1_throwAll_30 : decode cX1_throwAll 30 = .ok (.getfield 14, 3) := by decide +kernel
theorem dX1_throwAll_33 : decode cX1_throwAll 33 = .ok (.iload_n 3, 1) := by decide +kernel
theorem dX1_throwAll_34 : decode cX1_throwAll 34 = .ok (.iconst 4, 1) := by decide +kernel
theorem dX1_throwAll_35 : decode cX1_throwAll 35 = .ok (.aload_n 0, 1) := by decide +kernel
theorem dX1_throwAll_36 : decode cX1_throwAll 36 = .ok (.getfield 31, 3) := by decide +kernel
theorem dX1_throwAll_39 : decode cX1_throwAll 39 = .ok (.aload_n 0, 1) := by decide +kernel
theorem dX1_throwAll_40 : decode cX1_throwAll 40 = .ok (.getfield 14, 3) := by decide +kernel
theorem dX1_throwAll_43 : decode cX1_throwAll 43 = .ok (.iload_n 3, 1) := by decide +kernel
theorem dX1_throwAll_44 : decode cX1_throwAll 44 = .ok (.iconst 1, 1) := by decide +kernel
theorem dX1_throwAll_45 : decode cX1_throwAll 45 = .ok (.invokevirtual 43, 3) := by decide +kernel
theorem dX1_throwAll_48 : decode cX1_throwAll 48 = .ok (.iadd, 1) := by decide +kernel
theorem dX1_throwAll_49 : decode cX1_throwAll 49 = .ok (.bipush 24, 2) := by decide +kernel
theorem dX1_throwAll_51 : decode cX1_throwAll 51 = .ok (.irem, 1) := by decide +kernel
theorem dX1_throwAll_52 : decode cX1_throwAll 52 = .ok (.invokevirtual 47, 3) := by decide +kernel
theorem dX1_throwAll_55 : decode cX1_throwAll 55 = .ok (.aload_n 0, 1) := by decide +kernel
theorem dX1_throwAll_56 : decode cX1_throwAll 56 = .ok (.aload_n 0, 1) := by decide +kernel
theorem dX1_throwAll_57 : decode cX1_throwAll 57 = .ok (.getfield 31, 3) := by decide +kernel
theorem dX1_throwAll_60 : decode cX1_throwAll 60 = .ok (.aload_n 0, 1) := by decide +kernel
theorem dX1_throwAll_61 : decode cX1_throwAll 61 = .ok (.iload_n 3, 1) := by decide +kernel
theorem dX1_throwAll_62 : decode cX1_throwAll 62 = .ok (.invokevirtual 79, 3) := by decide +kernel
theorem dX1_throwAll_65 : decode cX1_throwAll 65 = .ok (.isub, 1) := by decide +kernel
theorem dX1_throwAll_66 : decode cX1_throwAll 66 = .ok (.bipush 24, 2) := by decide +kernel
theorem dX1_throwAll_68 : decode cX1_throwAll 68 = .ok (.invokestatic 83, 3) := by decide +kernel
theorem dX1_throwAll_71 : decode cX1_throwAll 71 = .ok (.putfield 31, 3) := by decide +kernel
theorem dX1_throwAll_74 : decode cX1_throwAll 74 = .ok (.aload_n 0, 1) := by decide +kernel
theorem dX1_throwAll_75 : decode cX1_throwAll 75 = .ok (.getfield 14, 3) := by decide +kernel
theorem dX1_throwAll_78 : decode cX1_throwAll 78 = .ok (.iload_n 3, 1) := by decide +kernel
theorem dX1_throwAll_79 : decode cX1_throwAll 79 = .ok (.iconst 5, 1) := by decide +kernel
theorem dX1_throwAll_80 : decode cX1_throwAll 80 = .ok (.aload_n 0, 1) := by decide +kernel
theorem dX1_throwAll_81 : decode cX1_throwAll 81 = .ok (.getfield 31, 3) := by decide +kernel
theorem dX1_throwAll_84 : decode cX1_throwAll 84 = .ok (.invokevirtual 47, 3) := by decide +kernel
theorem dX1_throwAll_87 : decode cX1_throwAll 87 = .ok (.aload_n 0, 1) := by decide +kernel
theorem dX1_throwAll_88 : decode cX1_throwAll 88 = .ok (.getfield 14, 3) := by decide +kernel
theorem dX1_throwAll_91 : decode cX1_throwAll 91 = .ok (.iload_n 3, 1) := by decide +kernel
theorem dX1_throwAll_92 : decode cX1_throwAll 92 = .ok (.bipush 7, 2) := by decide +kernel
theorem dX1_throwAll_94 : decode cX1_throwAll 94 = .ok (.sipush 1000, 3) := by decide +kernel
theorem dX1_throwAll_97 : decode cX1_throwAll 97 = .ok (.invokevirtual 47, 3) := by decide +kernel
theorem dX1_throwAll_100 : decode cX1_throwAll 100 = .ok (.iinc 2 1, 3) := by decide +kernel
theorem dX1_throwAll_103 : decode cX1_throwAll 103 = .ok (.goto (-91), 3) := by decide +kernel
theorem dX1_throwAll_106 : decode cX1_throwAll 106 = .ok (.return_, 1) := by decide +kernel
theorem dX1_turnBy_0 : decode cX1_turnBy 0 = .ok (.aload_n 0, 1) := by decide +kernel
theorem dX1_turnBy_1 : decode cX1_turnBy 1 = .ok (.getfield 14, 3) := by decide +kernel
theorem dX1_turnBy_4 : decode cX1_turnBy 4 = .ok (.iload_n 1, 1) := by decide +kernel
theorem dX1_turnBy_5 : decode cX1_turnBy 5 = .ok (.iconst 3, 1) := by decide +kernel
theorem dX1_turnBy_6 : decode cX1_turnBy 6 = .ok (.invokevirtual 43, 3) := by decide +kernel
theorem dX1_turnBy_9 : decode cX1_turnBy 9 = .ok (.lookupswitch 41 #[(1, 27), (2, 39)], 27) := by decide +kernel
theorem dX1_turnBy_36 : decode cX1_turnBy 36 = .ok (.iconst 2, 1) := by decide +kernel
theorem dX1_turnBy_37 : decode cX1_turnBy 37 = .ok (.aload_n 0, 1) := by decide +kernel
theorem dX1_turnBy_38 : decode cX1_turnBy 38 = .ok (.getfield 14, 3) := by decide +kernel
theorem dX1_turnBy_41 : decode cX1_turnBy 41 = .ok (.iload_n 1, 1) := by decide +kernel
theorem dX1_turnBy_42 : decode cX1_turnBy 42 = .ok (.iconst 2, 1) := by decide +kernel
theorem dX1_turnBy_43 : decode cX1_turnBy 43 = .ok (.invokevirtual 43, 3) := by decide +kernel
theorem dX1_turnBy_46 : decode cX1_turnBy 46 = .ok (.imul, 1) := by decide +kernel
theorem dX1_turnBy_47 : decode cX1_turnBy 47 = .ok (.ireturn, 1) := by decide +kernel
theorem dX1_turnBy_48 : decode cX1_turnBy 48 = .ok (.iconst 0, 1) := by decide +kernel
theorem dX1_turnBy_49 : decode cX1_turnBy 49 = .ok (.ireturn, 1) := by decide +kernel
theorem dX1_turnBy_50 : decode cX1_turnBy 50 = .ok (.aload_n 0, 1) := by decide +kernel
theorem dX1_turnBy_51 : decode cX1_turnBy 51 = .ok (.getfield 14, 3) := by decide +kernel
theorem dX1_turnBy_54 : decode cX1_turnBy 54 = .ok (.iload_n 1, 1) := by decide +kernel
theorem dX1_turnBy_55 : decode cX1_turnBy 55 = .ok (.iconst 2, 1) := by decide +kernel
theorem dX1_turnBy_56 : decode cX1_turnBy 56 = .ok (.invokevirtual 43, 3) := by decide +kernel
theorem dX1_turnBy_59 : decode cX1_turnBy 59 = .ok (.ireturn, 1) := by decide +kernel
theorem dX1_meetAll_0 : decode cX1_meetAll 0 = .ok (.iconst 0, 1) := by decide +kernel
theorem dX1_meetAll_1 : decode cX1_meetAll 1 = .ok (.istore_n 2, 1) := by decide +kernel
theorem dX1_meetAll_2 : decode cX1_meetAll 2 = .ok (.iload_n 2, 1) := by decide +kernel
theorem dX1_meetAll_3 : decode cX1_meetAll 3 = .ok (.bipush 7, 2) := by decide +kernel
theorem dX1_meetAll_5 : decode cX1_meetAll 5 = .ok (.if_icmp .ge 29, 3) := by decide +kernel
theorem dX1_meetAll_8 : decode cX1_meetAll 8 = .ok (.aload_n 0, 1) := by decide +kernel
theorem dX1_meetAll_9 : decode cX1_meetAll 9 = .ok (.iload_n 1, 1) := by decide +kernel
theorem dX1_meetAll_10 : decode cX1_meetAll 10 = .ok (.invokevirtual 88, 3) := by decide +kernel
theorem dX1_meetAll_13 : decode cX1_meetAll 13 = .ok (.istore_n 3, 1) := by decide +kernel
theorem dX1_meetAll_14 : decode cX1_meetAll 14 = .ok (.iload_n 3, 1) := by decide +kernel
theorem dX1_meetAll_15 : decode cX1_meetAll 15 = .ok (.sipush 1000, 3) := by decide +kernel
theorem dX1_meetAll_18 : decode cX1_meetAll 18 = .ok (.if_icmp .ne 4, 3) := by decide +kernel
theorem dX1_meetAll_21 : decode cX1_meetAll 21 = .ok (.return_, 1) := by decide +kernel
theorem dX1_meetAll_22 : decode cX1_meetAll 22 = .ok (.aload_n 0, 1) := by decide +kernel
theorem dX1_meetAll_23 : decode cX1_meetAll 23 = .ok (.iload_n 3, 1) := by decide +kernel
theorem dX1_meetAll_24 : decode cX1_meetAll 24 = .ok (.iload_n 1, 1) := by decide +kernel
theorem dX1_meetAll_25 : decode cX1_meetAll 25 = .ok (.invokevirtual 91, 3) := by decide +kernel
theorem dX1_meetAll_28 : decode cX1_meetAll 28 = .ok (.iinc 2 1, 3) := by decide +kernel
theorem dX1_meetAll_31 : decode cX1_meetAll 31 = .ok (.goto (-29), 3) := by decide +kernel
theorem dX1_meetAll_34 : decode cX1_meetAll 34 = .ok (.return_, 1) := by decide +kernel
theorem dX1_nextMeeting_0 : decode cX1_nextMeeting 0 = .ok (.sipush 1000, 3) := by decide +kernel
theorem dX1_nextMeeting_3 : decode cX1_nextMeeting 3 = .ok (.istore_n 2, 1) := by decide +kernel
theorem dX1_nextMeeting_4 : decode cX1_nextMeeting 4 = .ok (.iconst 0, 1) := by decide +kernel
theorem dX1_nextMeeting_5 : decode cX1_nextMeeting 5 = .ok (.istore_n 3, 1) := by decide +kernel
theorem dX1_nextMeeting_6 : decode cX1_nextMeeting 6 = .ok (.iload_n 3, 1) := by decide +kernel
theorem dX1_nextMeeting_7 : decode cX1_nextMeeting 7 = .ok (.aload_n 0, 1) := by decide +kernel
theorem dX1_nextMeeting_8 : decode cX1_nextMeeting 8 = .ok (.getfield 24, 3) := by decide +kernel
theorem dX1_nextMeeting_11 : decode cX1_nextMeeting 11 = .ok (.if_icmp .ge 98, 3) := by decide +kernel
theorem dX1_nextMeeting_14 : decode cX1_nextMeeting 14 = .ok (.iload_n 3, 1) := by decide +kernel
theorem dX1_nextMeeting_15 : decode cX1_nextMeeting 15 = .ok (.iconst 1, 1) := by decide +kernel
theorem dX1_nextMeeting_16 : decode cX1_nextMeeting 16 = .ok (.iadd, 1) := by decide +kernel
theorem dX1_nextMeeting_17 : decode cX1_nextMeeting 17 = .ok (.istore 4, 2) := by decide +kernel
theorem dX1_nextMeeting_19 : decode cX1_nextMeeting 19 = .ok (.iload 4, 2) := by decide +kernel
theorem dX1_nextMeeting_21 : decode cX1_nextMeeting 21 = .ok (.aload_n 0, 1) := by decide +kernel
theorem dX1_nextMeeting_22 : decode cX1_nextMeeting 22 = .ok (.getfield 24, 3) := by decide +kernel
theorem dX1_nextMeeting_25 : decode cX1_nextMeeting 25 = .ok (.if_icmp .ge 78, 3) := by decide +kernel
theorem dX1_nextMeeting_28 : decode cX1_nextMeeting 28 = .ok (.aload_n 0, 1) := by decide +kernel
theorem dX1_nextMeeting_29 : decode cX1_nextMeeting 29 = .ok (.getfield 20, 3) := by decide +kernel
theorem dX1_nextMeeting_32 : decode cX1_nextMeeting 32 = .ok (.iload_n 3, 1) := by decide +kernel
theorem dX1_nextMeeting_33 : decode cX1_nextMeeting 33 = .ok (.invokestatic 71, 3) := by decide +kernel
theorem dX1_nextMeeting_36 : decode cX1_nextMeeting 36 = .ok (.istore 5, 2) := by decide +kernel
theorem dX1_nextMeeting_38 : decode cX1_nextMeeting 38 = .ok (.aload_n 0, 1) := by decide +kernel
theorem dX1_nextMeeting_39 : decode cX1_nextMeeting 39 = .ok (.getfield 20, 3) := by decide +kernel
theorem dX1_nextMeeting_42 : decode cX1_nextMeeting 42 = .ok (.iload 4, 2) := by decide +kernel
theorem dX1_nextMeeting_44 : decode cX1_nextMeeting 44 = .ok (.invokestatic 71, 3) := by decide +kernel
theorem dX1_nextMeeting_47 : decode cX1_nextMeeting 47 = .ok (.istore 6, 2) := by decide +kernel
theorem dX1_nextMeeting_49 : decode cX1_nextMeeting 49 = .ok (.aload_n 0, 1) := by decide +kernel
theorem dX1_nextMeeting_50 : decode cX1_nextMeeting 50 = .ok (.getfield 14, 3) := by decide +kernel
theorem dX1_nextMeeting_53 : decode cX1_nextMeeting 53 = .ok (.iload 5, 2) := by decide +kernel
theorem dX1_nextMeeting_55 : decode cX1_nextMeeting 55 = .ok (.bipush 7, 2) := by decide +kernel
theorem dX1_nextMeeting_57 : decode cX1_nextMeeting 57 = .ok (.invokevirtual 43, 3) := by decide +kernel
theorem dX1_nextMeeting_60 : decode cX1_nextMeeting 60 = .ok (.sipush 1000, 3) := by decide +kernel
theorem dX1_nextMeeting_63 : decode cX1_nextMeeting 63 = .ok (.if_icmp .ne 34, 3) := by decide +kernel
theorem dX1_nextMeeting_66 : decode cX1_nextMeeting 66 = .ok (.aload_n 0, 1) := by decide +kernel
theorem dX1_nextMeeting_67 : decode cX1_nextMeeting 67 = .ok (.getfield 14, 3) := by decide +kernel
theorem dX1_nextMeeting_70 : decode cX1_nextMeeting 70 = .ok (.iload 6, 2) := by decide +kernel
theorem dX1_nextMeeting_72 : decode cX1_nextMeeting 72 = .ok (.bipush 7, 2) := by decide +kernel
theorem dX1_nextMeeting_74 : decode cX1_nextMeeting 74 = .ok (.invokevirtual 43, 3) := by decide +kernel
theorem dX1_nextMeeting_77 : decode cX1_nextMeeting 77 = .ok (.sipush 1000, 3) := by decide +kernel
theorem dX1_nextMeeting_80 : decode cX1_nextMeeting 80 = .ok (.if_icmp .ne 17, 3) := by decide +kernel
theorem dX1_nextMeeting_83 : decode cX1_nextMeeting 83 = .ok (.iload_n 2, 1) := by decide +kernel
theorem dX1_nextMeeting_84 : decode cX1_nextMeeting 84 = .ok (.aload_n 0, 1) := by decide +kernel
theorem dX1_nextMeeting_85 : decode cX1_nextMeeting 85 = .ok (.iload 5, 2) := by decide +kernel
theorem dX1_nextMeeting_87 : decode cX1_nextMeeting 87 = .ok (.iload 6, 2) := by decide +kernel
theorem dX1_nextMeeting_89 : decode cX1_nextMeeting 89 = .ok (.iload_n 1, 1) := by decide +kernel
theorem dX1_nextMeeting_90 : decode cX1_nextMeeting 90 = .ok (.invokevirtual 94, 3) := by decide +kernel
theorem dX1_nextMeeting_93 : decode cX1_nextMeeting 93 = .ok (.invokestatic 98, 3) := by decide +kernel
theorem dX1_nextMeeting_96 : decode cX1_nextMeeting 96 = .ok (.istore_n 2, 1) := by decide +kernel
theorem dX1_nextMeeting_97 : decode cX1_nextMeeting 97 = .ok (.iinc 4 1, 3) := by decide +kernel
theorem dX1_nextMeeting_100 : decode cX1_nextMeeting 100 = .ok (.goto (-81), 3) := by decide +kernel
theorem dX1_nextMeeting_103 : decode cX1_nextMeeting 103 = .ok (.iinc 3 1, 3) := by decide +kernel
theorem dX1_nextMeeting_106 : decode cX1_nextMeeting 106 = .ok (.goto (-100), 3) := by decide +kernel
theorem dX1_nextMeeting_109 : decode cX1_nextMeeting 109 = .ok (.iload_n 2, 1) := by decide +kernel
theorem dX1_nextMeeting_110 : decode cX1_nextMeeting 110 = .ok (.ireturn, 1) := by decide +kernel
theorem dX1_loseOn_0 : decode cX1_loseOn 0 = .ok (.iconst 0, 1) := by decide +kernel
theorem dX1_loseOn_1 : decode cX1_loseOn 1 = .ok (.istore_n 3, 1) := by decide +kernel
theorem dX1_loseOn_2 : decode cX1_loseOn 2 = .ok (.iload_n 3, 1) := by decide +kernel
theorem dX1_loseOn_3 : decode cX1_loseOn 3 = .ok (.aload_n 0, 1) := by decide +kernel
theorem dX1_loseOn_4 : decode cX1_loseOn 4 = .ok (.getfield 24, 3) := by decide +kernel
theorem dX1_loseOn_7 : decode cX1_loseOn 7 = .ok (.if_icmp .ge 129, 3) := by decide +kernel
theorem dX1_loseOn_10 : decode cX1_loseOn 10 = .ok (.iload_n 3, 1) := by decide +kernel
theorem dX1_loseOn_11 : decode cX1_loseOn 11 = .ok (.iconst 1, 1) := by decide +kernel
theorem dX1_loseOn_12 : decode cX1_loseOn 12 = .ok (.iadd, 1) := by decide +kernel
theorem dX1_loseOn_13 : decode cX1_loseOn 13 = .ok (.istore 4, 2) := by decide +kernel
theorem dX1_loseOn_15 : decode cX1_loseOn 15 = .ok (.iload 4, 2) := by decide +kernel
theorem dX1_loseOn_17 : decode cX1_loseOn 17 = .ok (.aload_n 0, 1) := by decide +kernel
theorem dX1_loseOn_18 : decode cX1_loseOn 18 = .ok (.getfield 24, 3) := by decide +kernel
theorem dX1_loseOn_21 : decode cX1_loseOn 21 = .ok (.if_icmp .ge 109, 3) := by decide +kernel
theorem dX1_loseOn_24 : decode cX1_loseOn 24 = .ok (.aload_n 0, 1) := by decide +kernel
theorem dX1_loseOn_25 : decode cX1_loseOn 25 = .ok (.getfield 20, 3) := by decide +kernel
theorem dX1_loseOn_28 : decode cX1_loseOn 28 = .ok (.iload_n 3, 1) := by decide +kernel
theorem dX1_loseOn_29 : decode cX1_loseOn 29 = .ok (.invokestatic 71, 3) := by decide +kernel
theorem dX1_loseOn_32 : decode cX1_loseOn 32 = .ok (.istore 5, 2) := by decide +kernel
theorem dX1_loseOn_34 : decode cX1_loseOn 34 = .ok (.aload_n 0, 1) := by decide +kernel
theorem dX1_loseOn_35 : decode cX1_loseOn 35 = .ok (.getfield 20, 3) := by decide +kernel
theorem dX1_loseOn_38 : decode cX1_loseOn 38 = .ok (.iload 4, 2) := by decide +kernel
theorem dX1_loseOn_40 : decode cX1_loseOn 40 = .ok (.invokestatic 71, 3) := by decide +kernel
theorem dX1_loseOn_43 : decode cX1_loseOn 43 = .ok (.istore 6, 2) := by decide +kernel
theorem dX1_loseOn_45 : decode cX1_loseOn 45 = .ok (.aload_n 0, 1) := by decide +kernel
theorem dX1_loseOn_46 : decode cX1_loseOn 46 = .ok (.getfield 14, 3) := by decide +kernel
theorem dX1_loseOn_49 : decode cX1_loseOn 49 = .ok (.iload 5, 2) := by decide +kernel
theorem dX1_loseOn_51 : decode cX1_loseOn 51 = .ok (.bipush 7, 2) := by decide +kernel
theorem dX1_loseOn_53 : decode cX1_loseOn 53 = .ok (.invokevirtual 43, 3) := by decide +kernel
theorem dX1_loseOn_56 : decode cX1_loseOn 56 = .ok (.iload_n 1, 1) := by decide +kernel
theorem dX1_loseOn_57 : decode cX1_loseOn 57 = .ok (.if_icmp .lt 22, 3) := by decide +kernel
theorem dX1_loseOn_60 : decode cX1_loseOn 60 = .ok (.aload_n 0, 1) := by decide +kernel
theorem dX1_loseOn_61 : decode cX1_loseOn 61 = .ok (.getfield 14, 3) := by decide +kernel
theorem dX1_loseOn_64 : decode cX1_loseOn 64 = .ok (.iload 6, 2) := by decide +kernel
theorem dX1_loseOn_66 : decode cX1_loseOn 66 = .ok (.bipush 7, 2) := by decide +kernel
theorem dX1_loseOn_68 : decode cX1_loseOn 68 = .ok (.invokevirtual 43, 3) := by decide +kernel
theorem dX1_loseOn_71 : decode cX1_loseOn 71 = .ok (.iload_n 1, 1) := by decide +kernel
theorem dX1_loseOn_72 : decode cX1_loseOn 72 = .ok (.if_icmp .lt 7, 3) := by decide +kernel
theorem dX1_loseOn_75 : decode cX1_loseOn 75 = .ok (.iconst 1, 1) := by decide +kernel
theorem dX1_loseOn_76 : decode cX1_loseOn 76 = .ok (.goto 4, 3) := by decide +kernel
theorem dX1_loseOn_79 : decode cX1_loseOn 79 = .ok (.iconst 0, 1) := by decide +kernel
theorem dX1_loseOn_80 : decode cX1_loseOn 80 = .ok (.istore 7, 2) := by decide +kernel
theorem dX1_loseOn_82 : decode cX1_loseOn 82 = .ok (.iload 7, 2) := by decide +kernel
theorem dX1_loseOn_84 : decode cX1_loseOn 84 = .ok (.ifCond .eq 40, 3) := by decide +kernel
theorem dX1_loseOn_87 : decode cX1_loseOn 87 = .ok (.aload_n 0, 1) := by decide +kernel
theorem dX1_loseOn_88 : decode cX1_loseOn 88 = .ok (.iload 5, 2) := by decide +kernel
theorem dX1_loseOn_90 : decode cX1_loseOn 90 = .ok (.iload 6, 2) := by decide +kernel
theorem dX1_loseOn_92 : decode cX1_loseOn 92 = .ok (.iload_n 2, 1) := by decide +kernel
theorem dX1_loseOn_93 : decode cX1_loseOn 93 = .ok (.invokevirtual 94, 3) := by decide +kernel
theorem dX1_loseOn_96 : decode cX1_loseOn 96 = .ok (.iload_n 1, 1) := by decide +kernel
theorem dX1_loseOn_97 : decode cX1_loseOn 97 = .ok (.if_icmp .ne 27, 3) := by decide +kernel
theorem dX1_loseOn_100 : decode cX1_loseOn 100 = .ok (.aload_n 0, 1) := by decide +kernel
theorem dX1_loseOn_101 : decode cX1_loseOn 101 = .ok (.getfield 14, 3) := by decide +kernel
theorem dX1_loseOn_104 : decode cX1_loseOn 104 = .ok (.iload 5, 2) := by decide +kernel
theorem dX1_loseOn_106 : decode cX1_loseOn 106 = .ok (.bipush 7, 2) := by decide +kernel
theorem dX1_loseOn_108 : decode cX1_loseOn 108 = .ok (.iload_n 1, 1) := by decide +kernel
theorem dX1_loseOn_109 : decode cX1_loseOn 109 = .ok (.invokevirtual 47, 3) := by decide +kernel
theorem dX1_loseOn_112 : decode cX1_loseOn 112 = .ok (.aload_n 0, 1) := by decide +kernel
theorem dX1_loseOn_113 : decode cX1_loseOn 113 = .ok (.getfield 14, 3) := by decide +kernel
theorem dX1_loseOn_116 : decode cX1_loseOn 116 = .ok (.iload 6, 2) := by decide +kernel
theorem dX1_loseOn_118 : decode cX1_loseOn 118 = .ok (.bipush 7, 2) := by decide +kernel
theorem dX1_loseOn_120 : decode cX1_loseOn 120 = .ok (.iload_n 1, 1) := by decide +kernel
theorem dX1_loseOn_121 : decode cX1_loseOn 121 = .ok (.invokevirtual 47, 3) := by decide +kernel
theorem dX1_loseOn_124 : decode cX1_loseOn 124 = .ok (.iinc 4 1, 3) := by decide +kernel
theorem dX1_loseOn_127 : decode cX1_loseOn 127 = .ok (.goto (-112), 3) := by decide +kernel
theorem dX1_loseOn_130 : decode cX1_loseOn 130 = .ok (.iinc 3 1, 3) := by decide +kernel
theorem dX1_loseOn_133 : decode cX1_loseOn 133 = .ok (.goto (-131), 3) := by decide +kernel
theorem dX1_loseOn_136 : decode cX1_loseOn 136 = .ok (.return_, 1) := by decide +kernel
theorem dX1_meetingOf_0 : decode cX1_meetingOf 0 = .ok (.aload_n 0, 1) := by decide +kernel
theorem dX1_meetingOf_1 : decode cX1_meetingOf 1 = .ok (.getfield 14, 3) := by decide +kernel
theorem dX1_meetingOf_4 : decode cX1_meetingOf 4 = .ok (.iload_n 1, 1) := by decide +kernel
theorem dX1_meetingOf_5 : decode cX1_meetingOf 5 = .ok (.iconst 4, 1) := by decide +kernel
theorem dX1_meetingOf_6 : decode cX1_meetingOf 6 = .ok (.invokevirtual 43, 3) := by decide +kernel
theorem dX1_meetingOf_9 : decode cX1_meetingOf 9 = .ok (.aload_n 0, 1) := by decide +kernel
theorem dX1_meetingOf_10 : decode cX1_meetingOf 10 = .ok (.getfield 14, 3) := by decide +kernel
theorem dX1_meetingOf_13 : decode cX1_meetingOf 13 = .ok (.iload_n 2, 1) := by decide +kernel
theorem dX1_meetingOf_14 : decode cX1_meetingOf 14 = .ok (.iconst 4, 1) := by decide +kernel
theorem dX1_meetingOf_15 : decode cX1_meetingOf 15 = .ok (.invokevirtual 43, 3) := by decide +kernel
theorem dX1_meetingOf_18 : decode cX1_meetingOf 18 = .ok (.if_icmp .eq 7, 3) := by decide +kernel
theorem dX1_meetingOf_21 : decode cX1_meetingOf 21 = .ok (.sipush 1000, 3) := by decide +kernel
theorem dX1_meetingOf_24 : decode cX1_meetingOf 24 = .ok (.ireturn, 1) := by decide +kernel
theorem dX1_meetingOf_25 : decode cX1_meetingOf 25 = .ok (.aload_n 0, 1) := by decide +kernel
theorem dX1_meetingOf_26 : decode cX1_meetingOf 26 = .ok (.getfield 14, 3) := by decide +kernel
theorem dX1_meetingOf_29 : decode cX1_meetingOf 29 = .ok (.iload_n 1, 1) := by decide +kernel
theorem dX1_meetingOf_30 : decode cX1_meetingOf 30 = .ok (.iconst 0, 1) := by decide +kernel
theorem dX1_meetingOf_31 : decode cX1_meetingOf 31 = .ok (.invokevirtual 43, 3) := by decide +kernel
theorem dX1_meetingOf_34 : decode cX1_meetingOf 34 = .ok (.aload_n 0, 1) := by decide +kernel
theorem dX1_meetingOf_35 : decode cX1_meetingOf 35 = .ok (.getfield 14, 3) := by decide +kernel
theorem dX1_meetingOf_38 : decode cX1_meetingOf 38 = .ok (.iload_n 1, 1) := by decide +kernel
theorem dX1_meetingOf_39 : decode cX1_meetingOf 39 = .ok (.iconst 2, 1) := by decide +kernel
theorem dX1_meetingOf_40 : decode cX1_meetingOf 40 = .ok (.invokevirtual 43, 3) := by decide +kernel
theorem dX1_meetingOf_43 : decode cX1_meetingOf 43 = .ok (.aload_n 0, 1) := by decide +kernel
theorem dX1_meetingOf_44 : decode cX1_meetingOf 44 = .ok (.getfield 14, 3) := by decide +kernel
theorem dX1_meetingOf_47 : decode cX1_meetingOf 47 = .ok (.iload_n 2, 1) := by decide +kernel
theorem dX1_meetingOf_48 : decode cX1_meetingOf 48 = .ok (.iconst 0, 1) := by decide +kernel
theorem dX1_meetingOf_49 : decode cX1_meetingOf 49 = .ok (.invokevirtual 43, 3) := by decide +kernel
theorem dX1_meetingOf_52 : decode cX1_meetingOf 52 = .ok (.aload_n 0, 1) := by decide +kernel
theorem dX1_meetingOf_53 : decode cX1_meetingOf 53 = .ok (.getfield 14, 3) := by decide +kernel
theorem dX1_meetingOf_56 : decode cX1_meetingOf 56 = .ok (.iload_n 2, 1) := by decide +kernel
theorem dX1_meetingOf_57 : decode cX1_meetingOf 57 = .ok (.iconst 2, 1) := by decide +kernel
theorem dX1_meetingOf_58 : decode cX1_meetingOf 58 = .ok (.invokevirtual 43, 3) := by decide +kernel
theorem dX1_meetingOf_61 : decode cX1_meetingOf 61 = .ok (.iload_n 3, 1) := by decide +kernel
theorem dX1_meetingOf_62 : decode cX1_meetingOf 62 = .ok (.invokestatic 101, 3) := by decide +kernel
theorem dX1_meetingOf_65 : decode cX1_meetingOf 65 = .ok (.ireturn, 1) := by decide +kernel
theorem dX1_bringHome_0 : decode cX1_bringHome 0 = .ok (.iconst 0, 1) := by decide +kernel
theorem dX1_bringHome_1 : decode cX1_bringHome 1 = .ok (.istore_n 2, 1) := by decide +kernel
theorem dX1_bringHome_2 : decode cX1_bringHome 2 = .ok (.iload_n 2, 1) := by decide +kernel
theorem dX1_bringHome_3 : decode cX1_bringHome 3 = .ok (.aload_n 0, 1) := by decide +kernel
theorem dX1_bringHome_4 : decode cX1_bringHome 4 = .ok (.getfield 24, 3) := by decide +kernel
theorem dX1_bringHome_7 : decode cX1_bringHome 7 = .ok (.if_icmp .ge 62, 3) := by decide +kernel
theorem dX1_bringHome_10 : decode cX1_bringHome 10 = .ok (.aload_n 0, 1) := by decide +kernel
theorem dX1_bringHome_11 : decode cX1_bringHome 11 = .ok (.getfield 20, 3) := by decide +kernel
theorem dX1_bringHome_14 : decode cX1_bringHome 14 = .ok (.iload_n 2, 1) := by decide +kernel
theorem dX1_bringHome_15 : decode cX1_bringHome 15 = .ok (.invokestatic 71, 3) := by decide +kernel
theorem dX1_bringHome_18 : decode cX1_bringHome 18 = .ok (.istore_n 3, 1) := by decide +kernel
theorem dX1_bringHome_19 : decode cX1_bringHome 19 = .ok (.aload_n 0, 1) := by decide +kernel
theorem dX1_bringHome_20 : decode cX1_bringHome 20 = .ok (.getfield 14, 3) := by decide +kernel
theorem dX1_bringHome_23 : decode cX1_bringHome 23 = .ok (.iload_n 3, 1) := by decide +kernel
theorem dX1_bringHome_24 : decode cX1_bringHome 24 = .ok (.bipush 6, 2) := by decide +kernel
theorem dX1_bringHome_26 : decode cX1_bringHome 26 = .ok (.iconst 2, 1) := by decide +kernel
theorem dX1_bringHome_27 : decode cX1_bringHome 27 = .ok (.invokevirtual 47, 3) := by decide +kernel
theorem dX1_bringHome_30 : decode cX1_bringHome 30 = .ok (.aload_n 0, 1) := by decide +kernel
theorem dX1_bringHome_31 : decode cX1_bringHome 31 = .ok (.getfield 14, 3) := by decide +kernel
theorem dX1_bringHome_34 : decode cX1_bringHome 34 = .ok (.iload_n 3, 1) := by decide +kernel
theorem dX1_bringHome_35 : decode cX1_bringHome 35 = .ok (.bipush 8, 2) := by decide +kernel
theorem dX1_bringHome_37 : decode cX1_bringHome 37 = .ok (.iconst 0, 1) := by decide +kernel
theorem dX1_bringHome_38 : decode cX1_bringHome 38 = .ok (.invokevirtual 47, 3) := by decide +kernel
theorem dX1_bringHome_41 : decode cX1_bringHome 41 = .ok (.aload_n 0, 1) := by decide +kernel
theorem dX1_bringHome_42 : decode cX1_bringHome 42 = .ok (.getfield 14, 3) := by decide +kernel
theorem dX1_bringHome_45 : decode cX1_bringHome 45 = .ok (.iload_n 3, 1) := by decide +kernel
theorem dX1_bringHome_46 : decode cX1_bringHome 46 = .ok (.bipush 7, 2) := by decide +kernel
theorem dX1_bringHome_48 : decode cX1_bringHome 48 = .ok (.invokevirtual 43, 3) := by decide +kernel
theorem dX1_bringHome_51 : decode cX1_bringHome 51 = .ok (.sipush 1000, 3) := by decide +kernel
theorem dX1_bringHome_54 : decode cX1_bringHome 54 = .ok (.if_icmp .ne 9, 3) := by decide +kernel
theorem dX1_bringHome_57 : decode cX1_bringHome 57 = .ok (.aload_n 0, 1) := by decide +kernel
theorem dX1_bringHome_58 : decode cX1_bringHome 58 = .ok (.iload_n 3, 1) := by decide +kernel
theorem dX1_bringHome_59 : decode cX1_bringHome 59 = .ok (.aload_n 1, 1) := by decide +kernel
theorem dX1_bringHome_60 : decode cX1_bringHome 60 = .ok (.invokevirtual 105, 3) := by decide +kernel
theorem dX1_bringHome_63 : decode cX1_bringHome 63 = .ok (.iinc 2 1, 3) := by decide +kernel
theorem dX1_bringHome_66 : decode cX1_bringHome 66 = .ok (.goto (-64), 3) := by decide +kernel
theorem dX1_bringHome_69 : decode cX1_bringHome 69 = .ok (.return_, 1) := by decide +kernel
theorem dX1_come_0 : decode cX1_come 0 = .ok (.iconst 1, 1) := by decide +kernel
theorem dX1_come_1 : decode cX1_come 1 = .ok (.aload_n 0, 1) := by decide +kernel
theorem dX1_come_2 : decode cX1_come 2 = .ok (.getfield 14, 3) := by decide +kernel
theorem dX1_come_5 : decode cX1_come 5 = .ok (.iload_n 1, 1) := by decide +kernel
theorem dX1_come_6 : decode cX1_come 6 = .ok (.iconst 2, 1) := by decide +kernel
theorem dX1_come_7 : decode cX1_come 7 = .ok (.invokevirtual 43, 3) := by decide +kernel
theorem dX1_come_10 : decode cX1_come 10 = .ok (.invokestatic 109, 3) := by decide +kernel
theorem dX1_come_13 : decode cX1_come 13 = .ok (.istore_n 3, 1) := by decide +kernel
theorem dX1_come_14 : decode cX1_come 14 = .ok (.aload_n 2, 1) := by decide +kernel
theorem dX1_come_15 : decode cX1_come 15 = .ok (.getfield 61, 3) := by decide +kernel
theorem dX1_come_18 : decode cX1_come 18 = .ok (.iload_n 3, 1) := by decide +kernel
theorem dX1_come_19 : decode cX1_come 19 = .ok (.iadd, 1) := by decide +kernel
theorem dX1_come_20 : decode cX1_come 20 = .ok (.iconst 1, 1) := by decide +kernel
theorem dX1_come_21 : decode cX1_come 21 = .ok (.isub, 1) := by decide +kernel
theorem dX1_come_22 : decode cX1_come 22 = .ok (.iload_n 3, 1) := by decide +kernel
theorem dX1_come_23 : decode cX1_come 23 = .ok (.idiv, 1) := by decide +kernel
theorem dX1_come_24 : decode cX1_come 24 = .ok (.istore 4, 2) := by decide +kernel
theorem dX1_come_26 : decode cX1_come 26 = .ok (.aload_n 0, 1) := by decide +kernel
theorem dX1_come_27 : decode cX1_come 27 = .ok (.getfield 14, 3) := by decide +kernel
theorem dX1_come_30 : decode cX1_come 30 = .ok (.iload_n 1, 1) := by decide +kernel
theorem dX1_come_31 : decode cX1_come 31 = .ok (.iconst 3, 1) := by decide +kernel
theorem dX1_come_32 : decode cX1_come 32 = .ok (.invokevirtual 43, 3) := by decide +kernel
theorem dX1_come_35 : decode cX1_come 35 = .ok (.iconst 3, 1) := by decide +kernel
theorem dX1_come_36 : decode cX1_come 36 = .ok (.if_icmp .ne 10, 3) := by decide +kernel
theorem dX1_come_39 : decode cX1_come 39 = .ok (.iload 4, 2) := by decide +kernel
theorem dX1_come_41 : decode cX1_come 41 = .ok (.iconst 4, 1) := by decide +kernel
theorem dX1_come_42 : decode cX1_come 42 = .ok (.idiv, 1) := by decide +kernel
theorem dX1_come_43 : decode cX1_come 43 = .ok (.goto 4, 3) := by decide +kernel
theorem dX1_come_46 : decode cX1_come 46 = .ok (.iconst 0, 1) := by decide +kernel
theorem dX1_come_47 : decode cX1_come 47 = .ok (.istore 5, 2) := by decide +kernel
theorem dX1_come_49 : decode cX1_come 49 = .ok (.aload_n 0, 1) := by decide +kernel
theorem dX1_come_50 : decode cX1_come 50 = .ok (.getfield 14, 3) := by decide +kernel
theorem dX1_come_53 : decode cX1_come 53 = .ok (.iload_n 1, 1) := by decide +kernel
theorem dX1_come_54 : decode cX1_come 54 = .ok (.iconst 4, 1) := by decide +kernel
theorem dX1_come_55 : decode cX1_come 55 = .ok (.invokevirtual 43, 3) := by decide +kernel
theorem dX1_come_58 : decode cX1_come 58 = .ok (.iload 5, 2) := by decide +kernel
theorem dX1_come_60 : decode cX1_come 60 = .ok (.iadd, 1) := by decide +kernel
theorem dX1_come_61 : decode cX1_come 61 = .ok (.bipush 24, 2) := by decide +kernel
theorem dX1_come_63 : decode cX1_come 63 = .ok (.irem, 1) := by decide +kernel
theorem dX1_come_64 : decode cX1_come 64 = .ok (.istore 6, 2) := by decide +kernel
theorem dX1_come_66 : decode cX1_come 66 = .ok (.aload_n 0, 1) := by decide +kernel
theorem dX1_come_67 : decode cX1_come 67 = .ok (.getfield 14, 3) := by decide +kernel
theorem dX1_come_70 : decode cX1_come 70 = .ok (.iload_n 1, 1) := by decide +kernel
theorem dX1_come_71 : decode cX1_come 71 = .ok (.iconst 0, 1) := by decide +kernel
theorem dX1_come_72 : decode cX1_come 72 = .ok (.invokevirtual 43, 3) := by decide +kernel
theorem dX1_come_75 : decode cX1_come 75 = .ok (.iload 4, 2) := by decide +kernel
theorem dX1_come_77 : decode cX1_come 77 = .ok (.iadd, 1) := by decide +kernel
theorem dX1_come_78 : decode cX1_come 78 = .ok (.istore 7, 2) := by decide +kernel
theorem dX1_come_80 : decode cX1_come 80 = .ok (.aload_n 2, 1) := by decide +kernel
theorem dX1_come_81 : decode cX1_come 81 = .ok (.iload 6, 2) := by decide +kernel
theorem dX1_come_83 : decode cX1_come 83 = .ok (.iload 7, 2) := by decide +kernel
theorem dX1_come_85 : decode cX1_come 85 = .ok (.invokevirtual 112, 3) := by decide +kernel
theorem dX1_come_88 : decode cX1_come 88 = .ok (.istore 8, 2) := by decide +kernel
theorem dX1_come_90 : decode cX1_come 90 = .ok (.aload_n 0, 1) := by decide +kernel
theorem dX1_come_91 : decode cX1_come 91 = .ok (.getfield 14, 3) := by decide +kernel
theorem dX1_come_94 : decode cX1_come 94 = .ok (.iload_n 1, 1) := by decide +kernel
theorem dX1_come_95 : decode cX1_come 95 = .ok (.bipush 9, 2) := by decide +kernel
theorem dX1_come_97 : decode cX1_come 97 = .ok (.iload 6, 2) := by decide +kernel
theorem dX1_come_99 : decode cX1_come 99 = .ok (.invokevirtual 47, 3) := by decide +kernel
theorem dX1_come_102 : decode cX1_come 102 = .ok (.aload_n 0, 1) := by decide +kernel
theorem dX1_come_103 : decode cX1_come 103 = .ok (.getfield 14, 3) := by decide +kernel
theorem dX1_come_106 : decode cX1_come 106 = .ok (.iload_n 1, 1) := by decide +kernel
theorem dX1_come_107 : decode cX1_come 107 = .ok (.bipush 7, 2) := by decide +kernel
theorem dX1_come_109 : decode cX1_come 109 = .ok (.iload 7, 2) := by decide +kernel
theorem dX1_come_111 : decode cX1_come 111 = .ok (.invokevirtual 47, 3) := by decide +kernel
theorem dX1_come_114 : decode cX1_come 114 = .ok (.aload_n 0, 1) := by decide +kernel
theorem dX1_come_115 : decode cX1_come 115 = .ok (.getfield 14, 3) := by decide +kernel
theorem dX1_come_118 : decode cX1_come 118 = .ok (.iload_n 1, 1) := by decide +kernel
theorem dX1_come_119 : decode cX1_come 119 = .ok (.bipush 6, 2) := by decide +kernel
theorem dX1_come_121 : decode cX1_come 121 = .ok (.iload 8, 2) := by decide +kernel
theorem dX1_come_123 : decode cX1_come 123 = .ok (.ifCond .eq 7, 3) := by decide +kernel
theorem dX1_come_126 : decode cX1_come 126 = .ok (.iconst 0, 1) := by decide +kernel
theorem dX1_come_127 : decode cX1_come 127 = .ok (.goto 4, 3) := by decide +kernel
theorem dX1_come_130 : decode cX1_come 130 = .ok (.iconst 1, 1) := by decide +kernel
theorem dX1_come_131 : decode cX1_come 131 = .ok (.invokevirtual 47, 3) := by decide +kernel
theorem dX1_come_134 : decode cX1_come 134 = .ok (.aload_n 0, 1) := by decide +kernel
theorem dX1_come_135 : decode cX1_come 135 = .ok (.getfield 14, 3) := by decide +kernel
theorem dX1_come_138 : decode cX1_come 138 = .ok (.iload_n 1, 1) := by decide +kernel
theorem dX1_come_139 : decode cX1_come 139 = .ok (.bipush 8, 2) := by decide +kernel
theorem dX1_come_141 : decode cX1_come 141 = .ok (.iload 8, 2) := by decide +kernel
theorem dX1_come_143 : decode cX1_come 143 = .ok (.ifCond .eq 12, 3) := by decide +kernel
theorem dX1_come_146 : decode cX1_come 146 = .ok (.aload_n 2, 1) := by decide +kernel
theorem dX1_come_147 : decode cX1_come 147 = .ok (.iload 7, 2) := by decide +kernel
theorem dX1_come_149 : decode cX1_come 149 = .ok (.invokevirtual 116, 3) := by decide +kernel
theorem dX1_come_152 : decode cX1_come 152 = .ok (.goto 4, 3) := by decide +kernel
theorem dX1_come_155 : decode cX1_come 155 = .ok (.iconst 0, 1) := by decide +kernel
theorem dX1_come_156 : decode cX1_come 156 = .ok (.invokevirtual 47, 3) := by decide +kernel
theorem dX1_come_159 : decode cX1_come 159 = .ok (.return_, 1) := by decide +kernel
theorem dX1_known_0 : decode cX1_known 0 = .ok (.aload_n 0, 1) := by decide +kernel
theorem dX1_known_1 : decode cX1_known 1 = .ok (.getfield 14, 3) := by decide +kernel
theorem dX1_known_4 : decode cX1_known 4 = .ok (.iload_n 1, 1) := by decide +kernel
theorem dX1_known_5 : decode cX1_known 5 = .ok (.iload_n 2, 1) := by decide +kernel
theorem dX1_known_6 : decode cX1_known 6 = .ok (.invokevirtual 43, 3) := by decide +kernel
theorem dX1_known_9 : decode cX1_known 9 = .ok (.ireturn, 1) := by decide +kernel
theorem dX1_farOn_0 : decode cX1_farOn 0 = .ok (.iload_n 2, 1) := by decide +kernel
theorem dX1_farOn_1 : decode cX1_farOn 1 = .ok (.aload_n 0, 1) := by decide +kernel
theorem dX1_farOn_2 : decode cX1_farOn 2 = .ok (.getfield 14, 3) := by decide +kernel
theorem dX1_farOn_5 : decode cX1_farOn 5 = .ok (.iload_n 1, 1) := by decide +kernel
theorem dX1_farOn_6 : decode cX1_farOn 6 = .ok (.iconst 0, 1) := by decide +kernel
theorem dX1_farOn_7 : decode cX1_farOn 7 = .ok (.invokevirtual 43, 3) := by decide +kernel
theorem dX1_farOn_10 : decode cX1_farOn 10 = .ok (.isub, 1) := by decide +kernel
theorem dX1_farOn_11 : decode cX1_farOn 11 = .ok (.istore_n 3, 1) := by decide +kernel
theorem dX1_farOn_12 : decode cX1_farOn 12 = .ok (.iload_n 3, 1) := by decide +kernel
theorem dX1_farOn_13 : decode cX1_farOn 13 = .ok (.ifCond .lt 21, 3) := by decide +kernel
theorem dX1_farOn_16 : decode cX1_farOn 16 = .ok (.iload_n 2, 1) := by decide +kernel
theorem dX1_farOn_17 : decode cX1_farOn 17 = .ok (.aload_n 0, 1) := by decide +kernel
theorem dX1_farOn_18 : decode cX1_farOn 18 = .ok (.getfield 14, 3) := by decide +kernel
theorem dX1_farOn_21 : decode cX1_farOn 21 = .ok (.iload_n 1, 1) := by decide +kernel
theorem dX1_farOn_22 : decode cX1_farOn 22 = .ok (.bipush 7, 2) := by decide +kernel
theorem dX1_farOn_24 : decode cX1_farOn 24 = .ok (.invokevirtual 43, 3) := by decide +kernel
theorem dX1_farOn_27 : decode cX1_farOn 27 = .ok (.if_icmp .ge 7, 3) := by decide +kernel
theorem dX1_farOn_30 : decode cX1_farOn 30 = .ok (.iconst 1, 1) := by decide +kernel
theorem dX1_farOn_31 : decode cX1_farOn 31 = .ok (.goto 4, 3) := by decide +kernel
theorem dX1_farOn_34 : decode cX1_farOn 34 = .ok (.iconst 0, 1) := by decide +kernel
theorem dX1_farOn_35 : decode cX1_farOn 35 = .ok (.istore 4, 2) := by decide +kernel
theorem dX1_farOn_37 : decode cX1_farOn 37 = .ok (.iload 4, 2) := by decide +kernel
theorem dX1_farOn_39 : decode cX1_farOn 39 = .ok (.ifCond .eq 17, 3) := by decide +kernel
theorem dX1_farOn_42 : decode cX1_farOn 42 = .ok (.iload_n 3, 1) := by decide +kernel
theorem dX1_farOn_43 : decode cX1_farOn 43 = .ok (.aload_n 0, 1) := by decide +kernel
theorem dX1_farOn_44 : decode cX1_farOn 44 = .ok (.getfield 14, 3) := by decide +kernel
theorem dX1_farOn_47 : decode cX1_farOn 47 = .ok (.iload_n 1, 1) := by decide +kernel
theorem dX1_farOn_48 : decode cX1_farOn 48 = .ok (.iconst 2, 1) := by decide +kernel
theorem dX1_farOn_49 : decode cX1_farOn 49 = .ok (.invokevirtual 43, 3) := by decide +kernel
theorem dX1_farOn_52 : decode cX1_farOn 52 = .ok (.imul, 1) := by decide +kernel
theorem dX1_farOn_53 : decode cX1_farOn 53 = .ok (.goto 5, 3) := by decide +kernel
theorem dX1_farOn_56 : decode cX1_farOn 56 = .ok (.bipush (-4), 2) := by decide +kernel
theorem dX1_farOn_58 : decode cX1_farOn 58 = .ok (.ireturn, 1) := by decide +kernel
theorem dX1_standBehind_0 : decode cX1_standBehind 0 = .ok (.aload_n 0, 1) := by decide +kernel
theorem dX1_standBehind_1 : decode cX1_standBehind 1 = .ok (.getfield 28, 3) := by decide +kernel
theorem dX1_standBehind_4 : decode cX1_standBehind 4 = .ok (.istore_n 2, 1) := by decide +kernel
theorem dX1_standBehind_5 : decode cX1_standBehind 5 = .ok (.iconst 0, 1) := by decide +kernel
theorem dX1_standBehind_6 : decode cX1_standBehind 6 = .ok (.istore_n 3, 1) := by decide +kernel
theorem dX1_standBehind_7 : decode cX1_standBehind 7 = .ok (.iload_n 3, 1) := by decide +kernel
theorem dX1_standBehind_8 : decode cX1_standBehind 8 = .ok (.aload_n 0, 1) := by decide +kernel
theorem dX1_standBehind_9 : decode cX1_standBehind 9 = .ok (.getfield 24, 3) := by decide +kernel
theorem dX1_standBehind_12 : decode cX1_standBehind 12 = .ok (.if_icmp .ge 44, 3) := by decide +kernel
theorem dX1_standBehind_15 : decode cX1_standBehind 15 = .ok (.aload_n 0, 1) := by decide +kernel
theorem dX1_standBehind_16 : decode cX1_standBehind 16 = .ok (.getfield 20, 3) := by decide +kernel
theorem dX1_standBehind_19 : decode cX1_standBehind 19 = .ok (.iload_n 3, 1) := by decide +kernel
theorem dX1_standBehind_20 : decode cX1_standBehind 20 = .ok (.invokestatic 71, 3) := by decide +kernel
theorem dX1_standBehind_23 : decode cX1_standBehind 23 = .ok (.istore 4, 2) := by decide +kernel
theorem dX1_standBehind_25 : decode cX1_standBehind 25 = .ok (.aload_n 0, 1) := by decide +kernel
theorem dX1_standBehind_26 : decode cX1_standBehind 26 = .ok (.getfield 14, 3) := by decide +kernel
theorem dX1_standBehind_29 : decode cX1_standBehind 29 = .ok (.iload 4, 2) := by decide +kernel
theorem dX1_standBehind_31 : decode cX1_standBehind 31 = .ok (.iconst 0, 1) := by decide +kernel
theorem dX1_standBehind_32 : decode cX1_standBehind 32 = .ok (.invokevirtual 43, 3) := by decide +kernel
theorem dX1_standBehind_35 : decode cX1_standBehind 35 = .ok (.iload_n 1, 1) := by decide +kernel
theorem dX1_standBehind_36 : decode cX1_standBehind 36 = .ok (.if_icmp .gt 14, 3) := by decide +kernel
theorem dX1_standBehind_39 : decode cX1_standBehind 39 = .ok (.aload_n 0, 1) := by decide +kernel
theorem dX1_standBehind_40 : decode cX1_standBehind 40 = .ok (.getfield 14, 3) := by decide +kernel
theorem dX1_standBehind_43 : decode cX1_standBehind 43 = .ok (.iload 4, 2) := by decide +kernel
theorem dX1_standBehind_45 : decode cX1_standBehind 45 = .ok (.iconst 5, 1) := by decide +kernel
theorem dX1_standBehind_46 : decode cX1_standBehind 46 = .ok (.invokevirtual 43, 3) := by decide +kernel
theorem dX1_standBehind_49 : decode cX1_standBehind 49 = .ok (.istore_n 2, 1) := by decide +kernel
theorem dX1_standBehind_50 : decode cX1_standBehind 50 = .ok (.iinc 3 1, 3) := by decide +kernel
theorem dX1_standBehind_53 : decode cX1_standBehind 53 = .ok (.goto (-46), 3) := by decide +kernel
theorem dX1_standBehind_56 : decode cX1_standBehind 56 = .ok (.iload_n 2, 1) := by decide +kernel
theorem dX1_standBehind_57 : decode cX1_standBehind 57 = .ok (.ireturn, 1) := by decide +kernel
theorem dX1_howMany_0 : decode cX1_howMany 0 = .ok (.iconst 0, 1) := by decide +kernel
theorem dX1_howMany_1 : decode cX1_howMany 1 = .ok (.istore_n 2, 1) := by decide +kernel
theorem dX1_howMany_2 : decode cX1_howMany 2 = .ok (.iconst 0, 1) := by decide +kernel
theorem dX1_howMany_3 : decode cX1_howMany 3 = .ok (.istore_n 3, 1) := by decide +kernel
theorem dX1_howMany_4 : decode cX1_howMany 4 = .ok (.iload_n 3, 1) := by decide +kernel
theorem dX1_howMany_5 : decode cX1_howMany 5 = .ok (.aload_n 0, 1) := by decide +kernel
theorem dX1_howMany_6 : decode cX1_howMany 6 = .ok (.getfield 24, 3) := by decide +kernel
theorem dX1_howMany_9 : decode cX1_howMany 9 = .ok (.if_icmp .ge 33, 3) := by decide +kernel
theorem dX1_howMany_12 : decode cX1_howMany 12 = .ok (.aload_n 0, 1) := by decide +kernel
theorem dX1_howMany_13 : decode cX1_howMany 13 = .ok (.getfield 14, 3) := by decide +kernel
theorem dX1_howMany_16 : decode cX1_howMany 16 = .ok (.aload_n 0, 1) := by decide +kernel
theorem dX1_howMany_17 : decode cX1_howMany 17 = .ok (.getfield 20, 3) := by decide +kernel
theorem dX1_howMany_20 : decode cX1_howMany 20 = .ok (.iload_n 3, 1) := by decide +kernel
theorem dX1_howMany_21 : decode cX1_howMany 21 = .ok (.invokestatic 71, 3) := by decide +kernel
theorem dX1_howMany_24 : decode cX1_howMany 24 = .ok (.bipush 6, 2) := by decide +kernel
theorem dX1_howMany_26 : decode cX1_howMany 26 = .ok (.invokevirtual 43, 3) := by decide +kernel
theorem dX1_howMany_29 : decode cX1_howMany 29 = .ok (.iload_n 1, 1) := by decide +kernel
theorem dX1_howMany_30 : decode cX1_howMany 30 = .ok (.if_icmp .ne 6, 3) := by decide +kernel
theorem dX1_howMany_33 : decode cX1_howMany 33 = .ok (.iinc 2 1, 3) := by decide +kernel
theorem dX1_howMany_36 : decode cX1_howMany 36 = .ok (.iinc 3 1, 3) := by decide +kernel
theorem dX1_howMany_39 : decode cX1_howMany 39 = .ok (.goto (-35), 3) := by decide +kernel
theorem dX1_howMany_42 : decode cX1_howMany 42 = .ok (.iload_n 2, 1) := by decide +kernel
theorem dX1_howMany_43 : decode cX1_howMany 43 = .ok (.ireturn, 1) := by decide +kernel
theorem dX1_paidInAll_0 : decode cX1_paidInAll 0 = .ok (.iconst 0, 1) := by decide +kernel
theorem dX1_paidInAll_1 : decode cX1_paidInAll 1 = .ok (.istore_n 1, 1) := by decide +kernel
theorem dX1_paidInAll_2 : decode cX1_paidInAll 2 = .ok (.iconst 0, 1) := by decide +kernel
theorem dX1_paidInAll_3 : decode cX1_paidInAll 3 = .ok (.istore_n 2, 1) := by decide +kernel
theorem dX1_paidInAll_4 : decode cX1_paidInAll 4 = .ok (.iload_n 2, 1) := by decide +kernel
theorem dX1_paidInAll_5 : decode cX1_paidInAll 5 = .ok (.aload_n 0, 1) := by decide +kernel
theorem dX1_paidInAll_6 : decode cX1_paidInAll 6 = .ok (.getfield 24, 3) := by decide +kernel
theorem dX1_paidInAll_9 : decode cX1_paidInAll 9 = .ok (.if_icmp .ge 29, 3) := by decide +kernel
theorem dX1_paidInAll_12 : decode cX1_paidInAll 12 = .ok (.iload_n 1, 1) := by decide +kernel
theorem dX1_paidInAll_13 : decode cX1_paidInAll 13 = .ok (.aload_n 0, 1) := by decide +kernel
theorem dX1_paidInAll_14 : decode cX1_paidInAll 14 = .ok (.getfield 14, 3) := by decide +kernel
theorem dX1_paidInAll_17 : decode cX1_paidInAll 17 = .ok (.aload_n 0, 1) := by decide +kernel
theorem dX1_paidInAll_18 : decode cX1_paidInAll 18 = .ok (.getfield 20, 3) := by decide +kernel
theorem dX1_paidInAll_21 : decode cX1_paidInAll 21 = .ok (.iload_n 2, 1) := by decide +kernel
theorem dX1_paidInAll_22 : decode cX1_paidInAll 22 = .ok (.invokestatic 71, 3) := by decide +kernel
theorem dX1_paidInAll_25 : decode cX1_paidInAll 25 = .ok (.bipush 8, 2) := by decide +kernel
theorem dX1_paidInAll_27 : decode cX1_paidInAll 27 = .ok (.invokevirtual 43, 3) := by decide +kernel
theorem dX1_paidInAll_30 : decode cX1_paidInAll 30 = .ok (.iadd, 1) := by decide +kernel
theorem dX1_paidInAll_31 : decode cX1_paidInAll 31 = .ok (.istore_n 1, 1) := by decide +kernel
theorem dX1_paidInAll_32 : decode cX1_paidInAll 32 = .ok (.iinc 2 1, 3) := by decide +kernel
theorem dX1_paidInAll_35 : decode cX1_paidInAll 35 = .ok (.goto (-31), 3) := by decide +kernel
theorem dX1_paidInAll_38 : decode cX1_paidInAll 38 = .ok (.iload_n 1, 1) := by decide +kernel
theorem dX1_paidInAll_39 : decode cX1_paidInAll 39 = .ok (.ireturn, 1) := by decide +kernel
theorem dX1_caughtWith_0 : decode cX1_caughtWith 0 = .ok (.iconst 0, 1) := by decide +kernel
theorem dX1_caughtWith_1 : decode cX1_caughtWith 1 = .ok (.istore_n 3, 1) := by decide +kernel
theorem dX1_caughtWith_2 : decode cX1_caughtWith 2 = .ok (.iconst 0, 1) := by decide +kernel
theorem dX1_caughtWith_3 : decode cX1_caughtWith 3 = .ok (.istore 4, 2) := by decide +kernel
theorem dX1_caughtWith_5 : decode cX1_caughtWith 5 = .ok (.iload 4, 2) := by decide +kernel
theorem dX1_caughtWith_7 : decode cX1_caughtWith 7 = .ok (.aload_n 0, 1) := by decide +kernel
theorem dX1_caughtWith_8 : decode cX1_caughtWith 8 = .ok (.getfield 24, 3) := by decide +kernel
theorem dX1_caughtWith_11 : decode cX1_caughtWith 11 = .ok (.if_icmp .ge 83, 3) := by decide +kernel
theorem dX1_caughtWith_14 : decode cX1_caughtWith 14 = .ok (.aload_n 0, 1) := by decide +kernel
theorem dX1_caughtWith_15 : decode cX1_caughtWith 15 = .ok (.getfield 20, 3) := by decide +kernel
theorem dX1_caughtWith_18 : decode cX1_caughtWith 18 = .ok (.iload 4, 2) := by decide +kernel
theorem dX1_caughtWith_20 : decode cX1_caughtWith 20 = .ok (.invokestatic 71, 3) := by decide +kernel
theorem dX1_caughtWith_23 : decode cX1_caughtWith 23 = .ok (.istore 5, 2) := by decide +kernel
theorem dX1_caughtWith_25 : decode cX1_caughtWith 25 = .ok (.aload_n 0, 1) := by decide +kernel
theorem dX1_caughtWith_26 : decode cX1_caughtWith 26 = .ok (.getfield 14, 3) := by decide +kernel
theorem dX1_caughtWith_29 : decode cX1_caughtWith 29 = .ok (.iload 5, 2) := by decide +kernel
theorem dX1_caughtWith_31 : decode cX1_caughtWith 31 = .ok (.bipush 6, 2) := by decide +kernel
theorem dX1_caughtWith_33 : decode cX1_caughtWith 33 = .ok (.invokevirtual 43, 3) := by decide +kernel
theorem dX1_caughtWith_36 : decode cX1_caughtWith 36 = .ok (.iconst 1, 1) := by decide +kernel
theorem dX1_caughtWith_37 : decode cX1_caughtWith 37 = .ok (.if_icmp .ne 26, 3) := by decide +kernel
theorem dX1_caughtWith_40 : decode cX1_caughtWith 40 = .ok (.aload_n 0, 1) := by decide +kernel
theorem dX1_caughtWith_41 : decode cX1_caughtWith 41 = .ok (.getfield 14, 3) := by decide +kernel
theorem dX1_caughtWith_44 : decode cX1_caughtWith 44 = .ok (.iload 5, 2) := by decide +kernel
theorem dX1_caughtWith_46 : decode cX1_caughtWith 46 = .ok (.bipush 9, 2) := by decide +kernel
theorem dX1_caughtWith_48 : decode cX1_caughtWith 48 = .ok (.invokevirtual 43, 3) := by decide +kernel
theorem dX1_caughtWith_51 : decode cX1_caughtWith 51 = .ok (.iload_n 1, 1) := by decide +kernel
theorem dX1_caughtWith_52 : decode cX1_caughtWith 52 = .ok (.invokestatic 119, 3) := by decide +kernel
theorem dX1_caughtWith_55 : decode cX1_caughtWith 55 = .ok (.iload_n 2, 1) := by decide +kernel
theorem dX1_caughtWith_56 : decode cX1_caughtWith 56 = .ok (.if_icmp .gt 7, 3) := by decide +kernel
theorem dX1_caughtWith_59 : decode cX1_caughtWith 59 = .ok (.iconst 1, 1) := by decide +kernel
theorem dX1_caughtWith_60 : decode cX1_caughtWith 60 = .ok (.goto 4, 3) := by decide +kernel
theorem dX1_caughtWith_63 : decode cX1_caughtWith 63 = .ok (.iconst 0, 1) := by decide +kernel
theorem dX1_caughtWith_64 : decode cX1_caughtWith 64 = .ok (.istore 6, 2) := by decide +kernel
theorem dX1_caughtWith_66 : decode cX1_caughtWith 66 = .ok (.iload 6, 2) := by decide +kernel
theorem dX1_caughtWith_68 : decode cX1_caughtWith 68 = .ok (.ifCond .ne 17, 3) := by decide +kernel
theorem dX1_caughtWith_71 : decode cX1_caughtWith 71 = .ok (.aload_n 0, 1) := by decide +kernel
theorem dX1_caughtWith_72 : decode cX1_caughtWith 72 = .ok (.getfield 14, 3) := by decide +kernel
theorem dX1_caughtWith_75 : decode cX1_caughtWith 75 = .ok (.iload 5, 2) := by decide +kernel
theorem dX1_caughtWith_77 : decode cX1_caughtWith 77 = .ok (.bipush 6, 2) := by decide +kernel
theorem dX1_caughtWith_79 : decode cX1_caughtWith 79 = .ok (.invokevirtual 43, 3) := by decide +kernel
theorem dX1_caughtWith_82 : decode cX1_caughtWith 82 = .ok (.ifCond .ne 6, 3) := by decide +kernel
theorem dX1_caughtWith_85 : decode cX1_caughtWith 85 = .ok (.iinc 3 1, 3) := by decide +kernel
theorem dX1_caughtWith_88 : decode cX1_caughtWith 88 = .ok (.iinc 4 1, 3) := by decide +kernel
theorem dX1_caughtWith_91 : decode cX1_caughtWith 91 = .ok (.goto (-86), 3) := by decide +kernel
theorem dX1_caughtWith_94 : decode cX1_caughtWith 94 = .ok (.iload_n 3, 1) := by decide +kernel
theorem dX1_caughtWith_95 : decode cX1_caughtWith 95 = .ok (.ireturn, 1) := by decide +kernel
theorem dX2_init_0 : decode cX2_init 0 = .ok (.aload_n 0, 1) := by decide +kernel
theorem dX2_init_1 : decode cX2_init 1 = .ok (.invokespecial 3, 3) := by decide +kernel
theorem dX2_init_4 : decode cX2_init 4 = .ok (.aload_n 0, 1) := by decide +kernel
theorem dX2_init_5 : decode cX2_init 5 = .ok (.new 9, 3) := by decide +kernel
theorem dX2_init_8 : decode cX2_init 8 = .ok (.dup, 1) := by decide +kernel
theorem dX2_init_9 : decode cX2_init 9 = .ok (.bipush 7, 2) := by decide +kernel
theorem dX2_init_11 : decode cX2_init 11 = .ok (.iconst 4, 1) := by decide +kernel
theorem dX2_init_12 : decode cX2_init 12 = .ok (.invokespecial 11, 3) := by decide +kernel
theorem dX2_init_15 : decode cX2_init 15 = .ok (.putfield 14, 3) := by decide +kernel
theorem dX2_init_18 : decode cX2_init 18 = .ok (.aload_n 0, 1) := by decide +kernel
theorem dX2_init_19 : decode cX2_init 19 = .ok (.new 9, 3) := by decide +kernel
theorem dX2_init_22 : decode cX2_init 22 = .ok (.dup, 1) := by decide +kernel
theorem dX2_init_23 : decode cX2_init 23 = .ok (.bipush 7, 2) := by decide +kernel
theorem dX2_init_25 : decode cX2_init 25 = .ok (.iconst 4, 1) := by decide +kernel
theorem dX2_init_26 : decode cX2_init 26 = .ok (.invokespecial 11, 3) := by decide +kernel
theorem dX2_init_29 : decode cX2_init 29 = .ok (.putfield 20, 3) := by decide +kernel
theorem dX2_init_32 : decode cX2_init 32 = .ok (.aload_n 0, 1) := by decide +kernel
theorem dX2_init_33 : decode cX2_init 33 = .ok (.iconst 0, 1) := by decide +kernel
theorem dX2_init_34 : decode cX2_init 34 = .ok (.putfield 23, 3) := by decide +kernel
theorem dX2_init_37 : decode cX2_init 37 = .ok (.return_, 1) := by decide +kernel
theorem dX2_forget_0 : decode cX2_forget 0 = .ok (.aload_n 0, 1) := by decide +kernel
theorem dX2_forget_1 : decode cX2_forget 1 = .ok (.iconst 0, 1) := by decide +kernel
theorem dX2_forget_2 : decode cX2_forget 2 = .ok (.putfield 23, 3) := by decide +kernel
theorem dX2_forget_5 : decode cX2_forget 5 = .ok (.return_, 1) := by decide +kernel
theorem dX2_take_0 : decode cX2_take 0 = .ok (.aload_n 0, 1) := by decide +kernel
theorem dX2_take_1 : decode cX2_take 1 = .ok (.getfield 23, 3) := by decide +kernel
theorem dX2_take_4 : decode cX2_take 4 = .ok (.iconst 2, 1) := by decide +kernel
theorem dX2_take_5 : decode cX2_take 5 = .ok (.if_icmp .ne 5, 3) := by decide +kernel
theorem dX2_take_8 : decode cX2_take 8 = .ok (.iconst 0, 1) := by decide +kernel
theorem dX2_take_9 : decode cX2_take 9 = .ok (.ireturn, 1) := by decide +kernel
theorem dX2_take_10 : decode cX2_take 10 = .ok (.aload_n 0, 1) := by decide +kernel
theorem dX2_take_11 : decode cX2_take 11 = .ok (.getfield 23, 3) := by decide +kernel
theorem dX2_take_14 : decode cX2_take 14 = .ok (.ifCond .ne 10, 3) := by decide +kernel
theorem dX2_take_17 : decode cX2_take 17 = .ok (.aload_n 0, 1) := by decide +kernel
theorem dX2_take_18 : decode cX2_take 18 = .ok (.getfield 14, 3) := by decide +kernel
theorem dX2_take_21 : decode cX2_take 21 = .ok (.goto 7, 3) := by decide +kernel
theorem dX2_take_24 : decode cX2_take 24 = .ok (.aload_n 0, 1) := by decide +kernel
theorem dX2_take_25 : decode cX2_take 25 = .ok (.getfield 20, 3) := by decide +kernel
theorem dX2_take_28 : decode cX2_take 28 = .ok (.aload_n 1, 1) := by decide +kernel
theorem dX2_take_29 : decode cX2_take 29 = .ok (.invokevirtual 27, 3) := by decide +kernel
theorem dX2_take_32 : decode cX2_take 32 = .ok (.aload_n 0, 1) := by decide +kernel
theorem dX2_take_33 : decode cX2_take 33 = .ok (.dup, 1) := by decide +kernel
theorem dX2_take_34 : decode cX2_take 34 = .ok (.getfield 23, 3) := by decide +kernel
theorem dX2_take_37 : decode cX2_take 37 = .ok (.iconst 1, 1) := by decide +kernel
theorem dX2_take_38 : decode cX2_take 38 = .ok (.iadd, 1) := by decide +kernel
theorem dX2_take_39 : decode cX2_take 39 = .ok (.putfield 23, 3) := by decide +kernel
theorem dX2_take_42 : decode cX2_take 42 = .ok (.iconst 1, 1) := by decide +kernel
theorem dX2_take_43 : decode cX2_take 43 = .ok (.ireturn, 1) := by decide +kernel
theorem dX2_giveBack_0 : decode cX2_giveBack 0 = .ok (.aload_n 0, 1) := by decide +kernel
theorem dX2_giveBack_1 : decode cX2_giveBack 1 = .ok (.getfield 23, 3) := by decide +kernel
theorem dX2_giveBack_4 : decode cX2_giveBack 4 = .ok (.ifCond .ne 5, 3) := by decide +kernel
theorem dX2_giveBack_7 : decode cX2_giveBack 7 = .ok (.iconst 0, 1) := by decide +kernel
theorem dX2_giveBack_8 : decode cX2_giveBack 8 = .ok (.ireturn, 1) := by decide +kernel
theorem dX2_giveBack_9 : decode cX2_giveBack 9 = .ok (.aload_n 0, 1) := by decide +kernel
theorem dX2_giveBack_10 : decode cX2_giveBack 10 = .ok (.dup, 1) := by decide +kernel
theorem dX2_giveBack_11 : decode cX2_giveBack 11 = .ok (.getfield 23, 3) := by decide +kernel
theorem dX2_giveBack_14 : decode cX2_giveBack 14 = .ok (.iconst 1, 1) := by decide +kernel
theorem dX2_giveBack_15 : decode cX2_giveBack 15 = .ok (.isub, 1) := by decide +kernel
theorem dX2_giveBack_16 : decode cX2_giveBack 16 = .ok (.putfield 23, 3) := by decide +kernel
theorem dX2_giveBack_19 : decode cX2_giveBack 19 = .ok (.aload_n 1, 1) := by decide +kernel
theorem dX2_giveBack_20 : decode cX2_giveBack 20 = .ok (.aload_n 0, 1) := by decide +kernel
theorem dX2_giveBack_21 : decode cX2_giveBack 21 = .ok (.getfield 23, 3) := by decide +kernel
theorem dX2_giveBack_24 : decode cX2_giveBack 24 = .ok (.ifCond .ne 10, 3) := by decide +kernel
theorem dX2_giveBack_27 : decode cX2_giveBack 27 = .ok (.aload_n 0, 1) := by decide +kernel
theorem dX2_giveBack_28 : decode cX2_giveBack 28 = .ok (.getfield 14, 3) := by decide +kernel
theorem dX2_giveBack_31 : decode cX2_giveBack 31 = .ok (.goto 7, 3) := by decide +kernel
theorem dX2_giveBack_34 : decode cX2_giveBack 34 = .ok (.aload_n 0, 1) := by decide +kernel
theorem dX2_giveBack_35 : decode cX2_giveBack 35 = .ok (.getfield 20, 3) := by decide +kernel
theorem dX2_giveBack_38 : decode cX2_giveBack 38 = .ok (.invokevirtual 27, 3) := by decide +kernel
theorem dX2_giveBack_41 : decode cX2_giveBack 41 = .ok (.iconst 1, 1) := by decide +kernel
theorem dX2_giveBack_42 : decode cX2_giveBack 42 = .ok (.ireturn, 1) := by decide +kernel
theorem dX3_init_0 : decode cX3_init 0 = .ok (.aload_n 0, 1) := by decide +kernel
theorem dX3_init_1 : decode cX3_init 1 = .ok (.invokespecial 3, 3) := by decide +kernel
theorem dX3_init_4 : decode cX3_init 4 = .ok (.aload_n 0, 1) := by decide +kernel
theorem dX3_init_5 : decode cX3_init 5 = .ok (.new 9, 3) := by decide +kernel
theorem dX3_init_8 : decode cX3_init 8 = .ok (.dup, 1) := by decide +kernel
theorem dX3_init_9 : decode cX3_init 9 = .ok (.bipush 7, 2) := by decide +kernel
theorem dX3_init_11 : decode cX3_init 11 = .ok (.iconst 4, 1) := by decide +kernel
theorem dX3_init_12 : decode cX3_init 12 = .ok (.invokespecial 11, 3) := by decide +kernel
theorem dX3_init_15 : decode cX3_init 15 = .ok (.putfield 14, 3) := by decide +kernel
theorem dX3_init_18 : decode cX3_init 18 = .ok (.aload_n 0, 1) := by decide +kernel
theorem dX3_init_19 : decode cX3_init 19 = .ok (.new 9, 3) := by decide +kernel
theorem dX3_init_22 : decode cX3_init 22 = .ok (.dup, 1) := by decide +kernel
theorem dX3_init_23 : decode cX3_init 23 = .ok (.iconst 5, 1) := by decide +kernel
theorem dX3_init_24 : decode cX3_init 24 = .ok (.iconst 4, 1) := by decide +kernel
theorem dX3_init_25 : decode cX3_init 25 = .ok (.invokespecial 11, 3) := by decide +kernel
theorem dX3_init_28 : decode cX3_init 28 = .ok (.putfield 20, 3) := by decide +kernel
theorem dX3_init_31 : decode cX3_init 31 = .ok (.aload_n 0, 1) := by decide +kernel
theorem dX3_init_32 : decode cX3_init 32 = .ok (.invokevirtual 23, 3) := by decide +kernel
theorem dX3_init_35 : decode cX3_init 35 = .ok (.return_, 1) := by decide +kernel
theorem dX3_makeBare_0 : decode cX3_makeBare 0 = .ok (.aload_n 0, 1) := by decide +kernel
theorem dX3_makeBare_1 : decode cX3_makeBare 1 = .ok (.iconst 0, 1) := by decide +kernel
theorem dX3_makeBare_2 : decode cX3_makeBare 2 = .ok (.putfield 26, 3) := by decide +kernel
theorem dX3_makeBare_5 : decode cX3_makeBare 5 = .ok (.aload_n 0, 1) := by decide +kernel
theorem dX3_makeBare_6 : decode cX3_makeBare 6 = .ok (.bipush 12, 2) := by decide +kernel
theorem dX3_makeBare_8 : decode cX3_makeBare 8 = .ok (.putfield 30, 3) := by decide +kernel
theorem dX3_makeBare_11 : decode cX3_makeBare 11 = .ok (.aload_n 0, 1) := by decide +kernel
theorem dX3_makeBare_12 : decode cX3_makeBare 12 = .ok (.iconst 0, 1) := by decide +kernel
theorem dX3_makeBare_13 : decode cX3_makeBare 13 = .ok (.putfield 33, 3) := by decide +kernel
theorem dX3_makeBare_16 : decode cX3_makeBare 16 = .ok (.aload_n 0, 1) := by decide +kernel
theorem dX3_makeBare_17 : decode cX3_makeBare 17 = .ok (.bipush 7, 2) := by decide +kernel
theorem dX3_makeBare_19 : decode cX3_makeBare 19 = .ok (.putfield 36, 3) := by decide +kernel
theorem dX3_makeBare_22 : decode cX3_makeBare 22 = .ok (.aload_n 0, 1) := by decide +kernel
theorem dX3_makeBare_23 : decode cX3_makeBare 23 = .ok (.getfield 14, 3) := by decide +kernel
theorem dX3_makeBare_26 : decode cX3_makeBare 26 = .ok (.invokevirtual 39, 3) := by decide +kernel
theorem dX3_makeBare_29 : decode cX3_makeBare 29 = .ok (.aload_n 0, 1) := by decide +kernel
theorem dX3_makeBare_30 : decode cX3_makeBare 30 = .ok (.getfield 20, 3) := by decide +kernel
theorem dX3_makeBare_33 : decode cX3_makeBare 33 = .ok (.invokevirtual 39, 3) := by decide +kernel
theorem dX3_makeBare_36 : decode cX3_makeBare 36 = .ok (.return_, 1) := by decide +kernel
theorem dX3_takeOver_0 : decode cX3_takeOver 0 = .ok (.aload_n 0, 1) := by decide +kernel
theorem dX3_takeOver_1 : decode cX3_takeOver 1 = .ok (.aload_n 1, 1) := by decide +kernel
theorem dX3_takeOver_2 : decode cX3_takeOver 2 = .ok (.getfield 26, 3) := by decide +kernel
theorem dX3_takeOver_5 : decode cX3_takeOver 5 = .ok (.putfield 26, 3) := by decide +kernel
theorem dX3_takeOver_8 : decode cX3_takeOver 8 = .ok (.aload_n 0, 1) := by decide +kernel
theorem dX3_takeOver_9 : decode cX3_takeOver 9 = .ok (.aload_n 1, 1) := by decide +kernel
theorem dX3_takeOver_10 : decode cX3_takeOver 10 = .ok (.getfield 30, 3) := by decide +kernel
theorem dX3_takeOver_13 : decode cX3_takeOver 13 = .ok (.putfield 30, 3) := by decide +kernel
theorem dX3_takeOver_16 : decode cX3_takeOver 16 = .ok (.aload_n 0, 1) := by decide +kernel
theorem dX3_takeOver_17 : decode cX3_takeOver 17 = .ok (.aload_n 1, 1) := by decide +kernel
theorem dX3_takeOver_18 : decode cX3_takeOver 18 = .ok (.getfield 33, 3) := by decide +kernel
theorem dX3_takeOver_21 : decode cX3_takeOver 21 = .ok (.putfield 33, 3) := by decide +kernel
theorem dX3_takeOver_24 : decode cX3_takeOver 24 = .ok (.aload_n 0, 1) := by decide +kernel
theorem dX3_takeOver_25 : decode cX3_takeOver 25 = .ok (.aload_n 1, 1) := by decide +kernel
theorem dX3_takeOver_26 : decode cX3_takeOver 26 = .ok (.getfield 36, 3) := by decide +kernel
theorem dX3_takeOver_29 : decode cX3_takeOver 29 = .ok (.putfield 36, 3) := by decide +kernel
theorem dX3_takeOver_32 : decode cX3_takeOver 32 = .ok (.aload_n 0, 1) := by decide +kernel
theorem dX3_takeOver_33 : decode cX3_takeOver 33 = .ok (.getfield 14, 3) := by decide +kernel
theorem dX3_takeOver_36 : decode cX3_takeOver 36 = .ok (.aload_n 1, 1) := by decide +kernel
theorem dX3_takeOver_37 : decode cX3_takeOver 37 = .ok (.getfield 14, 3) := by decide +kernel
theorem dX3_takeOver_40 : decode cX3_takeOver 40 = .ok (.invokevirtual 42, 3) := by decide +kernel
theorem dX3_takeOver_43 : decode cX3_takeOver 43 = .ok (.aload_n 0, 1) := by decide +kernel
theorem dX3_takeOver_44 : decode cX3_takeOver 44 = .ok (.getfield 20, 3) := by decide +kernel
theorem dX3_takeOver_47 : decode cX3_takeOver 47 = .ok (.aload_n 1, 1) := by decide +kernel
theorem dX3_takeOver_48 : decode cX3_takeOver 48 = .ok (.getfield 20, 3) := by decide +kernel
theorem dX3_takeOver_51 : decode cX3_takeOver 51 = .ok (.invokevirtual 42, 3) := by decide +kernel
theorem dX3_takeOver_54 : decode cX3_takeOver 54 = .ok (.return_, 1) := by decide +kernel
theorem dX3_tell_0 : decode cX3_tell 0 = .ok (.iload_n 1, 1) := by decide +kernel
theorem dX3_tell_1 : decode cX3_tell 1 = .ok (.tableswitch 79 110 116 #[61, 79, 72, 79, 43, 79, 50], 43) := by decide +kernel
theorem dX3_tell_44 : decode cX3_tell 44 = .ok (.aload_n 0, 1) := by decide +kernel
theorem dX3_tell_45 : decode cX3_tell 45 = .ok (.iload_n 2, 1) := by decide +kernel
theorem dX3_tell_46 : decode cX3_tell 46 = .ok (.iload_n 3, 1) := by decide +kernel
theorem dX3_tell_47 : decode cX3_tell 47 = .ok (.invokevirtual 46, 3) := by decide +kernel
theorem dX3_tell_50 : decode cX3_tell 50 = .ok (.ireturn, 1) := by decide +kernel
theorem dX3_tell_51 : decode cX3_tell 51 = .ok (.aload_n 0, 1) := by decide +kernel
theorem dX3_tell_52 : decode cX3_tell 52 = .ok (.iload_n 2, 1) := by decide +kernel
theorem dX3_tell_53 : decode cX3_tell 53 = .ok (.iload_n 3, 1) := by decide +kernel
theorem dX3_tell_54 : decode cX3_tell 54 = .ok (.iload 4, 2) := by decide +kernel
theorem dX3_tell_56 : decode cX3_tell 56 = .ok (.iload 5, 2) := by decide +kernel
theorem dX3_tell_58 : decode cX3_tell 58 = .ok (.invokevirtual 50, 3) := by decide +kernel
theorem dX3_tell_61 : decode cX3_tell 61 = .ok (.ireturn, 1) := by decide +kernel
theorem dX3_tell_62 : decode cX3_tell 62 = .ok (.aload_n 0, 1) := by decide +kernel
theorem dX3_tell_63 : decode cX3_tell 63 = .ok (.iload_n 2, 1) := by decide +kernel
theorem dX3_tell_64 : decode cX3_tell 64 = .ok (.iload_n 3, 1) := by decide +kernel
theorem dX3_tell_65 : decode cX3_tell 65 = .ok (.iload 4, 2) := by decide +kernel
theorem dX3_tell_67 : decode cX3_tell 67 = .ok (.iload 5, 2) := by decide +kernel
theorem dX3_tell_69 : decode cX3_tell 69 = .ok (.invokevirtual 54, 3) := by decide +kernel
theorem dX3_tell_72 : decode cX3_tell 72 = .ok (.ireturn, 1) := by decide +kernel
theorem dX3_tell_73 : decode cX3_tell 73 = .ok (.aload_n 0, 1) := by decide +kernel
theorem dX3_tell_74 : decode cX3_tell 74 = .ok (.iload_n 2, 1) := by decide +kernel
theorem dX3_tell_75 : decode cX3_tell 75 = .ok (.iload_n 3, 1) := by decide +kernel
theorem dX3_tell_76 : decode cX3_tell 76 = .ok (.invokevirtual 57, 3) := by decide +kernel
theorem dX3_tell_79 : decode cX3_tell 79 = .ok (.ireturn, 1) := by decide +kernel
theorem dX3_tell_80 : decode cX3_tell 80 = .ok (.iconst 0, 1) := by decide +kernel
theorem dX3_tell_81 : decode cX3_tell 81 = .ok (.ireturn, 1) := by decide +kernel
theorem dX3_tellRock_0 : decode cX3_tellRock 0 = .ok (.iload_n 1, 1) := by decide +kernel
theorem dX3_tellRock_1 : decode cX3_tellRock 1 = .ok (.iconst 0, 1) := by decide +kernel
theorem dX3_tellRock_2 : decode cX3_tellRock 2 = .ok (.bipush 23, 2) := by decide +kernel
theorem dX3_tellRock_4 : decode cX3_tellRock 4 = .ok (.invokestatic 60, 3) := by decide +kernel
theorem dX3_tellRock_7 : decode cX3_tellRock 7 = .ok (.ifCond .eq 13, 3) := by decide +kernel
theorem dX3_tellRock_10 : decode cX3_tellRock 10 = .ok (.iload_n 2, 1) := by decide +kernel
theorem dX3_tellRock_11 : decode cX3_tellRock 11 = .ok (.iconst 1, 1) := by decide +kernel
theorem dX3_tellRock_12 : decode cX3_tellRock 12 = .ok (.bipush 60, 2) := by decide +kernel
theorem dX3_tellRock_14 : decode cX3_tellRock 14 = .ok (.invokestatic 60, 3) := by decide +kernel
theorem dX3_tellRock_17 : decode cX3_tellRock 17 = .ok (.ifCond .ne 5, 3) := by decide +kernel
theorem dX3_tellRock_20 : decode cX3_tellRock 20 = .ok (.iconst 0, 1) := by decide +kernel
theorem dX3_tellRock_21 : decode cX3_tellRock 21 = .ok (.ireturn, 1) := by decide +kernel
theorem dX3_tellRock_22 : decode cX3_tellRock 22 = .ok (.aload_n 0, 1) := by decide +kernel
theorem dX3_tellRock_23 : decode cX3_tellRock 23 = .ok (.iload_n 1, 1) := by decide +kernel
theorem dX3_tellRock_24 : decode cX3_tellRock 24 = .ok (.putfield 26, 3) := by decide +kernel
theorem dX3_tellRock_27 : decode cX3_tellRock 27 = .ok (.aload_n 0, 1) := by decide +kernel
theorem dX3_tellRock_28 : decode cX3_tellRock 28 = .ok (.iload_n 2, 1) := by decide +kernel
theorem dX3_tellRock_29 : decode cX3_tellRock 29 = .ok (.putfield 30, 3) := by decide +kernel
theorem dX3_tellRock_32 : decode cX3_tellRock 32 = .ok (.iconst 1, 1) := by decide +kernel
theorem dX3_tellRock_33 : decode cX3_tellRock 33 = .ok (.ireturn, 1) := by decide +kernel
theorem dX3_tellThrow_0 : decode cX3_tellThrow 0 = .ok (.iload_n 1, 1) := by decide +kernel
theorem dX3_tellThrow_1 : decode cX3_tellThrow 1 = .ok (.iconst 0, 1) := by decide +kernel
theorem dX3_tellThrow_2 : decode cX3_tellThrow 2 = .ok (.bipush 40, 2) := by decide +kernel
theorem dX3_tellThrow_4 : decode cX3_tellThrow 4 = .ok (.invokestatic 60, 3) := by decide +kernel
theorem dX3_tellThrow_7 : decode cX3_tellThrow 7 = .ok (.ifCond .eq 52, 3) := by decide +kernel
theorem dX3_tellThrow_10 : decode cX3_tellThrow 10 = .ok (.iload_n 2, 1) := by decide +kernel
theorem dX3_tellThrow_11 : decode cX3_tellThrow 11 = .ok (.iconst 0, 1) := by decide +kernel
theorem dX3_tellThrow_12 : decode cX3_tellThrow 12 = .ok (.bipush 23, 2) := by decide +kernel
theorem dX3_tellThrow_14 : decode cX3_tellThrow 14 = .ok (.invokestatic 60, 3) := by decide +kernel
theorem dX3_tellThrow_17 : decode cX3_tellThrow 17 = .ok (.ifCond .eq 42, 3) := by decide +kernel
theorem dX3_tellThrow_20 : decode cX3_tellThrow 20 = .ok (.iload_n 3, 1) := by decide +kernel
theorem dX3_tellThrow_21 : decode cX3_tellThrow 21 = .ok (.iconst 1, 1) := by decide +kernel
theorem dX3_tellThrow_22 : decode cX3_tellThrow 22 = .ok (.bipush 6, 2) := by decide +kernel
theorem dX3_tellThrow_24 : decode cX3_tellThrow 24 = .ok (.invokestatic 60, 3) := by decide +kernel
theorem dX3_tellThrow_27 : decode cX3_tellThrow 27 = .ok (.ifCond .eq 32, 3) := by decide +kernel
theorem dX3_tellThrow_30 : decode cX3_tellThrow 30 = .ok (.iload 4, 2) := by decide +kernel
theorem dX3_tellThrow_32 : decode cX3_tellThrow 32 = .ok (.iconst 0, 1) := by decide +kernel
theorem dX3_tellThrow_33 : decode cX3_tellThrow 33 = .ok (.iconst 3, 1) := by decide +kernel
theorem dX3_tellThrow_34 : decode cX3_tellThrow 34 = .ok (.invokestatic 60, 3) := by decide +kernel
theorem dX3_tellThrow_37 : decode cX3_tellThrow 37 = .ok (.ifCond .eq 22, 3) := by decide +kernel
theorem dX3_tellThrow_40 : decode cX3_tellThrow 40 = .ok (.aload_n 0, 1) := by decide +kernel
theorem dX3_tellThrow_41 : decode cX3_tellThrow 41 = .ok (.getfield 14, 3) := by decide +kernel
theorem dX3_tellThrow_44 : decode cX3_tellThrow 44 = .ok (.iload_n 1, 1) := by decide +kernel
theorem dX3_tellThrow_45 : decode cX3_tellThrow 45 = .ok (.iload_n 2, 1) := by decide +kernel
theorem dX3_tellThrow_46 : decode cX3_tellThrow 46 = .ok (.iload_n 3, 1) := by decide +kernel
theorem dX3_tellThrow_47 : decode cX3_tellThrow 47 = .ok (.iload 4, 2) := by decide +kernel
theorem dX3_tellThrow_49 : decode cX3_tellThrow 49 = .ok (.invokevirtual 64, 3) := by decide +kernel
theorem dX3_tellThrow_52 : decode cX3_tellThrow 52 = .ok (.ifCond .eq 7, 3) := by decide +kernel
theorem dX3_tellThrow_55 : decode cX3_tellThrow 55 = .ok (.iconst 1, 1) := by decide +kernel
theorem dX3_tellThrow_56 : decode cX3_tellThrow 56 = .ok (.goto 4, 3) := by decide +kernel
theorem dX3_tellThrow_59 : decode cX3_tellThrow 59 = .ok (.iconst 0, 1) := by decide +kernel
theorem dX3_tellThrow_60 : decode cX3_tellThrow 60 = .ok (.ireturn, 1) := by decide +kernel
theorem dX3_tellNet_0 : decode cX3_tellNet 0 = .ok (.iload_n 1, 1) := by decide +kernel
theorem dX3_tellNet_1 : decode cX3_tellNet 1 = .ok (.iconst 0, 1) := by decide +kernel
theorem dX3_tellNet_2 : decode cX3_tellNet 2 = .ok (.bipush 23, 2) := by decide +kernel
theorem dX3_tellNet_4 : decode cX3_tellNet 4 = .ok (.invokestatic 60, 3) := by decide +kernel
theorem dX3_tellNet_7 : decode cX3_tellNet 7 = .ok (.ifCond .eq 52, 3) := by decide +kernel
theorem dX3_tellNet_10 : decode cX3_tellNet 10 = .ok (.iload_n 2, 1) := by decide +kernel
theorem dX3_tellNet_11 : decode cX3_tellNet 11 = .ok (.iconst 0, 1) := by decide +kernel
theorem dX3_tellNet_12 : decode cX3_tellNet 12 = .ok (.iconst 3, 1) := by decide +kernel
theorem dX3_tellNet_13 : decode cX3_tellNet 13 = .ok (.invokestatic 60, 3) := by decide +kernel
theorem dX3_tellNet_16 : decode cX3_tellNet 16 = .ok (.ifCond .eq 43, 3) := by decide +kernel
theorem dX3_tellNet_19 : decode cX3_tellNet 19 = .ok (.iload_n 3, 1) := by decide +kernel
theorem dX3_tellNet_20 : decode cX3_tellNet 20 = .ok (.iconst 0, 1) := by decide +kernel
theorem dX3_tellNet_21 : decode cX3_tellNet 21 = .ok (.bipush 99, 2) := by decide +kernel
theorem dX3_tellNet_23 : decode cX3_tellNet 23 = .ok (.invokestatic 60, 3) := by decide +kernel
theorem dX3_tellNet_26 : decode cX3_tellNet 26 = .ok (.ifCond .eq 33, 3) := by decide +kernel
theorem dX3_tellNet_29 : decode cX3_tellNet 29 = .ok (.iload 4, 2) := by decide +kernel
theorem dX3_tellNet_31 : decode cX3_tellNet 31 = .ok (.iconst 0, 1) := by decide +kernel
theorem dX3_tellNet_32 : decode cX3_tellNet 32 = .ok (.bipush 99, 2) := by decide +kernel
theorem dX3_tellNet_34 : decode cX3_tellNet 34 = .ok (.invokestatic 60, 3) := by decide +kernel
theorem dX3_tellNet_37 : decode cX3_tellNet 37 = .ok (.ifCond .eq 22, 3) := by decide +kernel
theorem dX3_tellNet_40 : decode cX3_tellNet 40 = .ok (.aload_n 0, 1) := by decide +kernel
theorem dX3_tellNet_41 : decode cX3_tellNet 41 = .ok (.getfield 20, 3) := by decide +kernel
theorem dX3_tellNet_44 : decode cX3_tellNet 44 = .ok (.iload_n 1, 1) := by decide +kernel
theorem dX3_tellNet_45 : decode cX3_tellNet 45 = .ok (.iload_n 2, 1) := by decide +kernel
theorem dX3_tellNet_46 : decode cX3_tellNet 46 = .ok (.iload_n 3, 1) := by decide +kernel
theorem dX3_tellNet_47 : decode cX3_tellNet 47 = .ok (.iload 4, 2) := by decide +kernel
theorem dX3_tellNet_49 : decode cX3_tellNet 49 = .ok (.invokevirtual 64, 3) := by decide +kernel
theorem dX3_tellNet_52 : decode cX3_tellNet 52 = .ok (.ifCond .eq 7, 3) := by decide +kernel
theorem dX3_tellNet_55 : decode cX3_tellNet 55 = .ok (.iconst 1, 1) := by decide +kernel
theorem dX3_tellNet_56 : decode cX3_tellNet 56 = .ok (.goto 4, 3) := by decide +kernel
theorem dX3_tellNet_59 : decode cX3_tellNet 59 = .ok (.iconst 0, 1) := by decide +kernel
theorem dX3_tellNet_60 : decode cX3_tellNet 60 = .ok (.ireturn, 1) := by decide +kernel
theorem dX3_tellPrice_0 : decode cX3_tellPrice 0 = .ok (.iload_n 1, 1) := by decide +kernel
theorem dX3_tellPrice_1 : decode cX3_tellPrice 1 = .ok (.iconst 0, 1) := by decide +kernel
theorem dX3_tellPrice_2 : decode cX3_tellPrice 2 = .ok (.bipush 49, 2) := by decide +kernel
theorem dX3_tellPrice_4 : decode cX3_tellPrice 4 = .ok (.invokestatic 60, 3) := by decide +kernel
theorem dX3_tellPrice_7 : decode cX3_tellPrice 7 = .ok (.ifCond .eq 13, 3) := by decide +kernel
theorem dX3_tellPrice_10 : decode cX3_tellPrice 10 = .ok (.iload_n 2, 1) := by decide +kernel
theorem dX3_tellPrice_11 : decode cX3_tellPrice 11 = .ok (.iconst 0, 1) := by decide +kernel
theorem dX3_tellPrice_12 : decode cX3_tellPrice 12 = .ok (.bipush 49, 2) := by decide +kernel
theorem dX3_tellPrice_14 : decode cX3_tellPrice 14 = .ok (.invokestatic 60, 3) := by decide +kernel
theorem dX3_tellPrice_17 : decode cX3_tellPrice 17 = .ok (.ifCond .ne 5, 3) := by decide +kernel
theorem dX3_tellPrice_20 : decode cX3_tellPrice 20 = .ok (.iconst 0, 1) := by decide +kernel
theorem dX3_tellPrice_21 : decode cX3_tellPrice 21 = .ok (.ireturn, 1) := by decide +kernel
theorem dX3_tellPrice_22 : decode cX3_tellPrice 22 = .ok (.aload_n 0, 1) := by decide +kernel
theorem dX3_tellPrice_23 : decode cX3_tellPrice 23 = .ok (.iload_n 1, 1) := by decide +kernel
theorem dX3_tellPrice_24 : decode cX3_tellPrice 24 = .ok (.putfield 33, 3) := by decide +kernel
theorem dX3_tellPrice_27 : decode cX3_tellPrice 27 = .ok (.aload_n 0, 1) := by decide +kernel
theorem dX3_tellPrice_28 : decode cX3_tellPrice 28 = .ok (.iload_n 2, 1) := by decide +kernel
theorem dX3_tellPrice_29 : decode cX3_tellPrice 29 = .ok (.putfield 36, 3) := by decide +kernel
theorem dX3_tellPrice_32 : decode cX3_tellPrice 32 = .ok (.iconst 1, 1) := by decide +kernel
theorem dX3_tellPrice_33 : decode cX3_tellPrice 33 = .ok (.ireturn, 1) := by decide +kernel
theorem dX3_priceOn_0 : decode cX3_priceOn 0 = .ok (.aload_n 0, 1) := by decide +kernel
theorem dX3_priceOn_1 : decode cX3_priceOn 1 = .ok (.getfield 33, 3) := by decide +kernel
theorem dX3_priceOn_4 : decode cX3_priceOn 4 = .ok (.aload_n 0, 1) := by decide +kernel
theorem dX3_priceOn_5 : decode cX3_priceOn 5 = .ok (.getfield 36, 3) := by decide +kernel
theorem dX3_priceOn_8 : decode cX3_priceOn 8 = .ok (.iload_n 1, 1) := by decide +kernel
theorem dX3_priceOn_9 : decode cX3_priceOn 9 = .ok (.imul, 1) := by decide +kernel
theorem dX3_priceOn_10 : decode cX3_priceOn 10 = .ok (.iadd, 1) := by decide +kernel
theorem dX3_priceOn_11 : decode cX3_priceOn 11 = .ok (.bipush 50, 2) := by decide +kernel
theorem dX3_priceOn_13 : decode cX3_priceOn 13 = .ok (.irem, 1) := by decide +kernel
theorem dX3_priceOn_14 : decode cX3_priceOn 14 = .ok (.iconst 1, 1) := by decide +kernel
theorem dX3_priceOn_15 : decode cX3_priceOn 15 = .ok (.iadd, 1) := by decide +kernel
theorem dX3_priceOn_16 : decode cX3_priceOn 16 = .ok (.ireturn, 1) := by decide +kernel
theorem dX3_catches_0 : decode cX3_catches 0 = .ok (.iconst 0, 1) := by decide +kernel
theorem dX3_catches_1 : decode cX3_catches 1 = .ok (.istore_n 3, 1) := by decide +kernel
theorem dX3_catches_2 : decode cX3_catches 2 = .ok (.iload_n 3, 1) := by decide +kernel
theorem dX3_catches_3 : decode cX3_catches 3 = .ok (.aload_n 0, 1) := by decide +kernel
theorem dX3_catches_4 : decode cX3_catches 4 = .ok (.getfield 20, 3) := by decide +kernel
theorem dX3_catches_7 : decode cX3_catches 7 = .ok (.invokevirtual 67, 3) := by decide +kernel
theorem dX3_catches_10 : decode cX3_catches 10 = .ok (.if_icmp .ge 74, 3) := by decide +kernel
theorem dX3_catches_13 : decode cX3_catches 13 = .ok (.iload_n 2, 1) := by decide +kernel
theorem dX3_catches_14 : decode cX3_catches 14 = .ok (.aload_n 0, 1) := by decide +kernel
theorem dX3_catches_15 : decode cX3_catches 15 = .ok (.getfield 20, 3) := by decide +kernel
theorem dX3_catches_18 : decode cX3_catches 18 = .ok (.iload_n 3, 1) := by decide +kernel
theorem dX3_catches_19 : decode cX3_catches 19 = .ok (.iconst 2, 1) := by decide +kernel
theorem dX3_catches_20 : decode cX3_catches 20 = .ok (.invokevirtual 71, 3) := by decide +kernel
theorem dX3_catches_23 : decode cX3_catches 23 = .ok (.if_icmp .lt 20, 3) := by decide +kernel
theorem dX3_catches_26 : decode cX3_catches 26 = .ok (.iload_n 2, 1) := by decide +kernel
theorem dX3_catches_27 : decode cX3_catches 27 = .ok (.aload_n 0, 1) := by decide +kernel
theorem dX3_catches_28 : decode cX3_catches 28 = .ok (.getfield 20, 3) := by decide +kernel
theorem dX3_catches_31 : decode cX3_catches 31 = .ok (.iload_n 3, 1) := by decide +kernel
theorem dX3_catches_32 : decode cX3_catches 32 = .ok (.iconst 3, 1) := by decide +kernel
theorem dX3_catches_33 : decode cX3_catches 33 = .ok (.invokevirtual 71, 3) := by decide +kernel
theorem dX3_catches_36 : decode cX3_catches 36 = .ok (.if_icmp .gt 7, 3) := by decide +kernel
theorem dX3_catches_39 : decode cX3_catches 39 = .ok (.iconst 1, 1) := by decide +kernel
theorem dX3_catches_40 : decode cX3_catches 40 = .ok (.goto 4, 3) := by decide +kernel
theorem dX3_catches_43 : decode cX3_catches 43 = .ok (.iconst 0, 1) := by decide +kernel
theorem dX3_catches_44 : decode cX3_catches 44 = .ok (.istore 4, 2) := by decide +kernel
theorem dX3_catches_46 : decode cX3_catches 46 = .ok (.iload 4, 2) := by decide +kernel
theorem dX3_catches_48 : decode cX3_catches 48 = .ok (.ifCond .eq 30, 3) := by decide +kernel
theorem dX3_catches_51 : decode cX3_catches 51 = .ok (.iload_n 1, 1) := by decide +kernel
theorem dX3_catches_52 : decode cX3_catches 52 = .ok (.aload_n 0, 1) := by decide +kernel
theorem dX3_catches_53 : decode cX3_catches 53 = .ok (.getfield 20, 3) := by decide +kernel
theorem dX3_catches_56 : decode cX3_catches 56 = .ok (.iload_n 3, 1) := by decide +kernel
theorem dX3_catches_57 : decode cX3_catches 57 = .ok (.iconst 0, 1) := by decide +kernel
theorem dX3_catches_58 : decode cX3_catches 58 = .ok (.invokevirtual 71, 3) := by decide +kernel
theorem dX3_catches_61 : decode cX3_catches 61 = .ok (.invokestatic 75, 3) := by decide +kernel
theorem dX3_catches_64 : decode cX3_catches 64 = .ok (.aload_n 0, 1) := by decide +kernel
theorem dX3_catches_65 : decode cX3_catches 65 = .ok (.getfield 20, 3) := by decide +kernel
theorem dX3_catches_68 : decode cX3_catches 68 = .ok (.iload_n 3, 1) := by decide +kernel
theorem dX3_catches_69 : decode cX3_catches 69 = .ok (.iconst 1, 1) := by decide +kernel
theorem dX3_catches_70 : decode cX3_catches 70 = .ok (.invokevirtual 71, 3) := by decide +kernel
theorem dX3_catches_73 : decode cX3_catches 73 = .ok (.if_icmp .gt 5, 3) := by decide +kernel
theorem dX3_catches_76 : decode cX3_catches 76 = .ok (.iconst 1, 1) := by decide +kernel
theorem dX3_catches_77 : decode cX3_catches 77 = .ok (.ireturn, 1) := by decide +kernel
theorem dX3_catches_78 : decode cX3_catches 78 = .ok (.iinc 3 1, 3) := by decide +kernel
theorem dX3_catches_81 : decode cX3_catches 81 = .ok (.goto (-79), 3) := by decide +kernel
theorem dX3_catches_84 : decode cX3_catches 84 = .ok (.iconst 0, 1) := by decide +kernel
theorem dX3_catches_85 : decode cX3_catches 85 = .ok (.ireturn, 1) := by decide +kernel
theorem dX4_init_0 : decode cX4_init 0 = .ok (.aload_n 0, 1) := by decide +kernel
theorem dX4_init_1 : decode cX4_init 1 = .ok (.invokespecial 3, 3) := by decide +kernel
theorem dX4_init_4 : decode cX4_init 4 = .ok (.aload_n 0, 1) := by decide +kernel
theorem dX4_init_5 : decode cX4_init 5 = .ok (.iconst 4, 1) := by decide +kernel
theorem dX4_init_6 : decode cX4_init 6 = .ok (.newarray .int, 2) := by decide +kernel
theorem dX4_init_8 : decode cX4_init 8 = .ok (.putfield 9, 3) := by decide +kernel
theorem dX4_init_11 : decode cX4_init 11 = .ok (.aload_n 0, 1) := by decide +kernel
theorem dX4_init_12 : decode cX4_init 12 = .ok (.iconst 0, 1) := by decide +kernel
theorem dX4_init_13 : decode cX4_init 13 = .ok (.putfield 15, 3) := by decide +kernel
theorem dX4_init_16 : decode cX4_init 16 = .ok (.return_, 1) := by decide +kernel
theorem dX4_firstFault_0 : decode cX4_firstFault 0 = .ok (.aload_n 2, 1) := by decide +kernel
theorem dX4_firstFault_1 : decode cX4_firstFault 1 = .ok (.invokevirtual 19, 3) := by decide +kernel
theorem dX4_firstFault_4 : decode cX4_firstFault 4 = .ok (.aload_n 0, 1) := by decide +kernel
theorem dX4_firstFault_5 : decode cX4_firstFault 5 = .ok (.iconst 0, 1) := by decide +kernel
theorem dX4_firstFault_6 : decode cX4_firstFault 6 = .ok (.putfield 15, 3) := by decide +kernel
theorem dX4_firstFault_9 : decode cX4_firstFault 9 = .ok (.iconst 0, 1) := by decide +kernel
theorem dX4_firstFault_10 : decode cX4_firstFault 10 = .ok (.istore_n 3, 1) := by decide +kernel
theorem dX4_firstFault_11 : decode cX4_firstFault 11 = .ok (.iload_n 3, 1) := by decide +kernel
theorem dX4_firstFault_12 : decode cX4_firstFault 12 = .ok (.sipush 300, 3) := by decide +kernel
theorem dX4_firstFault_15 : decode cX4_firstFault 15 = .ok (.if_icmp .ge 38, 3) := by decide +kernel
theorem dX4_firstFault_18 : decode cX4_firstFault 18 = .ok (.aload_n 0, 1) := by decide +kernel
theorem dX4_firstFault_19 : decode cX4_firstFault 19 = .ok (.getfield 15, 3) := by decide +kernel
theorem dX4_firstFault_22 : decode cX4_firstFault 22 = .ok (.aload_n 1, 1) := by decide +kernel
theorem dX4_firstFault_23 : decode cX4_firstFault 23 = .ok (.getfield 24, 3) := by decide +kernel
theorem dX4_firstFault_26 : decode cX4_firstFault 26 = .ok (.if_icmp .ge 27, 3) := by decide +kernel
theorem dX4_firstFault_29 : decode cX4_firstFault 29 = .ok (.aload_n 0, 1) := by decide +kernel
theorem dX4_firstFault_30 : decode cX4_firstFault 30 = .ok (.getfield 15, 3) := by decide +kernel
theorem dX4_firstFault_33 : decode cX4_firstFault 33 = .ok (.istore 4, 2) := by decide +kernel
theorem dX4_firstFault_35 : decode cX4_firstFault 35 = .ok (.aload_n 0, 1) := by decide +kernel
theorem dX4_firstFault_36 : decode cX4_firstFault 36 = .ok (.aload_n 1, 1) := by decide +kernel
theorem dX4_firstFault_37 : decode cX4_firstFault 37 = .ok (.aload_n 2, 1) := by decide +kernel
theorem dX4_firstFault_38 : decode cX4_firstFault 38 = .ok (.invokevirtual 29, 3) := by decide +kernel
theorem dX4_firstFault_41 : decode cX4_firstFault 41 = .ok (.ifCond .ne 6, 3) := by decide +kernel
theorem dX4_firstFault_44 : decode cX4_firstFault 44 = .ok (.iload 4, 2) := by decide +kernel
theorem dX4_firstFault_46 : decode cX4_firstFault 46 = .ok (.ireturn, 1) := by decide +kernel
theorem dX4_firstFault_47 : decode cX4_firstFault 47 = .ok (.iinc 3 1, 3) := by decide +kernel
theorem dX4_firstFault_50 : decode cX4_firstFault 50 = .ok (.goto (-39), 3) := by decide +kernel
theorem dX4_firstFault_53 : decode cX4_firstFault 53 = .ok (.bipush (-4), 2) := by decide +kernel
theorem dX4_firstFault_55 : decode cX4_firstFault 55 = .ok (.ireturn, 1) := by decide +kernel
theorem dX4_readItem_0 : decode cX4_readItem 0 = .ok (.aload_n 1, 1) := by decide +kernel
theorem dX4_readItem_1 : decode cX4_readItem 1 = .ok (.aload_n 0, 1) := by decide +kernel
theorem dX4_readItem_2 : decode cX4_readItem 2 = .ok (.getfield 15, 3) := by decide +kernel
theorem dX4_readItem_5 : decode cX4_readItem 5 = .ok (.invokevirtual 33, 3) := by decide +kernel
theorem dX4_readItem_8 : decode cX4_readItem 8 = .ok (.istore_n 3, 1) := by decide +kernel
theorem dX4_readItem_9 : decode cX4_readItem 9 = .ok (.iload_n 3, 1) := by decide +kernel
theorem dX4_readItem_10 : decode cX4_readItem 10 = .ok (.invokestatic 37, 3) := by decide +kernel
theorem dX4_readItem_13 : decode cX4_readItem 13 = .ok (.istore 4, 2) := by decide +kernel
theorem dX4_readItem_15 : decode cX4_readItem 15 = .ok (.aload_n 0, 1) := by decide +kernel
theorem dX4_readItem_16 : decode cX4_readItem 16 = .ok (.dup, 1) := by decide +kernel
theorem dX4_readItem_17 : decode cX4_readItem 17 = .ok (.getfield 15, 3) := by decide +kernel
theorem dX4_readItem_20 : decode cX4_readItem 20 = .ok (.iconst 1, 1) := by decide +kernel
theorem dX4_readItem_21 : decode cX4_readItem 21 = .ok (.iadd, 1) := by decide +kernel
theorem dX4_readItem_22 : decode cX4_readItem 22 = .ok (.putfield 15, 3) := by decide +kernel
theorem dX4_readItem_25 : decode cX4_readItem 25 = .ok (.iconst 0, 1) := by decide +kernel
theorem dX4_readItem_26 : decode cX4_readItem 26 = .ok (.istore 5, 2) := by decide +kernel
theorem dX4_readItem_28 : decode cX4_readItem 28 = .ok (.iload 5, 2) := by decide +kernel
theorem dX4_readItem_30 : decode cX4_readItem 30 = .ok (.iload 4, 2) := by decide +kernel
theorem dX4_readItem_32 : decode cX4_readItem 32 = .ok (.if_icmp .ge 62, 3) := by decide +kernel
theorem dX4_readItem_35 : decode cX4_readItem 35 = .ok (.iload 5, 2) := by decide +kernel
theorem dX4_readItem_37 : decode cX4_readItem 37 = .ok (.iload 4, 2) := by decide +kernel
theorem dX4_readItem_39 : decode cX4_readItem 39 = .ok (.iconst 1, 1) := by decide +kernel
theorem dX4_readItem_40 : decode cX4_readItem 40 = .ok (.isub, 1) := by decide +kernel
theorem dX4_readItem_41 : decode cX4_readItem 41 = .ok (.if_icmp .ne 8, 3) := by decide +kernel
theorem dX4_readItem_44 : decode cX4_readItem 44 = .ok (.bipush 59, 2) := by decide +kernel
theorem dX4_readItem_46 : decode cX4_readItem 46 = .ok (.goto 5, 3) := by decide +kernel
theorem dX4_readItem_49 : decode cX4_readItem 49 = .ok (.bipush 44, 2) := by decide +kernel
theorem dX4_readItem_51 : decode cX4_readItem 51 = .ok (.istore 6, 2) := by decide +kernel
theorem dX4_readItem_53 : decode cX4_readItem 53 = .ok (.aload_n 0, 1) := by decide +kernel
theorem dX4_readItem_54 : decode cX4_readItem 54 = .ok (.aload_n 1, 1) := by decide +kernel
theorem dX4_readItem_55 : decode cX4_readItem 55 = .ok (.iload 5, 2) := by decide +kernel
theorem dX4_readItem_57 : decode cX4_readItem 57 = .ok (.invokevirtual 40, 3) := by decide +kernel
theorem dX4_readItem_60 : decode cX4_readItem 60 = .ok (.ifCond .eq 16, 3) := by decide +kernel
theorem dX4_readItem_63 : decode cX4_readItem 63 = .ok (.aload_n 1, 1) := by decide +kernel
theorem dX4_readItem_64 : decode cX4_readItem 64 = .ok (.aload_n 0, 1) := by decide +kernel
theorem dX4_readItem_65 : decode cX4_readItem 65 = .ok (.getfield 15, 3) := by decide +kernel
theorem dX4_readItem_68 : decode cX4_readItem 68 = .ok (.invokevirtual 33, 3) := by decide +kernel
theorem dX4_readItem_71 : decode cX4_readItem 71 = .ok (.iload 6, 2) := by decide +kernel
theorem dX4_readItem_73 : decode cX4_readItem 73 = .ok (.if_icmp .eq 5, 3) := by decide +kernel
theorem dX4_readItem_76 : decode cX4_readItem 76 = .ok (.iconst 0, 1) := by decide +kernel
theorem dX4_readItem_77 : decode cX4_readItem 77 = .ok (.ireturn, 1) := by decide +kernel
theorem dX4_readItem_78 : decode cX4_readItem 78 = .ok (.aload_n 0, 1) := by decide +kernel
theorem dX4_readItem_79 : decode cX4_readItem 79 = .ok (.dup, 1) := by decide +kernel
theorem dX4_readItem_80 : decode cX4_readItem 80 = .ok (.getfield 15, 3) := by decide +kernel
theorem dX4_readItem_83 : decode cX4_readItem 83 = .ok (.iconst 1, 1) := by decide +kernel
theorem dX4_readItem_84 : decode cX4_readItem 84 = .ok (.iadd, 1) := by decide +kernel
theorem dX4_readItem_85 : decode cX4_readItem 85 = .ok (.putfield 15, 3) := by decide +kernel
theorem dX4_readItem_88 : decode cX4_readItem 88 = .ok (.iinc 5 1, 3) := by decide +kernel
theorem dX4_readItem_91 : decode cX4_readItem 91 = .ok (.goto (-63), 3) := by decide +kernel
theorem dX4_readItem_94 : decode cX4_readItem 94 = .ok (.aload_n 2, 1) := by decide +kernel
theorem dX4_readItem_95 : decode cX4_readItem 95 = .ok (.iload_n 3, 1) := by decide +kernel
theorem dX4_readItem_96 : decode cX4_readItem 96 = .ok (.aload_n 0, 1) := by decide +kernel
theorem dX4_readItem_97 : decode cX4_readItem 97 = .ok (.getfield 9, 3) := by decide +kernel
theorem dX4_readItem_100 : decode cX4_readItem 100 = .ok (.iconst 0, 1) := by decide +kernel
theorem dX4_readItem_101 : decode cX4_readItem 101 = .ok (.invokestatic 44, 3) := by decide +kernel
theorem dX4_readItem_104 : decode cX4_readItem 104 = .ok (.aload_n 0, 1) := by decide +kernel
theorem dX4_readItem_105 : decode cX4_readItem 105 = .ok (.getfield 9, 3) := by decide +kernel
theorem dX4_readItem_108 : decode cX4_readItem 108 = .ok (.iconst 1, 1) := by decide +kernel
theorem dX4_readItem_109 : decode cX4_readItem 109 = .ok (.invokestatic 44, 3) := by decide +kernel
theorem dX4_readItem_112 : decode cX4_readItem 112 = .ok (.aload_n 0, 1) := by decide +kernel
theorem dX4_readItem_113 : decode cX4_readItem 113 = .ok (.getfield 9, 3) := by decide +kernel
theorem dX4_readItem_116 : decode cX4_readItem 116 = .ok (.iconst 2, 1) := by decide +kernel
theorem dX4_readItem_117 : decode cX4_readItem 117 = .ok (.invokestatic 44, 3) := by decide +kernel
theorem dX4_readItem_120 : decode cX4_readItem 120 = .ok (.aload_n 0, 1) := by decide +kernel
theorem dX4_readItem_121 : decode cX4_readItem 121 = .ok (.getfield 9, 3) := by decide +kernel
theorem dX4_readItem_124 : decode cX4_readItem 124 = .ok (.iconst 3, 1) := by decide +kernel
theorem dX4_readItem_125 : decode cX4_readItem 125 = .ok (.invokestatic 44, 3) := by decide +kernel
theorem dX4_readItem_128 : decode cX4_readItem 128 = .ok (.invokevirtual 48, 3) := by decide +kernel
theorem dX4_readItem_131 : decode cX4_readItem 131 = .ok (.ireturn, 1) := by decide +kernel
theorem dX4_readNumber_0 : decode cX4_readNumber 0 = .ok (.aload_n 1, 1) := by decide +kernel
theorem dX4_readNumber_1 : decode cX4_readNumber 1 = .ok (.aload_n 0, 1) := by decide +kernel
theorem dX4_readNumber_2 : decode cX4_readNumber 2 = .ok (.getfield 15, 3) := by decide +kernel
theorem dX4_readNumber_5 : decode cX4_readNumber 5 = .ok (.invokevirtual 33, 3) := by decide +kernel
theorem dX4_readNumber_8 : decode cX4_readNumber 8 = .ok (.invokestatic 52, 3) := by decide +kernel
theorem dX4_readNumber_11 : decode cX4_readNumber 11 = .ok (.ifCond .ne 5, 3) := by decide +kernel
theorem dX4_readNumber_14 : decode cX4_readNumber 14 = .ok (.iconst 0, 1) := by decide +kernel
theorem dX4_readNumber_15 : decode cX4_readNumber 15 = .ok (.ireturn, 1) := by decide +kernel
theorem dX4_readNumber_16 : decode cX4_readNumber 16 = .ok (.aload_n 1, 1) := by decide +kernel
theorem dX4_readNumber_17 : decode cX4_readNumber 17 = .ok (.aload_n 0, 1) := by decide +kernel
theorem dX4_readNumber_18 : decode cX4_readNumber 18 = .ok (.getfield 15, 3) := by decide +kernel
theorem dX4_readNumber_21 : decode cX4_readNumber 21 = .ok (.invokevirtual 33, 3) := by decide +kernel
theorem dX4_readNumber_24 : decode cX4_readNumber 24 = .ok (.bipush 48, 2) := by decide +kernel
theorem dX4_readNumber_26 : decode cX4_readNumber 26 = .ok (.isub, 1) := by decide +kernel
theorem dX4_readNumber_27 : decode cX4_readNumber 27 = .ok (.istore_n 3, 1) := by decide +kernel
theorem dX4_readNumber_28 : decode cX4_readNumber 28 = .ok (.aload_n 0, 1) := by decide +kernel
theorem dX4_readNumber_29 : decode cX4_readNumber 29 = .ok (.dup, 1) := by decide +kernel
theorem dX4_readNumber_30 : decode cX4_readNumber 30 = .ok (.getfield 15, 3) := by decide +kernel
theorem dX4_readNumber_33 : decode cX4_readNumber 33 = .ok (.iconst 1, 1) := by decide +kernel
theorem dX4_readNumber_34 : decode cX4_readNumber 34 = .ok (.iadd, 1) := by decide +kernel
theorem dX4_readNumber_35 : decode cX4_readNumber 35 = .ok (.putfield 15, 3) := by decide +kernel
theorem dX4_readNumber_38 : decode cX4_readNumber 38 = .ok (.aload_n 1, 1) := by decide +kernel
theorem dX4_readNumber_39 : decode cX4_readNumber 39 = .ok (.aload_n 0, 1) := by decide +kernel
theorem dX4_readNumber_40 : decode cX4_readNumber 40 = .ok (.getfield 15, 3) := by decide +kernel
theorem dX4_readNumber_43 : decode cX4_readNumber 43 = .ok (.invokevirtual 33, 3) := by decide +kernel
theorem dX4_readNumber_46 : decode cX4_readNumber 46 = .ok (.invokestatic 52, 3) := by decide +kernel
theorem dX4_readNumber_49 : decode cX4_readNumber 49 = .ok (.ifCond .eq 30, 3) := by decide +kernel
theorem dX4_readNumber_52 : decode cX4_readNumber 52 = .ok (.bipush 10, 2) := by decide +kernel
theorem dX4_readNumber_54 : decode cX4_readNumber 54 = .ok (.iload_n 3, 1) := by decide +kernel
theorem dX4_readNumber_55 : decode cX4_readNumber 55 = .ok (.imul, 1) := by decide +kernel
theorem dX4_readNumber_56 : decode cX4_readNumber 56 = .ok (.aload_n 1, 1) := by decide +kernel
theorem dX4_readNumber_57 : decode cX4_readNumber 57 = .ok (.aload_n 0, 1) := by decide +kernel
theorem dX4_readNumber_58 : decode cX4_readNumber 58 = .ok (.getfield 15, 3) := by decide +kernel
theorem dX4_readNumber_61 : decode cX4_readNumber 61 = .ok (.invokevirtual 33, 3) := by decide +kernel
theorem dX4_readNumber_64 : decode cX4_readNumber 64 = .ok (.iadd, 1) := by decide +kernel
theorem dX4_readNumber_65 : decode cX4_readNumber 65 = .ok (.bipush 48, 2) := by decide +kernel
theorem dX4_readNumber_67 : decode cX4_readNumber 67 = .ok (.isub, 1) := by decide +kernel
theorem dX4_readNumber_68 : decode cX4_readNumber 68 = .ok (.istore_n 3, 1) := by decide +kernel
theorem dX4_readNumber_69 : decode cX4_readNumber 69 = .ok (.aload_n 0, 1) := by decide +kernel
theorem dX4_readNumber_70 : decode cX4_readNumber 70 = .ok (.dup, 1) := by decide +kernel
theorem dX4_readNumber_71 : decode cX4_readNumber 71 = .ok (.getfield 15, 3) := by decide +kernel
theorem dX4_readNumber_74 : decode cX4_readNumber 74 = .ok (.iconst 1, 1) := by decide +kernel
theorem dX4_readNumber_75 : decode cX4_readNumber 75 = .ok (.iadd, 1) := by decide +kernel
theorem dX4_readNumber_76 : decode cX4_readNumber 76 = .ok (.putfield 15, 3) := by decide +kernel
theorem dX4_readNumber_79 : decode cX4_readNumber 79 = .ok (.aload_n 0, 1) := by decide +kernel
theorem dX4_readNumber_80 : decode cX4_readNumber 80 = .ok (.getfield 9, 3) := by decide +kernel
theorem dX4_readNumber_83 : decode cX4_readNumber 83 = .ok (.iload_n 2, 1) := by decide +kernel
theorem dX4_readNumber_84 : decode cX4_readNumber 84 = .ok (.iload_n 3, 1) := by decide +kernel
theorem dX4_readNumber_85 : decode cX4_readNumber 85 = .ok (.invokestatic 56, 3) := by decide +kernel
theorem dX4_readNumber_88 : decode cX4_readNumber 88 = .ok (.iconst 1, 1) := by decide +kernel
theorem dX4_readNumber_89 : decode cX4_readNumber 89 = .ok (.ireturn, 1) := by decide +kernel
theorem dX4_isFigure_0 : decode cX4_isFigure 0 = .ok (.iload_n 0, 1) := by decide +kernel
theorem dX4_isFigure_1 : decode cX4_isFigure 1 = .ok (.bipush 48, 2) := by decide +kernel
theorem dX4_isFigure_3 : decode cX4_isFigure 3 = .ok (.if_icmp .lt 13, 3) := by decide +kernel
theorem dX4_isFigure_6 : decode cX4_isFigure 6 = .ok (.iload_n 0, 1) := by decide +kernel
theorem dX4_isFigure_7 : decode cX4_isFigure 7 = .ok (.bipush 57, 2) := by decide +kernel
theorem dX4_isFigure_9 : decode cX4_isFigure 9 = .ok (.if_icmp .gt 7, 3) := by decide +kernel
theorem dX4_isFigure_12 : decode cX4_isFigure 12 = .ok (.iconst 1, 1) := by decide +kernel
theorem dX4_isFigure_13 : decode cX4_isFigure 13 = .ok (.goto 4, 3) := by decide +kernel
theorem dX4_isFigure_16 : decode cX4_isFigure 16 = .ok (.iconst 0, 1) := by decide +kernel
theorem dX4_isFigure_17 : decode cX4_isFigure 17 = .ok (.ireturn, 1) := by decide +kernel
theorem dX4_numbersBehind_0 : decode cX4_numbersBehind 0 = .ok (.iload_n 0, 1) := by decide +kernel
theorem dX4_numbersBehind_1 : decode cX4_numbersBehind 1 = .ok (.tableswitch 47 110 116 #[45, 47, 43, 47, 43, 47, 45], 43) := by decide +kernel
theorem dX4_numbersBehind_44 : decode cX4_numbersBehind 44 = .ok (.iconst 2, 1) := by decide +kernel
theorem dX4_numbersBehind_45 : decode cX4_numbersBehind 45 = .ok (.ireturn, 1) := by decide +kernel
theorem dX4_numbersBehind_46 : decode cX4_numbersBehind 46 = .ok (.iconst 4, 1) := by decide +kernel
theorem dX4_numbersBehind_47 : decode cX4_numbersBehind 47 = .ok (.ireturn, 1) := by decide +kernel
theorem dX4_numbersBehind_48 : decode cX4_numbersBehind 48 = .ok (.iconst 0, 1) := by decide +kernel
theorem dX4_numbersBehind_49 : decode cX4_numbersBehind 49 = .ok (.ireturn, 1) := by decide +kernel
theorem dX5_init_0 : decode cX5_init 0 = .ok (.aload_n 0, 1) := by decide +kernel
theorem dX5_init_1 : decode cX5_init 1 = .ok (.invokespecial 1, 3) := by decide +kernel
theorem dX5_init_4 : decode cX5_init 4 = .ok (.aload_n 0, 1) := by decide +kernel
theorem dX5_init_5 : decode cX5_init 5 = .ok (.iconst 0, 1) := by decide +kernel
theorem dX5_init_6 : decode cX5_init 6 = .ok (.iload_n 1, 1) := by decide +kernel
theorem dX5_init_7 : decode cX5_init 7 = .ok (.invokestatic 7, 3) := by decide +kernel
theorem dX5_init_10 : decode cX5_init 10 = .ok (.putfield 13, 3) := by decide +kernel
theorem dX5_init_13 : decode cX5_init 13 = .ok (.aload_n 0, 1) := by decide +kernel
theorem dX5_init_14 : decode cX5_init 14 = .ok (.iconst 0, 1) := by decide +kernel
theorem dX5_init_15 : decode cX5_init 15 = .ok (.iload_n 2, 1) := by decide +kernel
theorem dX5_init_16 : decode cX5_init 16 = .ok (.invokestatic 7, 3) := by decide +kernel
theorem dX5_init_19 : decode cX5_init 19 = .ok (.putfield 19, 3) := by decide +kernel
theorem dX5_init_22 : decode cX5_init 22 = .ok (.aload_n 0, 1) := by decide +kernel
theorem dX5_init_23 : decode cX5_init 23 = .ok (.aload_n 0, 1) := by decide +kernel
theorem dX5_init_24 : decode cX5_init 24 = .ok (.getfield 13, 3) := by decide +kernel
theorem dX5_init_27 : decode cX5_init 27 = .ok (.aload_n 0, 1) := by decide +kernel
theorem dX5_init_28 : decode cX5_init 28 = .ok (.getfield 19, 3) := by decide +kernel
theorem dX5_init_31 : decode cX5_init 31 = .ok (.imul, 1) := by decide +kernel
theorem dX5_init_32 : decode cX5_init 32 = .ok (.newarray .int, 2) := by decide +kernel
theorem dX5_init_34 : decode cX5_init 34 = .ok (.putfield 22, 3) := by decide +kernel
theorem dX5_init_37 : decode cX5_init 37 = .ok (.aload_n 0, 1) := by decide +kernel
theorem dX5_init_38 : decode cX5_init 38 = .ok (.iconst 0, 1) := by decide +kernel
theorem dX5_init_39 : decode cX5_init 39 = .ok (.putfield 26, 3) := by decide +kernel
theorem dX5_init_42 : decode cX5_init 42 = .ok (.return_, 1) := by decide +kernel
theorem dX5_rows_0 : decode cX5_rows 0 = .ok (.aload_n 0, 1) := by decide +kernel
theorem dX5_rows_1 : decode cX5_rows 1 = .ok (.getfield 26, 3) := by decide +kernel
theorem dX5_rows_4 : decode cX5_rows 4 = .ok (.ireturn, 1) := by decide +kernel
theorem dX5_has_0 : decode cX5_has 0 = .ok (.iload_n 1, 1) := by decide +kernel
theorem dX5_has_1 : decode cX5_has 1 = .ok (.ifCond .lt 15, 3) := by decide +kernel
theorem dX5_has_4 : decode cX5_has 4 = .ok (.iload_n 1, 1) := by decide +kernel
theorem dX5_has_5 : decode cX5_has 5 = .ok (.aload_n 0, 1) := by decide +kernel
theorem dX5_has_6 : decode cX5_has 6 = .ok (.getfield 26, 3) := by decide +kernel
theorem dX5_has_9 : decode cX5_has 9 = .ok (.if_icmp .ge 7, 3) := by decide +kernel
theorem dX5_has_12 : decode cX5_has 12 = .ok (.iconst 1, 1) := by decide +kernel
theorem dX5_has_13 : decode cX5_has 13 = .ok (.goto 4, 3) := by decide +kernel
theorem dX5_has_16 : decode cX5_has 16 = .ok (.iconst 0, 1) := by decide +kernel
theorem dX5_has_17 : decode cX5_has 17 = .ok (.ireturn, 1) := by decide +kernel
theorem dX5_empty_0 : decode cX5_empty 0 = .ok (.aload_n 0, 1) := by decide +kernel
theorem dX5_empty_1 : decode cX5_empty 1 = .ok (.iconst 0, 1) := by decide +kernel
theorem dX5_empty_2 : decode cX5_empty 2 = .ok (.putfield 26, 3) := by decide +kernel
theorem dX5_empty_5 : decode cX5_empty 5 = .ok (.return_, 1) := by decide +kernel
theorem dX5_get_0 : decode cX5_get 0 = .ok (.iload_n 1, 1) := by decide +kernel
theorem dX5_get_1 : decode cX5_get 1 = .ok (.ifCond .lt 27, 3) := by decide +kernel
theorem dX5_get_4 : decode cX5_get 4 = .ok (.iload_n 1, 1) := by decide +kernel
theorem dX5_get_5 : decode cX5_get 5 = .ok (.aload_n 0, 1) := by decide +kernel
theorem dX5_get_6 : decode cX5_get 6 = .ok (.getfield 13, 3) := by decide +kernel
theorem dX5_get_9 : decode cX5_get 9 = .ok (.if_icmp .ge 19, 3) := by decide +kernel
theorem dX5_get_12 : decode cX5_get 12 = .ok (.iload_n 2, 1) := by decide +kernel
theorem dX5_get_13 : decode cX5_get 13 = .ok (.ifCond .lt 15, 3) := by decide +kernel
theorem dX5_get_16 : decode cX5_get 16 = .ok (.iload_n 2, 1) := by decide +kernel
theorem dX5_get_17 : decode cX5_get 17 = .ok (.aload_n 0, 1) := by decide +kernel
theorem dX5_get_18 : decode cX5_get 18 = .ok (.getfield 19, 3) := by decide +kernel
theorem dX5_get_21 : decode cX5_get 21 = .ok (.if_icmp .ge 7, 3) := by decide +kernel
theorem dX5_get_24 : decode cX5_get 24 = .ok (.iconst 1, 1) := by decide +kernel
theorem dX5_get_25 : decode cX5_get 25 = .ok (.goto 4, 3) := by decide +kernel
theorem dX5_get_28 : decode cX5_get 28 = .ok (.iconst 0, 1) := by decide +kernel
theorem dX5_get_29 : decode cX5_get 29 = .ok (.istore_n 3, 1) := by decide +kernel
theorem dX5_get_30 : decode cX5_get 30 = .ok (.iload_n 3, 1) := by decide +kernel
theorem dX5_get_31 : decode cX5_get 31 = .ok (.ifCond .eq 19, 3) := by decide +kernel
theorem dX5_get_34 : decode cX5_get 34 = .ok (.aload_n 0, 1) := by decide +kernel
theorem dX5_get_35 : decode cX5_get 35 = .ok (.getfield 22, 3) := by decide +kernel
theorem dX5_get_38 : decode cX5_get 38 = .ok (.iload_n 1, 1) := by decide +kernel
theorem dX5_get_39 : decode cX5_get 39 = .ok (.aload_n 0, 1) := by decide +kernel
theorem dX5_get_40 : decode cX5_get 40 = .ok (.getfield 19, 3) := by decide +kernel
theorem dX5_get_43 : decode cX5_get 43 = .ok (.imul, 1) := by decide +kernel
theorem dX5_get_44 : decode cX5_get 44 = .ok (.iload_n 2, 1) := by decide +kernel
theorem dX5_get_45 : decode cX5_get 45 = .ok (.iadd, 1) := by decide +kernel
theorem dX5_get_46 : decode cX5_get 46 = .ok (.iaload, 1) := by decide +kernel
theorem dX5_get_47 : decode cX5_get 47 = .ok (.goto 4, 3) := by decide +kernel
theorem dX5_get_50 : decode cX5_get 50 = .ok (.iconst 0, 1) := by decide +kernel
theorem dX5_get_51 : decode cX5_get 51 = .ok (.ireturn, 1) := by decide +kernel
theorem dX5_set_0 : decode cX5_set 0 = .ok (.iload_n 1, 1) := by decide +kernel
theorem dX5_set_1 : decode cX5_set 1 = .ok (.ifCond .lt 37, 3) := by decide +kernel
theorem dX5_set_4 : decode cX5_set 4 = .ok (.iload_n 1, 1) := by decide +kernel
theorem dX5_set_5 : decode cX5_set 5 = .ok (.aload_n 0, 1) := by decide +kernel
theorem dX5_set_6 : decode cX5_set 6 = .ok (.getfield 13, 3) := by decide +kernel
theorem dX5_set_9 : decode cX5_set 9 = .ok (.if_icmp .ge 29, 3) := by decide +kernel
theorem dX5_set_12 : decode cX5_set 12 = .ok (.iload_n 2, 1) := by decide +kernel
theorem dX5_set_13 : decode cX5_set 13 = .ok (.ifCond .lt 25, 3) := by decide +kernel
theorem dX5_set_16 : decode cX5_set 16 = .ok (.iload_n 2, 1) := by decide +kernel
theorem dX5_set_17 : decode cX5_set 17 = .ok (.aload_n 0, 1) := by decide +kernel
theorem dX5_set_18 : decode cX5_set 18 = .ok (.getfield 19, 3) := by decide +kernel
theorem dX5_set_21 : decode cX5_set 21 = .ok (.if_icmp .ge 17, 3) := by decide +kernel
theorem dX5_set_24 : decode cX5_set 24 = .ok (.aload_n 0, 1) := by decide +kernel
theorem dX5_set_25 : decode cX5_set 25 = .ok (.getfield 22, 3) := by decide +kernel
theorem dX5_set_28 : decode cX5_set 28 = .ok (.iload_n 1, 1) := by decide +kernel
theorem dX5_set_29 : decode cX5_set 29 = .ok (.aload_n 0, 1) := by decide +kernel
theorem dX5_set_30 : decode cX5_set 30 = .ok (.getfield 19, 3) := by decide +kernel
theorem dX5_set_33 : decode cX5_set 33 = .ok (.imul, 1) := by decide +kernel
theorem dX5_set_34 : decode cX5_set 34 = .ok (.iload_n 2, 1) := by decide +kernel
theorem dX5_set_35 : decode cX5_set 35 = .ok (.iadd, 1) := by decide +kernel
theorem dX5_set_36 : decode cX5_set 36 = .ok (.iload_n 3, 1) := by decide +kernel
theorem dX5_set_37 : decode cX5_set 37 = .ok (.iastore, 1) := by decide +kernel
theorem dX5_set_38 : decode cX5_set 38 = .ok (.return_, 1) := by decide +kernel
theorem dX5_add_0 : decode cX5_add 0 = .ok (.aload_n 0, 1) := by decide +kernel
theorem dX5_add_1 : decode cX5_add 1 = .ok (.getfield 26, 3) := by decide +kernel
theorem dX5_add_4 : decode cX5_add 4 = .ok (.aload_n 0, 1) := by decide +kernel
theorem dX5_add_5 : decode cX5_add 5 = .ok (.getfield 13, 3) := by decide +kernel
theorem dX5_add_8 : decode cX5_add 8 = .ok (.if_icmp .lt 5, 3) := by decide +kernel
theorem dX5_add_11 : decode cX5_add 11 = .ok (.iconst 0, 1) := by decide +kernel
theorem dX5_add_12 : decode cX5_add 12 = .ok (.ireturn, 1) := by decide +kernel
theorem dX5_add_13 : decode cX5_add 13 = .ok (.aload_n 0, 1) := by decide +kernel
theorem dX5_add_14 : decode cX5_add 14 = .ok (.aload_n 0, 1) := by decide +kernel
theorem dX5_add_15 : decode cX5_add 15 = .ok (.getfield 26, 3) := by decide +kernel
theorem dX5_add_18 : decode cX5_add 18 = .ok (.iconst 0, 1) := by decide +kernel
theorem dX5_add_19 : decode cX5_add 19 = .ok (.iload_n 1, 1) := by decide +kernel
theorem dX5_add_20 : decode cX5_add 20 = .ok (.invokevirtual 29, 3) := by decide +kernel
theorem dX5_add_23 : decode cX5_add 23 = .ok (.aload_n 0, 1) := by decide +kernel
theorem dX5_add_24 : decode cX5_add 24 = .ok (.aload_n 0, 1) := by decide +kernel
theorem dX5_add_25 : decode cX5_add 25 = .ok (.getfield 26, 3) := by decide +kernel
theorem dX5_add_28 : decode cX5_add 28 = .ok (.iconst 1, 1) := by decide +kernel
theorem dX5_add_29 : decode cX5_add 29 = .ok (.iload_n 2, 1) := by decide +kernel
theorem dX5_add_30 : decode cX5_add 30 = .ok (.invokevirtual 29, 3) := by decide +kernel
theorem dX5_add_33 : decode cX5_add 33 = .ok (.aload_n 0, 1) := by decide +kernel
theorem dX5_add_34 : decode cX5_add 34 = .ok (.aload_n 0, 1) := by decide +kernel
theorem dX5_add_35 : decode cX5_add 35 = .ok (.getfield 26, 3) := by decide +kernel
theorem dX5_add_38 : decode cX5_add 38 = .ok (.iconst 2, 1) := by decide +kernel
theorem dX5_add_39 : decode cX5_add 39 = .ok (.iload_n 3, 1) := by decide +kernel
theorem dX5_add_40 : decode cX5_add 40 = .ok (.invokevirtual 29, 3) := by decide +kernel
theorem dX5_add_43 : decode cX5_add 43 = .ok (.aload_n 0, 1) := by decide +kernel
theorem dX5_add_44 : decode cX5_add 44 = .ok (.aload_n 0, 1) := by decide +kernel
theorem dX5_add_45 : decode cX5_add 45 = .ok (.getfield 26, 3) := by decide +kernel
theorem dX5_add_48 : decode cX5_add 48 = .ok (.iconst 3, 1) := by decide +kernel
theorem dX5_add_49 : decode cX5_add 49 = .ok (.iload 4, 2) := by decide +kernel
theorem dX5_add_51 : decode cX5_add 51 = .ok (.invokevirtual 29, 3) := by decide +kernel
theorem dX5_add_54 : decode cX5_add 54 = .ok (.aload_n 0, 1) := by decide +kernel
theorem dX5_add_55 : decode cX5_add 55 = .ok (.dup, 1) := by decide +kernel
theorem dX5_add_56 : decode cX5_add 56 = .ok (.getfield 26, 3) := by decide +kernel
theorem dX5_add_59 : decode cX5_add 59 = .ok (.iconst 1, 1) := by decide +kernel
theorem dX5_add_60 : decode cX5_add 60 = .ok (.iadd, 1) := by decide +kernel
theorem dX5_add_61 : decode cX5_add 61 = .ok (.putfield 26, 3) := by decide +kernel
theorem dX5_add_64 : decode cX5_add 64 = .ok (.iconst 1, 1) := by decide +kernel
theorem dX5_add_65 : decode cX5_add 65 = .ok (.ireturn, 1) := by decide +kernel
theorem dX5_takeOver_0 : decode cX5_takeOver 0 = .ok (.aload_n 1, 1) := by decide +kernel
theorem dX5_takeOver_1 : decode cX5_takeOver 1 = .ok (.getfield 22, 3) := by decide +kernel
theorem dX5_takeOver_4 : decode cX5_takeOver 4 = .ok (.iconst 0, 1) := by decide +kernel
theorem dX5_takeOver_5 : decode cX5_takeOver 5 = .ok (.aload_n 0, 1) := by decide +kernel
theorem dX5_takeOver_6 : decode cX5_takeOver 6 = .ok (.getfield 22, 3) := by decide +kernel
theorem dX5_takeOver_9 : decode cX5_takeOver 9 = .ok (.iconst 0, 1) := by decide +kernel
theorem dX5_takeOver_10 : decode cX5_takeOver 10 = .ok (.aload_n 0, 1) := by decide +kernel
theorem dX5_takeOver_11 : decode cX5_takeOver 11 = .ok (.getfield 22, 3) := by decide +kernel
theorem dX5_takeOver_14 : decode cX5_takeOver 14 = .ok (.arraylength, 1) := by decide +kernel
theorem dX5_takeOver_15 : decode cX5_takeOver 15 = .ok (.aload_n 1, 1) := by decide +kernel
theorem dX5_takeOver_16 : decode cX5_takeOver 16 = .ok (.getfield 22, 3) := by decide +kernel
theorem dX5_takeOver_19 : decode cX5_takeOver 19 = .ok (.arraylength, 1) := by decide +kernel
theorem dX5_takeOver_20 : decode cX5_takeOver 20 = .ok (.invokestatic 33, 3) := by decide +kernel
theorem dX5_takeOver_23 : decode cX5_takeOver 23 = .ok (.invokestatic 36, 3) := by decide +kernel
theorem dX5_takeOver_26 : decode cX5_takeOver 26 = .ok (.aload_n 0, 1) := by decide +kernel
theorem dX5_takeOver_27 : decode cX5_takeOver 27 = .ok (.aload_n 1, 1) := by decide +kernel
theorem dX5_takeOver_28 : decode cX5_takeOver 28 = .ok (.getfield 26, 3) := by decide +kernel
theorem dX5_takeOver_31 : decode cX5_takeOver 31 = .ok (.aload_n 0, 1) := by decide +kernel
theorem dX5_takeOver_32 : decode cX5_takeOver 32 = .ok (.getfield 13, 3) := by decide +kernel
theorem dX5_takeOver_35 : decode cX5_takeOver 35 = .ok (.invokestatic 33, 3) := by decide +kernel
theorem dX5_takeOver_38 : decode cX5_takeOver 38 = .ok (.putfield 26, 3) := by decide +kernel
theorem dX5_takeOver_41 : decode cX5_takeOver 41 = .ok (.return_, 1) := by decide +kernel
theorem dX6_init_0 : decode cX6_init 0 = .ok (.aload_n 0, 1) := by decide +kernel
theorem dX6_init_1 : decode cX6_init 1 = .ok (.invokespecial 3, 3) := by decide +kernel
theorem dX6_init_4 : decode cX6_init 4 = .ok (.aload_n 0, 1) := by decide +kernel
theorem dX6_init_5 : decode cX6_init 5 = .ok (.sipush 300, 3) := by decide +kernel
theorem dX6_init_8 : decode cX6_init 8 = .ok (.newarray .int, 2) := by decide +kernel
theorem dX6_init_10 : decode cX6_init 10 = .ok (.putfield 9, 3) := by decide +kernel
theorem dX6_init_13 : decode cX6_init 13 = .ok (.aload_n 0, 1) := by decide +kernel
theorem dX6_init_14 : decode cX6_init 14 = .ok (.iconst 0, 1) := by decide +kernel
theorem dX6_init_15 : decode cX6_init 15 = .ok (.putfield 15, 3) := by decide +kernel
theorem dX6_init_18 : decode cX6_init 18 = .ok (.return_, 1) := by decide +kernel
theorem dX6_append_0 : decode cX6_append 0 = .ok (.aload_n 0, 1) := by decide +kernel
theorem dX6_append_1 : decode cX6_append 1 = .ok (.getfield 15, 3) := by decide +kernel
theorem dX6_append_4 : decode cX6_append 4 = .ok (.sipush 300, 3) := by decide +kernel
theorem dX6_append_7 : decode cX6_append 7 = .ok (.if_icmp .ge 25, 3) := by decide +kernel
theorem dX6_append_10 : decode cX6_append 10 = .ok (.aload_n 0, 1) := by decide +kernel
theorem dX6_append_11 : decode cX6_append 11 = .ok (.getfield 9, 3) := by decide +kernel
theorem dX6_append_14 : decode cX6_append 14 = .ok (.aload_n 0, 1) := by decide +kernel
theorem dX6_append_15 : decode cX6_append 15 = .ok (.getfield 15, 3) := by decide +kernel
theorem dX6_append_18 : decode cX6_append 18 = .ok (.iload_n 1, 1) := by decide +kernel
theorem dX6_append_19 : decode cX6_append 19 = .ok (.invokestatic 19, 3) := by decide +kernel
theorem dX6_append_22 : decode cX6_append 22 = .ok (.aload_n 0, 1) := by decide +kernel
theorem dX6_append_23 : decode cX6_append 23 = .ok (.dup, 1) := by decide +kernel
theorem dX6_append_24 : decode cX6_append 24 = .ok (.getfield 15, 3) := by decide +kernel
theorem dX6_append_27 : decode cX6_append 27 = .ok (.iconst 1, 1) := by decide +kernel
theorem dX6_append_28 : decode cX6_append 28 = .ok (.iadd, 1) := by decide +kernel
theorem dX6_append_29 : decode cX6_append 29 = .ok (.putfield 15, 3) := by decide +kernel
theorem dX6_append_32 : decode cX6_append 32 = .ok (.return_, 1) := by decide +kernel
theorem dX6_signAt_0 : decode cX6_signAt 0 = .ok (.iload_n 1, 1) := by decide +kernel
theorem dX6_signAt_1 : decode cX6_signAt 1 = .ok (.ifCond .lt 22, 3) := by decide +kernel
theorem dX6_signAt_4 : decode cX6_signAt 4 = .ok (.iload_n 1, 1) := by decide +kernel
theorem dX6_signAt_5 : decode cX6_signAt 5 = .ok (.aload_n 0, 1) := by decide +kernel
theorem dX6_signAt_6 : decode cX6_signAt 6 = .ok (.getfield 15, 3) := by decide +kernel
theorem dX6_signAt_9 : decode cX6_signAt 9 = .ok (.if_icmp .ge 14, 3) := by decide +kernel
theorem dX6_signAt_12 : decode cX6_signAt 12 = .ok (.aload_n 0, 1) := by decide +kernel
theorem dX6_signAt_13 : decode cX6_signAt 13 = .ok (.getfield 9, 3) := by decide +kernel
theorem dX6_signAt_16 : decode cX6_signAt 16 = .ok (.iload_n 1, 1) := by decide +kernel
theorem dX6_signAt_17 : decode cX6_signAt 17 = .ok (.invokestatic 23, 3) := by decide +kernel
theorem dX6_signAt_20 : decode cX6_signAt 20 = .ok (.goto 4, 3) := by decide +kernel
theorem dX6_signAt_23 : decode cX6_signAt 23 = .ok (.iconst (-1), 1) := by decide +kernel
theorem dX6_signAt_24 : decode cX6_signAt 24 = .ok (.ireturn, 1) := by decide +kernel
theorem dX7_init_0 : decode cX7_init 0 = .ok (.aload_n 0, 1) := by decide +kernel
theorem dX7_init_1 : decode cX7_init 1 = .ok (.invokespecial 3, 3) := by decide +kernel
theorem dX7_init_4 : decode cX7_init 4 = .ok (.aload_n 0, 1) := by decide +kernel
theorem dX7_init_5 : decode cX7_init 5 = .ok (.bipush 24, 2) := by decide +kernel
theorem dX7_init_7 : decode cX7_init 7 = .ok (.newarray .int, 2) := by decide +kernel
theorem dX7_init_9 : decode cX7_init 9 = .ok (.putfield 9, 3) := by decide +kernel
theorem dX7_init_12 : decode cX7_init 12 = .ok (.return_, 1) := by decide +kernel
theorem dX7_reach_0 : decode cX7_reach 0 = .ok (.iconst 0, 1) := by decide +kernel
theorem dX7_reach_1 : decode cX7_reach 1 = .ok (.istore_n 2, 1) := by decide +kernel
theorem dX7_reach_2 : decode cX7_reach 2 = .ok (.iload_n 2, 1) := by decide +kernel
theorem dX7_reach_3 : decode cX7_reach 3 = .ok (.bipush 24, 2) := by decide +kernel
theorem dX7_reach_5 : decode cX7_reach 5 = .ok (.if_icmp .ge 28, 3) := by decide +kernel
theorem dX7_reach_8 : decode cX7_reach 8 = .ok (.aload_n 0, 1) := by decide +kernel
theorem dX7_reach_9 : decode cX7_reach 9 = .ok (.getfield 9, 3) := by decide +kernel
theorem dX7_reach_12 : decode cX7_reach 12 = .ok (.iload_n 2, 1) := by decide +kernel
theorem dX7_reach_13 : decode cX7_reach 13 = .ok (.iload_n 2, 1) := by decide +kernel
theorem dX7_reach_14 : decode cX7_reach 14 = .ok (.ifCond .ne 7, 3) := by decide +kernel
theorem dX7_reach_17 : decode cX7_reach 17 = .ok (.iconst 0, 1) := by decide +kernel
theorem dX7_reach_18 : decode cX7_reach 18 = .ok (.goto 6, 3) := by decide +kernel
theorem dX7_reach_21 : decode cX7_reach 21 = .ok (.sipush 1000, 3) := by decide +kernel
theorem dX7_reach_24 : decode cX7_reach 24 = .ok (.invokestatic 15, 3) := by decide +kernel
theorem dX7_reach_27 : decode cX7_reach 27 = .ok (.iinc 2 1, 3) := by decide +kernel
theorem dX7_reach_30 : decode cX7_reach 30 = .ok (.goto (-28), 3) := by decide +kernel
theorem dX7_reach_33 : decode cX7_reach 33 = .ok (.iconst 0, 1) := by decide +kernel
theorem dX7_reach_34 : decode cX7_reach 34 = .ok (.istore_n 2, 1) := by decide +kernel
theorem dX7_reach_35 : decode cX7_reach 35 = .ok (.iload_n 2, 1) := by decide +kernel
theorem dX7_reach_36 : decode cX7_reach 36 = .ok (.bipush 24, 2) := by decide +kernel
theorem dX7_reach_38 : decode cX7_reach 38 = .ok (.if_icmp .ge 44, 3) := by decide +kernel
theorem dX7_reach_41 : decode cX7_reach 41 = .ok (.iconst 0, 1) := by decide +kernel
theorem dX7_reach_42 : decode cX7_reach 42 = .ok (.istore_n 3, 1) := by decide +kernel
theorem dX7_reach_43 : decode cX7_reach 43 = .ok (.iload_n 3, 1) := by decide +kernel
theorem dX7_reach_44 : decode cX7_reach 44 = .ok (.bipush 24, 2) := by decide +kernel
theorem dX7_reach_46 : decode cX7_reach 46 = .ok (.if_icmp .ge 30, 3) := by decide +kernel
theorem dX7_reach_49 : decode cX7_reach 49 = .ok (.aload_n 0, 1) := by decide +kernel
theorem dX7_reach_50 : decode cX7_reach 50 = .ok (.getfield 9, 3) := by decide +kernel
theorem dX7_reach_53 : decode cX7_reach 53 = .ok (.iload_n 3, 1) := by decide +kernel
theorem dX7_reach_54 : decode cX7_reach 54 = .ok (.invokestatic 19, 3) := by decide +kernel
theorem dX7_reach_57 : decode cX7_reach 57 = .ok (.iload_n 2, 1) := by decide +kernel
theorem dX7_reach_58 : decode cX7_reach 58 = .ok (.if_icmp .ne 12, 3) := by decide +kernel
theorem dX7_reach_61 : decode cX7_reach 61 = .ok (.aload_n 0, 1) := by decide +kernel
theorem dX7_reach_62 : decode cX7_reach 62 = .ok (.iload_n 3, 1) := by decide +kernel
theorem dX7_reach_63 : decode cX7_reach 63 = .ok (.iload_n 1, 1) := by decide +kernel
theorem dX7_reach_64 : decode cX7_reach 64 = .ok (.iload_n 2, 1) := by decide +kernel
theorem dX7_reach_65 : decode cX7_reach 65 = .ok (.iconst 1, 1) := by decide +kernel
theorem dX7_reach_66 : decode cX7_reach 66 = .ok (.iadd, 1) := by decide +kernel
theorem dX7_reach_67 : decode cX7_reach 67 = .ok (.invokevirtual 23, 3) := by decide +kernel
theorem dX7_reach_70 : decode cX7_reach 70 = .ok (.iinc 3 1, 3) := by decide +kernel
theorem dX7_reach_73 : decode cX7_reach 73 = .ok (.goto (-30), 3) := by decide +kernel
theorem dX7_reach_76 : decode cX7_reach 76 = .ok (.iinc 2 1, 3) := by decide +kernel
theorem dX7_reach_79 : decode cX7_reach 79 = .ok (.goto (-44), 3) := by decide +kernel
theorem dX7_reach_82 : decode cX7_reach 82 = .ok (.return_, 1) := by decide +kernel
theorem dX7_goOn_0 : decode cX7_goOn 0 = .ok (.iconst 1, 1) := by decide +kernel
theorem dX7_goOn_1 : decode cX7_goOn 1 = .ok (.istore 4, 2) := by decide +kernel
theorem dX7_goOn_3 : decode cX7_goOn 3 = .ok (.iload 4, 2) := by decide +kernel
theorem dX7_goOn_5 : decode cX7_goOn 5 = .ok (.bipush 6, 2) := by decide +kernel
theorem dX7_goOn_7 : decode cX7_goOn 7 = .ok (.if_icmp .gt 52, 3) := by decide +kernel
theorem dX7_goOn_10 : decode cX7_goOn 10 = .ok (.iload_n 1, 1) := by decide +kernel
theorem dX7_goOn_11 : decode cX7_goOn 11 = .ok (.iload 4, 2) := by decide +kernel
theorem dX7_goOn_13 : decode cX7_goOn 13 = .ok (.iadd, 1) := by decide +kernel
theorem dX7_goOn_14 : decode cX7_goOn 14 = .ok (.bipush 24, 2) := by decide +kernel
theorem dX7_goOn_16 : decode cX7_goOn 16 = .ok (.irem, 1) := by decide +kernel
theorem dX7_goOn_17 : decode cX7_goOn 17 = .ok (.istore 5, 2) := by decide +kernel
theorem dX7_goOn_19 : decode cX7_goOn 19 = .ok (.iload 4, 2) := by decide +kernel
theorem dX7_goOn_21 : decode cX7_goOn 21 = .ok (.iload_n 2, 1) := by decide +kernel
theorem dX7_goOn_22 : decode cX7_goOn 22 = .ok (.invokestatic 27, 3) := by decide +kernel
theorem dX7_goOn_25 : decode cX7_goOn 25 = .ok (.ifCond .eq 28, 3) := by decide +kernel
theorem dX7_goOn_28 : decode cX7_goOn 28 = .ok (.aload_n 0, 1) := by decide +kernel
theorem dX7_goOn_29 : decode cX7_goOn 29 = .ok (.getfield 9, 3) := by decide +kernel
theorem dX7_goOn_32 : decode cX7_goOn 32 = .ok (.iload 5, 2) := by decide +kernel
theorem dX7_goOn_34 : decode cX7_goOn 34 = .ok (.invokestatic 19, 3) := by decide +kernel
theorem dX7_goOn_37 : decode cX7_goOn 37 = .ok (.sipush 1000, 3) := by decide +kernel
theorem dX7_goOn_40 : decode cX7_goOn 40 = .ok (.if_icmp .ne 13, 3) := by decide +kernel
theorem dX7_goOn_43 : decode cX7_goOn 43 = .ok (.aload_n 0, 1) := by decide +kernel
theorem dX7_goOn_44 : decode cX7_goOn 44 = .ok (.getfield 9, 3) := by decide +kernel
theorem dX7_goOn_47 : decode cX7_goOn 47 = .ok (.iload 5, 2) := by decide +kernel
theorem dX7_goOn_49 : decode cX7_goOn 49 = .ok (.iload_n 3, 1) := by decide +kernel
theorem dX7_goOn_50 : decode cX7_goOn 50 = .ok (.invokestatic 15, 3) := by decide +kernel
theorem dX7_goOn_53 : decode cX7_goOn 53 = .ok (.iinc 4 1, 3) := by decide +kernel
theorem dX7_goOn_56 : decode cX7_goOn 56 = .ok (.goto (-53), 3) := by decide +kernel
theorem dX7_goOn_59 : decode cX7_goOn 59 = .ok (.return_, 1) := by decide +kernel
theorem dX7_isIn_0 : decode cX7_isIn 0 = .ok (.iload_n 1, 1) := by decide +kernel
theorem dX7_isIn_1 : decode cX7_isIn 1 = .ok (.iload_n 0, 1) := by decide +kernel
theorem dX7_isIn_2 : decode cX7_isIn 2 = .ok (.iconst 1, 1) := by decide +kernel
theorem dX7_isIn_3 : decode cX7_isIn 3 = .ok (.isub, 1) := by decide +kernel
theorem dX7_isIn_4 : decode cX7_isIn 4 = .ok (.ishr, 1) := by decide +kernel
theorem dX7_isIn_5 : decode cX7_isIn 5 = .ok (.iconst 1, 1) := by decide +kernel
theorem dX7_isIn_6 : decode cX7_isIn 6 = .ok (.iand, 1) := by decide +kernel
theorem dX7_isIn_7 : decode cX7_isIn 7 = .ok (.iconst 1, 1) := by decide +kernel
theorem dX7_isIn_8 : decode cX7_isIn 8 = .ok (.if_icmp .ne 7, 3) := by decide +kernel
theorem dX7_isIn_11 : decode cX7_isIn 11 = .ok (.iconst 1, 1) := by decide +kernel
theorem dX7_isIn_12 : decode cX7_isIn 12 = .ok (.goto 4, 3) := by decide +kernel
theorem dX7_isIn_15 : decode cX7_isIn 15 = .ok (.iconst 0, 1) := by decide +kernel
theorem dX7_isIn_16 : decode cX7_isIn 16 = .ok (.ireturn, 1) := by decide +kernel
theorem dX7_fewest_0 : decode cX7_fewest 0 = .ok (.aload_n 0, 1) := by decide +kernel
theorem dX7_fewest_1 : decode cX7_fewest 1 = .ok (.getfield 9, 3) := by decide +kernel
theorem dX7_fewest_4 : decode cX7_fewest 4 = .ok (.iload_n 1, 1) := by decide +kernel
theorem dX7_fewest_5 : decode cX7_fewest 5 = .ok (.invokestatic 19, 3) := by decide +kernel
theorem dX7_fewest_8 : decode cX7_fewest 8 = .ok (.sipush 1000, 3) := by decide +kernel
theorem dX7_fewest_11 : decode cX7_fewest 11 = .ok (.if_icmp .ne 8, 3) := by decide +kernel
theorem dX7_fewest_14 : decode cX7_fewest 14 = .ok (.bipush (-4), 2) := by decide +kernel
theorem dX7_fewest_16 : decode cX7_fewest 16 = .ok (.goto 11, 3) := by decide +kernel
theorem dX7_fewest_19 : decode cX7_fewest 19 = .ok (.aload_n 0, 1) := by decide +kernel
theorem dX7_fewest_20 : decode cX7_fewest 20 = .ok (.getfield 9, 3) := by decide +kernel
theorem dX7_fewest_23 : decode cX7_fewest 23 = .ok (.iload_n 1, 1) := by decide +kernel
theorem dX7_fewest_24 : decode cX7_fewest 24 = .ok (.invokestatic 19, 3) := by decide +kernel
theorem dX7_fewest_27 : decode cX7_fewest 27 = .ok (.ireturn, 1) := by decide +kernel
theorem dX7_firstSpeed_0 : decode cX7_firstSpeed 0 = .ok (.aload_n 0, 1) := by decide +kernel
theorem dX7_firstSpeed_1 : decode cX7_firstSpeed 1 = .ok (.getfield 9, 3) := by decide +kernel
theorem dX7_firstSpeed_4 : decode cX7_firstSpeed 4 = .ok (.iload_n 1, 1) := by decide +kernel
theorem dX7_firstSpeed_5 : decode cX7_firstSpeed 5 = .ok (.invokestatic 19, 3) := by decide +kernel
theorem dX7_firstSpeed_8 : decode cX7_firstSpeed 8 = .ok (.sipush 1000, 3) := by decide +kernel
theorem dX7_firstSpeed_11 : decode cX7_firstSpeed 11 = .ok (.if_icmp .ne 6, 3) := by decide +kernel
theorem dX7_firstSpeed_14 : decode cX7_firstSpeed 14 = .ok (.bipush (-4), 2) := by decide +kernel
theorem dX7_firstSpeed_16 : decode cX7_firstSpeed 16 = .ok (.ireturn, 1) := by decide +kernel
theorem dX7_firstSpeed_17 : decode cX7_firstSpeed 17 = .ok (.iconst 1, 1) := by decide +kernel
theorem dX7_firstSpeed_18 : decode cX7_firstSpeed 18 = .ok (.istore_n 3, 1) := by decide +kernel
theorem dX7_firstSpeed_19 : decode cX7_firstSpeed 19 = .ok (.iload_n 3, 1) := by decide +kernel
theorem dX7_firstSpeed_20 : decode cX7_firstSpeed 20 = .ok (.bipush 6, 2) := by decide +kernel
theorem dX7_firstSpeed_22 : decode cX7_firstSpeed 22 = .ok (.if_icmp .gt 51, 3) := by decide +kernel
theorem dX7_firstSpeed_25 : decode cX7_firstSpeed 25 = .ok (.iload_n 1, 1) := by decide +kernel
theorem dX7_firstSpeed_26 : decode cX7_firstSpeed 26 = .ok (.iload_n 3, 1) := by decide +kernel
theorem dX7_firstSpeed_27 : decode cX7_firstSpeed 27 = .ok (.isub, 1) := by decide +kernel
theorem dX7_firstSpeed_28 : decode cX7_firstSpeed 28 = .ok (.bipush 24, 2) := by decide +kernel
theorem dX7_firstSpeed_30 : decode cX7_firstSpeed 30 = .ok (.invokestatic 31, 3) := by decide +kernel
theorem dX7_firstSpeed_33 : decode cX7_firstSpeed 33 = .ok (.istore 4, 2) := by decide +kernel
theorem dX7_firstSpeed_35 : decode cX7_firstSpeed 35 = .ok (.iload_n 3, 1) := by decide +kernel
theorem dX7_firstSpeed_36 : decode cX7_firstSpeed 36 = .ok (.iload_n 2, 1) := by decide +kernel
theorem dX7_firstSpeed_37 : decode cX7_firstSpeed 37 = .ok (.invokestatic 27, 3) := by decide +kernel
theorem dX7_firstSpeed_40 : decode cX7_firstSpeed 40 = .ok (.ifCond .eq 27, 3) := by decide +kernel
theorem dX7_firstSpeed_43 : decode cX7_firstSpeed 43 = .ok (.aload_n 0, 1) := by decide +kernel
theorem dX7_firstSpeed_44 : decode cX7_firstSpeed 44 = .ok (.getfield 9, 3) := by decide +kernel
theorem dX7_firstSpeed_47 : decode cX7_firstSpeed 47 = .ok (.iload 4, 2) := by decide +kernel
theorem dX7_firstSpeed_49 : decode cX7_firstSpeed 49 = .ok (.invokestatic 19, 3) := by decide +kernel
theorem dX7_firstSpeed_52 : decode cX7_firstSpeed 52 = .ok (.aload_n 0, 1) := by decide +kernel
theorem dX7_firstSpeed_53 : decode cX7_firstSpeed 53 = .ok (.getfield 9, 3) := by decide +kernel
theorem dX7_firstSpeed_56 : decode cX7_firstSpeed 56 = .ok (.iload_n 1, 1) := by decide +kernel
theorem dX7_firstSpeed_57 : decode cX7_firstSpeed 57 = .ok (.invokestatic 19, 3) := by decide +kernel
theorem dX7_firstSpeed_60 : decode cX7_firstSpeed 60 = .ok (.iconst 1, 1) := by decide +kernel
theorem dX7_firstSpeed_61 : decode cX7_firstSpeed 61 = .ok (.isub, 1) := by decide +kernel
theorem dX7_firstSpeed_62 : decode cX7_firstSpeed 62 = .ok (.if_icmp .ne 5, 3) := by decide +kernel
theorem dX7_firstSpeed_65 : decode cX7_firstSpeed 65 = .ok (.iload_n 3, 1) := by decide +kernel
theorem dX7_firstSpeed_66 : decode cX7_firstSpeed 66 = .ok (.ireturn, 1) := by decide +kernel
theorem dX7_firstSpeed_67 : decode cX7_firstSpeed 67 = .ok (.iinc 3 1, 3) := by decide +kernel
theorem dX7_firstSpeed_70 : decode cX7_firstSpeed 70 = .ok (.goto (-51), 3) := by decide +kernel
theorem dX7_firstSpeed_73 : decode cX7_firstSpeed 73 = .ok (.bipush (-4), 2) := by decide +kernel
theorem dX7_firstSpeed_75 : decode cX7_firstSpeed 75 = .ok (.ireturn, 1) := by decide +kernel
theorem dX8_init_0 : decode cX8_init 0 = .ok (.aload_n 0, 1) := by decide +kernel
theorem dX8_init_1 : decode cX8_init 1 = .ok (.invokespecial 1, 3) := by decide +kernel
theorem dX8_init_4 : decode cX8_init 4 = .ok (.aload_n 0, 1) := by decide +kernel
theorem dX8_init_5 : decode cX8_init 5 = .ok (.new 7, 3) := by decide +kernel
theorem dX8_init_8 : decode cX8_init 8 = .ok (.dup, 1) := by decide +kernel
theorem dX8_init_9 : decode cX8_init 9 = .ok (.invokespecial 9, 3) := by decide +kernel
theorem dX8_init_12 : decode cX8_init 12 = .ok (.putfield 10, 3) := by decide +kernel
theorem dX8_init_15 : decode cX8_init 15 = .ok (.aload_n 0, 1) := by decide +kernel
theorem dX8_init_16 : decode cX8_init 16 = .ok (.new 16, 3) := by decide +kernel
theorem dX8_init_19 : decode cX8_init 19 = .ok (.dup, 1) := by decide +kernel
theorem dX8_init_20 : decode cX8_init 20 = .ok (.invokespecial 18, 3) := by decide +kernel
theorem dX8_init_23 : decode cX8_init 23 = .ok (.putfield 19, 3) := by decide +kernel
theorem dX8_init_26 : decode cX8_init 26 = .ok (.aload_n 0, 1) := by decide +kernel
theorem dX8_init_27 : decode cX8_init 27 = .ok (.new 23, 3) := by decide +kernel
theorem dX8_init_30 : decode cX8_init 30 = .ok (.dup, 1) := by decide +kernel
theorem dX8_init_31 : decode cX8_init 31 = .ok (.invokespecial 25, 3) := by decide +kernel
theorem dX8_init_34 : decode cX8_init 34 = .ok (.putfield 26, 3) := by decide +kernel
theorem dX8_init_37 : decode cX8_init 37 = .ok (.aload_n 0, 1) := by decide +kernel
theorem dX8_init_38 : decode cX8_init 38 = .ok (.new 23, 3) := by decide +kernel
theorem dX8_init_41 : decode cX8_init 41 = .ok (.dup, 1) := by decide +kernel
theorem dX8_init_42 : decode cX8_init 42 = .ok (.invokespecial 25, 3) := by decide +kernel
theorem dX8_init_45 : decode cX8_init 45 = .ok (.putfield 30, 3) := by decide +kernel
theorem dX8_init_48 : decode cX8_init 48 = .ok (.aload_n 0, 1) := by decide +kernel
theorem dX8_init_49 : decode cX8_init 49 = .ok (.new 33, 3) := by decide +kernel
theorem dX8_init_52 : decode cX8_init 52 = .ok (.dup, 1) := by decide +kernel
theorem dX8_init_53 : decode cX8_init 53 = .ok (.invokespecial 35, 3) := by decide +kernel
theorem dX8_init_56 : decode cX8_init 56 = .ok (.putfield 36, 3) := by decide +kernel
theorem dX8_init_59 : decode cX8_init 59 = .ok (.aload_n 0, 1) := by decide +kernel
theorem dX8_init_60 : decode cX8_init 60 = .ok (.new 40, 3) := by decide +kernel
theorem dX8_init_63 : decode cX8_init 63 = .ok (.dup, 1) := by decide +kernel
theorem dX8_init_64 : decode cX8_init 64 = .ok (.invokespecial 42, 3) := by decide +kernel
theorem dX8_init_67 : decode cX8_init 67 = .ok (.putfield 43, 3) := by decide +kernel
theorem dX8_init_70 : decode cX8_init 70 = .ok (.aload_n 0, 1) := by decide +kernel
theorem dX8_init_71 : decode cX8_init 71 = .ok (.new 47, 3) := by decide +kernel
theorem dX8_init_74 : decode cX8_init 74 = .ok (.dup, 1) := by decide +kernel
theorem dX8_init_75 : decode cX8_init 75 = .ok (.invokespecial 49, 3) := by decide +kernel
theorem dX8_init_78 : decode cX8_init 78 = .ok (.putfield 50, 3) := by decide +kernel
theorem dX8_init_81 : decode cX8_init 81 = .ok (.aload_n 0, 1) := by decide +kernel
theorem dX8_init_82 : decode cX8_init 82 = .ok (.new 54, 3) := by decide +kernel
theorem dX8_init_85 : decode cX8_init 85 = .ok (.dup, 1) := by decide +kernel
theorem dX8_init_86 : decode cX8_init 86 = .ok (.invokespecial 56, 3) := by decide +kernel
theorem dX8_init_89 : decode cX8_init 89 = .ok (.putfield 57, 3) := by decide +kernel
theorem dX8_init_92 : decode cX8_init 92 = .ok (.aload_n 0, 1) := by decide +kernel
theorem dX8_init_93 : decode cX8_init 93 = .ok (.getfield 26, 3) := by decide +kernel
theorem dX8_init_96 : decode cX8_init 96 = .ok (.getfield 61, 3) := by decide +kernel
theorem dX8_init_99 : decode cX8_init 99 = .ok (.iconst 0, 1) := by decide +kernel
theorem dX8_init_100 : decode cX8_init 100 = .ok (.iconst 0, 1) := by decide +kernel
theorem dX8_init_101 : decode cX8_init 101 = .ok (.iconst 3, 1) := by decide +kernel
theorem dX8_init_102 : decode cX8_init 102 = .ok (.iconst 0, 1) := by decide +kernel
theorem dX8_init_103 : decode cX8_init 103 = .ok (.invokevirtual 65, 3) := by decide +kernel
theorem dX8_init_106 : decode cX8_init 106 = .ok (.pop, 1) := by decide +kernel
theorem dX8_init_107 : decode cX8_init 107 = .ok (.aload_n 0, 1) := by decide +kernel
theorem dX8_init_108 : decode cX8_init 108 = .ok (.getfield 26, 3) := by decide +kernel
theorem dX8_init_111 : decode cX8_init 111 = .ok (.getfield 61, 3) := by decide +kernel
theorem dX8_init_114 : decode cX8_init 114 = .ok (.iconst 1, 1) := by decide +kernel
theorem dX8_init_115 : decode cX8_init 115 = .ok (.iconst 3, 1) := by decide +kernel
theorem dX8_init_116 : decode cX8_init 116 = .ok (.iconst 3, 1) := by decide +kernel
theorem dX8_init_117 : decode cX8_init 117 = .ok (.iconst 0, 1) := by decide +kernel
theorem dX8_init_118 : decode cX8_init 118 = .ok (.invokevirtual 65, 3) := by decide +kernel
theorem dX8_init_121 : decode cX8_init 121 = .ok (.pop, 1) := by decide +kernel
theorem dX8_init_122 : decode cX8_init 122 = .ok (.aload_n 0, 1) := by decide +kernel
theorem dX8_init_123 : decode cX8_init 123 = .ok (.getfield 26, 3) := by decide +kernel
theorem dX8_init_126 : decode cX8_init 126 = .ok (.getfield 71, 3) := by decide +kernel
theorem dX8_init_129 : decode cX8_init 129 = .ok (.iconst 0, 1) := by decide +kernel
theorem dX8_init_130 : decode cX8_init 130 = .ok (.iconst 0, 1) := by decide +kernel
theorem dX8_init_131 : decode cX8_init 131 = .ok (.iconst 0, 1) := by decide +kernel
theorem dX8_init_132 : decode cX8_init 132 = .ok (.bipush 99, 2) := by decide +kernel
theorem dX8_init_134 : decode cX8_init 134 = .ok (.invokevirtual 65, 3) := by decide +kernel
theorem dX8_init_137 : decode cX8_init 137 = .ok (.pop, 1) := by decide +kernel
theorem dX8_init_138 : decode cX8_init 138 = .ok (.return_, 1) := by decide +kernel
theorem dX8_write_0 : decode cX8_write 0 = .ok (.iload_n 1, 1) := by decide +kernel
theorem dX8_write_1 : decode cX8_write 1 = .ok (.iconst 1, 1) := by decide +kernel
theorem dX8_write_2 : decode cX8_write 2 = .ok (.bipush 8, 2) := by decide +kernel
theorem dX8_write_4 : decode cX8_write 4 = .ok (.invokestatic 74, 3) := by decide +kernel
theorem dX8_write_7 : decode cX8_write 7 = .ok (.ifCond .ne 5, 3) := by decide +kernel
theorem dX8_write_10 : decode cX8_write 10 = .ok (.iconst (-1), 1) := by decide +kernel
theorem dX8_write_11 : decode cX8_write 11 = .ok (.ireturn, 1) := by decide +kernel
theorem dX8_write_12 : decode cX8_write 12 = .ok (.aload_n 0, 1) := by decide +kernel
theorem dX8_write_13 : decode cX8_write 13 = .ok (.getfield 10, 3) := by decide +kernel
theorem dX8_write_16 : decode cX8_write 16 = .ok (.getfield 78, 3) := by decide +kernel
theorem dX8_write_19 : decode cX8_write 19 = .ok (.iload_n 1, 1) := by decide +kernel
theorem dX8_write_20 : decode cX8_write 20 = .ok (.iadd, 1) := by decide +kernel
theorem dX8_write_21 : decode cX8_write 21 = .ok (.sipush 300, 3) := by decide +kernel
theorem dX8_write_24 : decode cX8_write 24 = .ok (.if_icmp .le 6, 3) := by decide +kernel
theorem dX8_write_27 : decode cX8_write 27 = .ok (.bipush (-3), 2) := by decide +kernel
theorem dX8_write_29 : decode cX8_write 29 = .ok (.ireturn, 1) := by decide +kernel
theorem dX8_write_30 : decode cX8_write 30 = .ok (.iload_n 1, 1) := by decide +kernel
theorem dX8_write_31 : decode cX8_write 31 = .ok (.iconst 1, 1) := by decide +kernel
theorem dX8_write_32 : decode cX8_write 32 = .ok (.isub, 1) := by decide +kernel
theorem dX8_write_33 : decode cX8_write 33 = .ok (.istore 4, 2) := by decide +kernel
theorem dX8_write_35 : decode cX8_write 35 = .ok (.iload 4, 2) := by decide +kernel
theorem dX8_write_37 : decode cX8_write 37 = .ok (.ifCond .lt 28, 3) := by decide +kernel
theorem dX8_write_40 : decode cX8_write 40 = .ok (.aload_n 0, 1) := by decide +kernel
theorem dX8_write_41 : decode cX8_write 41 = .ok (.getfield 10, 3) := by decide +kernel
theorem dX8_write_44 : decode cX8_write 44 = .ok (.lload_n 2, 1) := by decide +kernel
theorem dX8_write_45 : decode cX8_write 45 = .ok (.bipush 8, 2) := by decide +kernel
theorem dX8_write_47 : decode cX8_write 47 = .ok (.iload 4, 2) := by decide +kernel
theorem dX8_write_49 : decode cX8_write 49 = .ok (.imul, 1) := by decide +kernel
theorem dX8_write_50 : decode cX8_write 50 = .ok (.lushr, 1) := by decide +kernel
theorem dX8_write_51 : decode cX8_write 51 = .ok (.l2i, 1) := by decide +kernel
theorem dX8_write_52 : decode cX8_write 52 = .ok (.sipush 255, 3) := by decide +kernel
theorem dX8_write_55 : decode cX8_write 55 = .ok (.iand, 1) := by decide +kernel
theorem dX8_write_56 : decode cX8_write 56 = .ok (.invokevirtual 82, 3) := by decide +kernel
theorem dX8_write_59 : decode cX8_write 59 = .ok (.iinc 4 (-1), 3) := by decide +kernel
theorem dX8_write_62 : decode cX8_write 62 = .ok (.goto (-27), 3) := by decide +kernel
theorem dX8_write_65 : decode cX8_write 65 = .ok (.aload_n 0, 1) := by decide +kernel
theorem dX8_write_66 : decode cX8_write 66 = .ok (.getfield 10, 3) := by decide +kernel
theorem dX8_write_69 : decode cX8_write 69 = .ok (.getfield 78, 3) := by decide +kernel
theorem dX8_write_72 : decode cX8_write 72 = .ok (.ireturn, 1) := by decide +kernel
theorem dX8_wipe_0 : decode cX8_wipe 0 = .ok (.aload_n 0, 1) := by decide +kernel
theorem dX8_wipe_1 : decode cX8_wipe 1 = .ok (.getfield 10, 3) := by decide +kernel
theorem dX8_wipe_4 : decode cX8_wipe 4 = .ok (.getfield 78, 3) := by decide +kernel
theorem dX8_wipe_7 : decode cX8_wipe 7 = .ok (.istore_n 1, 1) := by decide +kernel
theorem dX8_wipe_8 : decode cX8_wipe 8 = .ok (.aload_n 0, 1) := by decide +kernel
theorem dX8_wipe_9 : decode cX8_wipe 9 = .ok (.getfield 10, 3) := by decide +kernel
theorem dX8_wipe_12 : decode cX8_wipe 12 = .ok (.iconst 0, 1) := by decide +kernel
theorem dX8_wipe_13 : decode cX8_wipe 13 = .ok (.putfield 78, 3) := by decide +kernel
theorem dX8_wipe_16 : decode cX8_wipe 16 = .ok (.iload_n 1, 1) := by decide +kernel
theorem dX8_wipe_17 : decode cX8_wipe 17 = .ok (.ireturn, 1) := by decide +kernel
theorem dX8_fault_0 : decode cX8_fault 0 = .ok (.aload_n 0, 1) := by decide +kernel
theorem dX8_fault_1 : decode cX8_fault 1 = .ok (.getfield 19, 3) := by decide +kernel
theorem dX8_fault_4 : decode cX8_fault 4 = .ok (.aload_n 0, 1) := by decide +kernel
theorem dX8_fault_5 : decode cX8_fault 5 = .ok (.getfield 10, 3) := by decide +kernel
theorem dX8_fault_8 : decode cX8_fault 8 = .ok (.aload_n 0, 1) := by decide +kernel
theorem dX8_fault_9 : decode cX8_fault 9 = .ok (.getfield 30, 3) := by decide +kernel
theorem dX8_fault_12 : decode cX8_fault 12 = .ok (.invokevirtual 86, 3) := by decide +kernel
theorem dX8_fault_15 : decode cX8_fault 15 = .ok (.ireturn, 1) := by decide +kernel
theorem dX8_lay_0 : decode cX8_lay 0 = .ok (.aload_n 0, 1) := by decide +kernel
theorem dX8_lay_1 : decode cX8_lay 1 = .ok (.getfield 19, 3) := by decide +kernel
theorem dX8_lay_4 : decode cX8_lay 4 = .ok (.aload_n 0, 1) := by decide +kernel
theorem dX8_lay_5 : decode cX8_lay 5 = .ok (.getfield 10, 3) := by decide +kernel
theorem dX8_lay_8 : decode cX8_lay 8 = .ok (.aload_n 0, 1) := by decide +kernel
theorem dX8_lay_9 : decode cX8_lay 9 = .ok (.getfield 30, 3) := by decide +kernel
theorem dX8_lay_12 : decode cX8_lay 12 = .ok (.invokevirtual 86, 3) := by decide +kernel
theorem dX8_lay_15 : decode cX8_lay 15 = .ok (.bipush (-4), 2) := by decide +kernel
theorem dX8_lay_17 : decode cX8_lay 17 = .ok (.if_icmp .ne 16, 3) := by decide +kernel
theorem dX8_lay_20 : decode cX8_lay 20 = .ok (.aload_n 0, 1) := by decide +kernel
theorem dX8_lay_21 : decode cX8_lay 21 = .ok (.getfield 30, 3) := by decide +kernel
theorem dX8_lay_24 : decode cX8_lay 24 = .ok (.getfield 61, 3) := by decide +kernel
theorem dX8_lay_27 : decode cX8_lay 27 = .ok (.invokevirtual 90, 3) := by decide +kernel
theorem dX8_lay_30 : decode cX8_lay 30 = .ok (.ifCond .ne 6, 3) := by decide +kernel
theorem dX8_lay_33 : decode cX8_lay 33 = .ok (.bipush (-2), 2) := by decide +kernel
theorem dX8_lay_35 : decode cX8_lay 35 = .ok (.ireturn, 1) := by decide +kernel
theorem dX8_lay_36 : decode cX8_lay 36 = .ok (.aload_n 0, 1) := by decide +kernel
theorem dX8_lay_37 : decode cX8_lay 37 = .ok (.getfield 26, 3) := by decide +kernel
theorem dX8_lay_40 : decode cX8_lay 40 = .ok (.aload_n 0, 1) := by decide +kernel
theorem dX8_lay_41 : decode cX8_lay 41 = .ok (.getfield 30, 3) := by decide +kernel
theorem dX8_lay_44 : decode cX8_lay 44 = .ok (.invokevirtual 94, 3) := by decide +kernel
theorem dX8_lay_47 : decode cX8_lay 47 = .ok (.aload_n 0, 1) := by decide +kernel
theorem dX8_lay_48 : decode cX8_lay 48 = .ok (.getfield 43, 3) := by decide +kernel
theorem dX8_lay_51 : decode cX8_lay 51 = .ok (.invokevirtual 98, 3) := by decide +kernel
theorem dX8_lay_54 : decode cX8_lay 54 = .ok (.aload_n 0, 1) := by decide +kernel
theorem dX8_lay_55 : decode cX8_lay 55 = .ok (.getfield 50, 3) := by decide +kernel
theorem dX8_lay_58 : decode cX8_lay 58 = .ok (.invokevirtual 101, 3) := by decide +kernel
theorem dX8_lay_61 : decode cX8_lay 61 = .ok (.aload_n 0, 1) := by decide +kernel
theorem dX8_lay_62 : decode cX8_lay 62 = .ok (.getfield 26, 3) := by decide +kernel
theorem dX8_lay_65 : decode cX8_lay 65 = .ok (.getfield 61, 3) := by decide +kernel
theorem dX8_lay_68 : decode cX8_lay 68 = .ok (.invokevirtual 90, 3) := by decide +kernel
theorem dX8_lay_71 : decode cX8_lay 71 = .ok (.ireturn, 1) := by decide +kernel
theorem dX8_load_0 : decode cX8_load 0 = .ok (.aload_n 0, 1) := by decide +kernel
theorem dX8_load_1 : decode cX8_load 1 = .ok (.getfield 26, 3) := by decide +kernel
theorem dX8_load_4 : decode cX8_load 4 = .ok (.getfield 61, 3) := by decide +kernel
theorem dX8_load_7 : decode cX8_load 7 = .ok (.iload_n 1, 1) := by decide +kernel
theorem dX8_load_8 : decode cX8_load 8 = .ok (.invokevirtual 102, 3) := by decide +kernel
theorem dX8_load_11 : decode cX8_load 11 = .ok (.ifCond .eq 13, 3) := by decide +kernel
theorem dX8_load_14 : decode cX8_load 14 = .ok (.iload_n 2, 1) := by decide +kernel
theorem dX8_load_15 : decode cX8_load 15 = .ok (.iconst 0, 1) := by decide +kernel
theorem dX8_load_16 : decode cX8_load 16 = .ok (.bipush 8, 2) := by decide +kernel
theorem dX8_load_18 : decode cX8_load 18 = .ok (.invokestatic 74, 3) := by decide +kernel
theorem dX8_load_21 : decode cX8_load 21 = .ok (.ifCond .ne 5, 3) := by decide +kernel
theorem dX8_load_24 : decode cX8_load 24 = .ok (.iconst (-1), 1) := by decide +kernel
theorem dX8_load_25 : decode cX8_load 25 = .ok (.ireturn, 1) := by decide +kernel
theorem dX8_load_26 : decode cX8_load 26 = .ok (.aload_n 0, 1) := by decide +kernel
theorem dX8_load_27 : decode cX8_load 27 = .ok (.getfield 36, 3) := by decide +kernel
theorem dX8_load_30 : decode cX8_load 30 = .ok (.aload_n 0, 1) := by decide +kernel
theorem dX8_load_31 : decode cX8_load 31 = .ok (.getfield 26, 3) := by decide +kernel
theorem dX8_load_34 : decode cX8_load 34 = .ok (.iconst 0, 1) := by decide +kernel
theorem dX8_load_35 : decode cX8_load 35 = .ok (.invokevirtual 106, 3) := by decide +kernel
theorem dX8_load_38 : decode cX8_load 38 = .ok (.aload_n 0, 1) := by decide +kernel
theorem dX8_load_39 : decode cX8_load 39 = .ok (.getfield 36, 3) := by decide +kernel
theorem dX8_load_42 : decode cX8_load 42 = .ok (.iload_n 1, 1) := by decide +kernel
theorem dX8_load_43 : decode cX8_load 43 = .ok (.iload_n 2, 1) := by decide +kernel
theorem dX8_load_44 : decode cX8_load 44 = .ok (.invokevirtual 110, 3) := by decide +kernel
theorem dX8_load_47 : decode cX8_load 47 = .ok (.ireturn, 1) := by decide +kernel
theorem dX8_far_0 : decode cX8_far 0 = .ok (.aload_n 0, 1) := by decide +kernel
theorem dX8_far_1 : decode cX8_far 1 = .ok (.getfield 26, 3) := by decide +kernel
theorem dX8_far_4 : decode cX8_far 4 = .ok (.getfield 61, 3) := by decide +kernel
theorem dX8_far_7 : decode cX8_far 7 = .ok (.iload_n 1, 1) := by decide +kernel
theorem dX8_far_8 : decode cX8_far 8 = .ok (.invokevirtual 102, 3) := by decide +kernel
theorem dX8_far_11 : decode cX8_far 11 = .ok (.ifCond .eq 13, 3) := by decide +kernel
theorem dX8_far_14 : decode cX8_far 14 = .ok (.iload_n 2, 1) := by decide +kernel
theorem dX8_far_15 : decode cX8_far 15 = .ok (.iconst 0, 1) := by decide +kernel
theorem dX8_far_16 : decode cX8_far 16 = .ok (.bipush 99, 2) := by decide +kernel
theorem dX8_far_18 : decode cX8_far 18 = .ok (.invokestatic 74, 3) := by decide +kernel
theorem dX8_far_21 : decode cX8_far 21 = .ok (.ifCond .ne 5, 3) := by decide +kernel
theorem dX8_far_24 : decode cX8_far 24 = .ok (.iconst (-1), 1) := by decide +kernel
theorem dX8_far_25 : decode cX8_far 25 = .ok (.ireturn, 1) := by decide +kernel
theorem dX8_far_26 : decode cX8_far 26 = .ok (.aload_n 0, 1) := by decide +kernel
theorem dX8_far_27 : decode cX8_far 27 = .ok (.getfield 36, 3) := by decide +kernel
theorem dX8_far_30 : decode cX8_far 30 = .ok (.aload_n 0, 1) := by decide +kernel
theorem dX8_far_31 : decode cX8_far 31 = .ok (.getfield 26, 3) := by decide +kernel
theorem dX8_far_34 : decode cX8_far 34 = .ok (.iconst 0, 1) := by decide +kernel
theorem dX8_far_35 : decode cX8_far 35 = .ok (.invokevirtual 106, 3) := by decide +kernel
theorem dX8_far_38 : decode cX8_far 38 = .ok (.aload_n 0, 1) := by decide +kernel
theorem dX8_far_39 : decode cX8_far 39 = .ok (.getfield 36, 3) := by decide +kernel
theorem dX8_far_42 : decode cX8_far 42 = .ok (.iload_n 1, 1) := by decide +kernel
theorem dX8_far_43 : decode cX8_far 43 = .ok (.iload_n 2, 1) := by decide +kernel
theorem dX8_far_44 : decode cX8_far 44 = .ok (.invokevirtual 114, 3) := by decide +kernel
theorem dX8_far_47 : decode cX8_far 47 = .ok (.ireturn, 1) := by decide +kernel
theorem dX8_rock_0 : decode cX8_rock 0 = .ok (.iload_n 1, 1) := by decide +kernel
theorem dX8_rock_1 : decode cX8_rock 1 = .ok (.iconst 0, 1) := by decide +kernel
theorem dX8_rock_2 : decode cX8_rock 2 = .ok (.bipush 99, 2) := by decide +kernel
theorem dX8_rock_4 : decode cX8_rock 4 = .ok (.invokestatic 74, 3) := by decide +kernel
theorem dX8_rock_7 : decode cX8_rock 7 = .ok (.ifCond .ne 5, 3) := by decide +kernel
theorem dX8_rock_10 : decode cX8_rock 10 = .ok (.iconst (-1), 1) := by decide +kernel
theorem dX8_rock_11 : decode cX8_rock 11 = .ok (.ireturn, 1) := by decide +kernel
theorem dX8_rock_12 : decode cX8_rock 12 = .ok (.aload_n 0, 1) := by decide +kernel
theorem dX8_rock_13 : decode cX8_rock 13 = .ok (.getfield 36, 3) := by decide +kernel
theorem dX8_rock_16 : decode cX8_rock 16 = .ok (.aload_n 0, 1) := by decide +kernel
theorem dX8_rock_17 : decode cX8_rock 17 = .ok (.getfield 26, 3) := by decide +kernel
theorem dX8_rock_20 : decode cX8_rock 20 = .ok (.iconst 0, 1) := by decide +kernel
theorem dX8_rock_21 : decode cX8_rock 21 = .ok (.invokevirtual 106, 3) := by decide +kernel
theorem dX8_rock_24 : decode cX8_rock 24 = .ok (.aload_n 0, 1) := by decide +kernel
theorem dX8_rock_25 : decode cX8_rock 25 = .ok (.getfield 36, 3) := by decide +kernel
theorem dX8_rock_28 : decode cX8_rock 28 = .ok (.iload_n 1, 1) := by decide +kernel
theorem dX8_rock_29 : decode cX8_rock 29 = .ok (.invokevirtual 117, 3) := by decide +kernel
theorem dX8_rock_32 : decode cX8_rock 32 = .ok (.ireturn, 1) := by decide +kernel
theorem dX8_price_0 : decode cX8_price 0 = .ok (.iload_n 1, 1) := by decide +kernel
theorem dX8_price_1 : decode cX8_price 1 = .ok (.iconst 0, 1) := by decide +kernel
theorem dX8_price_2 : decode cX8_price 2 = .ok (.bipush 99, 2) := by decide +kernel
theorem dX8_price_4 : decode cX8_price 4 = .ok (.invokestatic 74, 3) := by decide +kernel
theorem dX8_price_7 : decode cX8_price 7 = .ok (.ifCond .eq 14, 3) := by decide +kernel
theorem dX8_price_10 : decode cX8_price 10 = .ok (.aload_n 0, 1) := by decide +kernel
theorem dX8_price_11 : decode cX8_price 11 = .ok (.getfield 26, 3) := by decide +kernel
theorem dX8_price_14 : decode cX8_price 14 = .ok (.iload_n 1, 1) := by decide +kernel
theorem dX8_price_15 : decode cX8_price 15 = .ok (.invokevirtual 121, 3) := by decide +kernel
theorem dX8_price_18 : decode cX8_price 18 = .ok (.goto 4, 3) := by decide +kernel
theorem dX8_price_21 : decode cX8_price 21 = .ok (.iconst (-1), 1) := by decide +kernel
theorem dX8_price_22 : decode cX8_price 22 = .ok (.ireturn, 1) := by decide +kernel
theorem dX8_all_0 : decode cX8_all 0 = .ok (.iload_n 1, 1) := by decide +kernel
theorem dX8_all_1 : decode cX8_all 1 = .ok (.iconst 0, 1) := by decide +kernel
theorem dX8_all_2 : decode cX8_all 2 = .ok (.iconst 3, 1) := by decide +kernel
theorem dX8_all_3 : decode cX8_all 3 = .ok (.invokestatic 74, 3) := by decide +kernel
theorem dX8_all_6 : decode cX8_all 6 = .ok (.ifCond .ne 5, 3) := by decide +kernel
theorem dX8_all_9 : decode cX8_all 9 = .ok (.iconst (-1), 1) := by decide +kernel
theorem dX8_all_10 : decode cX8_all 10 = .ok (.ireturn, 1) := by decide +kernel
theorem dX8_all_11 : decode cX8_all 11 = .ok (.aload_n 0, 1) := by decide +kernel
theorem dX8_all_12 : decode cX8_all 12 = .ok (.getfield 36, 3) := by decide +kernel
theorem dX8_all_15 : decode cX8_all 15 = .ok (.aload_n 0, 1) := by decide +kernel
theorem dX8_all_16 : decode cX8_all 16 = .ok (.getfield 26, 3) := by decide +kernel
theorem dX8_all_19 : decode cX8_all 19 = .ok (.iconst 0, 1) := by decide +kernel
theorem dX8_all_20 : decode cX8_all 20 = .ok (.invokevirtual 106, 3) := by decide +kernel
theorem dX8_all_23 : decode cX8_all 23 = .ok (.iload_n 1, 1) := by decide +kernel
theorem dX8_all_24 : decode cX8_all 24 = .ok (.iconst 3, 1) := by decide +kernel
theorem dX8_all_25 : decode cX8_all 25 = .ok (.if_icmp .ne 13, 3) := by decide +kernel
theorem dX8_all_28 : decode cX8_all 28 = .ok (.aload_n 0, 1) := by decide +kernel
theorem dX8_all_29 : decode cX8_all 29 = .ok (.getfield 36, 3) := by decide +kernel
theorem dX8_all_32 : decode cX8_all 32 = .ok (.invokevirtual 124, 3) := by decide +kernel
theorem dX8_all_35 : decode cX8_all 35 = .ok (.goto 11, 3) := by decide +kernel
theorem dX8_all_38 : decode cX8_all 38 = .ok (.aload_n 0, 1) := by decide +kernel
theorem dX8_all_39 : decode cX8_all 39 = .ok (.getfield 36, 3) := by decide +kernel
theorem dX8_all_42 : decode cX8_all 42 = .ok (.iload_n 1, 1) := by decide +kernel
theorem dX8_all_43 : decode cX8_all 43 = .ok (.invokevirtual 127, 3) := by decide +kernel
theorem dX8_all_46 : decode cX8_all 46 = .ok (.ireturn, 1) := by decide +kernel
theorem dX8_aim_0 : decode cX8_aim 0 = .ok (.aload_n 0, 1) := by decide +kernel
theorem dX8_aim_1 : decode cX8_aim 1 = .ok (.iload_n 1, 1) := by decide +kernel
theorem dX8_aim_2 : decode cX8_aim 2 = .ok (.iconst 1, 1) := by decide +kernel
theorem dX8_aim_3 : decode cX8_aim 3 = .ok (.iload_n 2, 1) := by decide +kernel
theorem dX8_aim_4 : decode cX8_aim 4 = .ok (.iload_n 2, 1) := by decide +kernel
theorem dX8_aim_5 : decode cX8_aim 5 = .ok (.iconst 0, 1) := by decide +kernel
theorem dX8_aim_6 : decode cX8_aim 6 = .ok (.bipush 23, 2) := by decide +kernel
theorem dX8_aim_8 : decode cX8_aim 8 = .ok (.invokestatic 74, 3) := by decide +kernel
theorem dX8_aim_11 : decode cX8_aim 11 = .ok (.invokevirtual 130, 3) := by decide +kernel
theorem dX8_aim_14 : decode cX8_aim 14 = .ok (.ireturn, 1) := by decide +kernel
theorem dX8_move_0 : decode cX8_move 0 = .ok (.aload_n 0, 1) := by decide +kernel
theorem dX8_move_1 : decode cX8_move 1 = .ok (.iload_n 1, 1) := by decide +kernel
theorem dX8_move_2 : decode cX8_move 2 = .ok (.iconst 0, 1) := by decide +kernel
theorem dX8_move_3 : decode cX8_move 3 = .ok (.iload_n 2, 1) := by decide +kernel
theorem dX8_move_4 : decode cX8_move 4 = .ok (.iload_n 2, 1) := by decide +kernel
theorem dX8_move_5 : decode cX8_move 5 = .ok (.iconst 0, 1) := by decide +kernel
theorem dX8_move_6 : decode cX8_move 6 = .ok (.bipush 40, 2) := by decide +kernel
theorem dX8_move_8 : decode cX8_move 8 = .ok (.invokestatic 74, 3) := by decide +kernel
theorem dX8_move_11 : decode cX8_move 11 = .ok (.invokevirtual 130, 3) := by decide +kernel
theorem dX8_move_14 : decode cX8_move 14 = .ok (.ireturn, 1) := by decide +kernel
theorem dX8_speed_0 : decode cX8_speed 0 = .ok (.aload_n 0, 1) := by decide +kernel
theorem dX8_speed_1 : decode cX8_speed 1 = .ok (.iload_n 1, 1) := by decide +kernel
theorem dX8_speed_2 : decode cX8_speed 2 = .ok (.iconst 2, 1) := by decide +kernel
theorem dX8_speed_3 : decode cX8_speed 3 = .ok (.iload_n 2, 1) := by decide +kernel
theorem dX8_speed_4 : decode cX8_speed 4 = .ok (.iload_n 2, 1) := by decide +kernel
theorem dX8_speed_5 : decode cX8_speed 5 = .ok (.iconst 1, 1) := by decide +kernel
theorem dX8_speed_6 : decode cX8_speed 6 = .ok (.bipush 6, 2) := by decide +kernel
theorem dX8_speed_8 : decode cX8_speed 8 = .ok (.invokestatic 74, 3) := by decide +kernel
theorem dX8_speed_11 : decode cX8_speed 11 = .ok (.invokevirtual 130, 3) := by decide +kernel
theorem dX8_speed_14 : decode cX8_speed 14 = .ok (.ireturn, 1) := by decide +kernel
theorem dX8_undo_0 : decode cX8_undo 0 = .ok (.aload_n 0, 1) := by decide +kernel
theorem dX8_undo_1 : decode cX8_undo 1 = .ok (.getfield 43, 3) := by decide +kernel
theorem dX8_undo_4 : decode cX8_undo 4 = .ok (.aload_n 0, 1) := by decide +kernel
theorem dX8_undo_5 : decode cX8_undo 5 = .ok (.getfield 26, 3) := by decide +kernel
theorem dX8_undo_8 : decode cX8_undo 8 = .ok (.getfield 61, 3) := by decide +kernel
theorem dX8_undo_11 : decode cX8_undo 11 = .ok (.invokevirtual 134, 3) := by decide +kernel
theorem dX8_undo_14 : decode cX8_undo 14 = .ok (.ifCond .eq 13, 3) := by decide +kernel
theorem dX8_undo_17 : decode cX8_undo 17 = .ok (.aload_n 0, 1) := by decide +kernel
theorem dX8_undo_18 : decode cX8_undo 18 = .ok (.getfield 43, 3) := by decide +kernel
theorem dX8_undo_21 : decode cX8_undo 21 = .ok (.getfield 138, 3) := by decide +kernel
theorem dX8_undo_24 : decode cX8_undo 24 = .ok (.goto 5, 3) := by decide +kernel
theorem dX8_undo_27 : decode cX8_undo 27 = .ok (.bipush (-2), 2) := by decide +kernel
theorem dX8_undo_29 : decode cX8_undo 29 = .ok (.ireturn, 1) := by decide +kernel
theorem dX8_change_0 : decode cX8_change 0 = .ok (.aload_n 0, 1) := by decide +kernel
theorem dX8_change_1 : decode cX8_change 1 = .ok (.getfield 26, 3) := by decide +kernel
theorem dX8_change_4 : decode cX8_change 4 = .ok (.getfield 61, 3) := by decide +kernel
theorem dX8_change_7 : decode cX8_change 7 = .ok (.iload_n 1, 1) := by decide +kernel
theorem dX8_change_8 : decode cX8_change 8 = .ok (.invokevirtual 102, 3) := by decide +kernel
theorem dX8_change_11 : decode cX8_change 11 = .ok (.ifCond .eq 8, 3) := by decide +kernel
theorem dX8_change_14 : decode cX8_change 14 = .ok (.iload 4, 2) := by decide +kernel
theorem dX8_change_16 : decode cX8_change 16 = .ok (.ifCond .ne 5, 3) := by decide +kernel
theorem dX8_change_19 : decode cX8_change 19 = .ok (.iconst (-1), 1) := by decide +kernel
theorem dX8_change_20 : decode cX8_change 20 = .ok (.ireturn, 1) := by decide +kernel
theorem dX8_change_21 : decode cX8_change 21 = .ok (.aload_n 0, 1) := by decide +kernel
theorem dX8_change_22 : decode cX8_change 22 = .ok (.getfield 26, 3) := by decide +kernel
theorem dX8_change_25 : decode cX8_change 25 = .ok (.getfield 61, 3) := by decide +kernel
theorem dX8_change_28 : decode cX8_change 28 = .ok (.iload_n 1, 1) := by decide +kernel
theorem dX8_change_29 : decode cX8_change 29 = .ok (.iload_n 2, 1) := by decide +kernel
theorem dX8_change_30 : decode cX8_change 30 = .ok (.invokevirtual 141, 3) := by decide +kernel
theorem dX8_change_33 : decode cX8_change 33 = .ok (.istore 5, 2) := by decide +kernel
theorem dX8_change_35 : decode cX8_change 35 = .ok (.aload_n 0, 1) := by decide +kernel
theorem dX8_change_36 : decode cX8_change 36 = .ok (.getfield 43, 3) := by decide +kernel
theorem dX8_change_39 : decode cX8_change 39 = .ok (.iload_n 1, 1) := by decide +kernel
theorem dX8_change_40 : decode cX8_change 40 = .ok (.iload_n 2, 1) := by decide +kernel
theorem dX8_change_41 : decode cX8_change 41 = .ok (.iload 5, 2) := by decide +kernel
theorem dX8_change_43 : decode cX8_change 43 = .ok (.invokevirtual 144, 3) := by decide +kernel
theorem dX8_change_46 : decode cX8_change 46 = .ok (.aload_n 0, 1) := by decide +kernel
theorem dX8_change_47 : decode cX8_change 47 = .ok (.getfield 26, 3) := by decide +kernel
theorem dX8_change_50 : decode cX8_change 50 = .ok (.getfield 61, 3) := by decide +kernel
theorem dX8_change_53 : decode cX8_change 53 = .ok (.iload_n 1, 1) := by decide +kernel
theorem dX8_change_54 : decode cX8_change 54 = .ok (.iload_n 2, 1) := by decide +kernel
theorem dX8_change_55 : decode cX8_change 55 = .ok (.iload_n 3, 1) := by decide +kernel
theorem dX8_change_56 : decode cX8_change 56 = .ok (.invokevirtual 148, 3) := by decide +kernel
theorem dX8_change_59 : decode cX8_change 59 = .ok (.iload 5, 2) := by decide +kernel
theorem dX8_change_61 : decode cX8_change 61 = .ok (.ireturn, 1) := by decide +kernel
theorem dX8_bestAim_0 : decode cX8_bestAim 0 = .ok (.aload_n 0, 1) := by decide +kernel
theorem dX8_bestAim_1 : decode cX8_bestAim 1 = .ok (.getfield 26, 3) := by decide +kernel
theorem dX8_bestAim_4 : decode cX8_bestAim 4 = .ok (.getfield 61, 3) := by decide +kernel
theorem dX8_bestAim_7 : decode cX8_bestAim 7 = .ok (.iload_n 1, 1) := by decide +kernel
theorem dX8_bestAim_8 : decode cX8_bestAim 8 = .ok (.invokevirtual 102, 3) := by decide +kernel
theorem dX8_bestAim_11 : decode cX8_bestAim 11 = .ok (.ifCond .eq 12, 3) := by decide +kernel
theorem dX8_bestAim_14 : decode cX8_bestAim 14 = .ok (.iload_n 2, 1) := by decide +kernel
theorem dX8_bestAim_15 : decode cX8_bestAim 15 = .ok (.iconst 0, 1) := by decide +kernel
theorem dX8_bestAim_16 : decode cX8_bestAim 16 = .ok (.iconst 1, 1) := by decide +kernel
theorem dX8_bestAim_17 : decode cX8_bestAim 17 = .ok (.invokestatic 74, 3) := by decide +kernel
theorem dX8_bestAim_20 : decode cX8_bestAim 20 = .ok (.ifCond .ne 5, 3) := by decide +kernel
theorem dX8_bestAim_23 : decode cX8_bestAim 23 = .ok (.iconst (-1), 1) := by decide +kernel
theorem dX8_bestAim_24 : decode cX8_bestAim 24 = .ok (.ireturn, 1) := by decide +kernel
theorem dX8_bestAim_25 : decode cX8_bestAim 25 = .ok (.iconst 0, 1) := by decide +kernel
theorem dX8_bestAim_26 : decode cX8_bestAim 26 = .ok (.istore_n 3, 1) := by decide +kernel
theorem dX8_bestAim_27 : decode cX8_bestAim 27 = .ok (.iconst (-1), 1) := by decide +kernel
theorem dX8_bestAim_28 : decode cX8_bestAim 28 = .ok (.istore 4, 2) := by decide +kernel
theorem dX8_bestAim_30 : decode cX8_bestAim 30 = .ok (.aload_n 0, 1) := by decide +kernel
theorem dX8_bestAim_31 : decode cX8_bestAim 31 = .ok (.getfield 30, 3) := by decide +kernel
theorem dX8_bestAim_34 : decode cX8_bestAim 34 = .ok (.aload_n 0, 1) := by decide +kernel
theorem dX8_bestAim_35 : decode cX8_bestAim 35 = .ok (.getfield 26, 3) := by decide +kernel
theorem dX8_bestAim_38 : decode cX8_bestAim 38 = .ok (.invokevirtual 94, 3) := by decide +kernel
theorem dX8_bestAim_41 : decode cX8_bestAim 41 = .ok (.iconst 0, 1) := by decide +kernel
theorem dX8_bestAim_42 : decode cX8_bestAim 42 = .ok (.istore 5, 2) := by decide +kernel
theorem dX8_bestAim_44 : decode cX8_bestAim 44 = .ok (.iload 5, 2) := by decide +kernel
theorem dX8_bestAim_46 : decode cX8_bestAim 46 = .ok (.bipush 24, 2) := by decide +kernel
theorem dX8_bestAim_48 : decode cX8_bestAim 48 = .ok (.if_icmp .ge 61, 3) := by decide +kernel
theorem dX8_bestAim_51 : decode cX8_bestAim 51 = .ok (.aload_n 0, 1) := by decide +kernel
theorem dX8_bestAim_52 : decode cX8_bestAim 52 = .ok (.getfield 30, 3) := by decide +kernel
theorem dX8_bestAim_55 : decode cX8_bestAim 55 = .ok (.getfield 61, 3) := by decide +kernel
theorem dX8_bestAim_58 : decode cX8_bestAim 58 = .ok (.iload_n 1, 1) := by decide +kernel
theorem dX8_bestAim_59 : decode cX8_bestAim 59 = .ok (.iconst 1, 1) := by decide +kernel
theorem dX8_bestAim_60 : decode cX8_bestAim 60 = .ok (.iload 5, 2) := by decide +kernel
theorem dX8_bestAim_62 : decode cX8_bestAim 62 = .ok (.invokevirtual 148, 3) := by decide +kernel
theorem dX8_bestAim_65 : decode cX8_bestAim 65 = .ok (.aload_n 0, 1) := by decide +kernel
theorem dX8_bestAim_66 : decode cX8_bestAim 66 = .ok (.getfield 36, 3) := by decide +kernel
theorem dX8_bestAim_69 : decode cX8_bestAim 69 = .ok (.aload_n 0, 1) := by decide +kernel
theorem dX8_bestAim_70 : decode cX8_bestAim 70 = .ok (.getfield 30, 3) := by decide +kernel
theorem dX8_bestAim_73 : decode cX8_bestAim 73 = .ok (.iconst 0, 1) := by decide +kernel
theorem dX8_bestAim_74 : decode cX8_bestAim 74 = .ok (.invokevirtual 106, 3) := by decide +kernel
theorem dX8_bestAim_77 : decode cX8_bestAim 77 = .ok (.aload_n 0, 1) := by decide +kernel
theorem dX8_bestAim_78 : decode cX8_bestAim 78 = .ok (.getfield 36, 3) := by decide +kernel
theorem dX8_bestAim_81 : decode cX8_bestAim 81 = .ok (.iconst 0, 1) := by decide +kernel
theorem dX8_bestAim_82 : decode cX8_bestAim 82 = .ok (.invokevirtual 127, 3) := by decide +kernel
theorem dX8_bestAim_85 : decode cX8_bestAim 85 = .ok (.iload 4, 2) := by decide +kernel
theorem dX8_bestAim_87 : decode cX8_bestAim 87 = .ok (.if_icmp .le 16, 3) := by decide +kernel
theorem dX8_bestAim_90 : decode cX8_bestAim 90 = .ok (.aload_n 0, 1) := by decide +kernel
theorem dX8_bestAim_91 : decode cX8_bestAim 91 = .ok (.getfield 36, 3) := by decide +kernel
theorem dX8_bestAim_94 : decode cX8_bestAim 94 = .ok (.iconst 0, 1) := by decide +kernel
theorem dX8_bestAim_95 : decode cX8_bestAim 95 = .ok (.invokevirtual 127, 3) := by decide +kernel
theorem dX8_bestAim_98 : decode cX8_bestAim 98 = .ok (.istore 4, 2) := by decide +kernel
theorem dX8_bestAim_100 : decode cX8_bestAim 100 = .ok (.iload 5, 2) := by decide +kernel
theorem dX8_bestAim_102 : decode cX8_bestAim 102 = .ok (.istore_n 3, 1) := by decide +kernel
theorem dX8_bestAim_103 : decode cX8_bestAim 103 = .ok (.iinc 5 1, 3) := by decide +kernel
theorem dX8_bestAim_106 : decode cX8_bestAim 106 = .ok (.goto (-62), 3) := by decide +kernel
theorem dX8_bestAim_109 : decode cX8_bestAim 109 = .ok (.iload_n 2, 1) := by decide +kernel
theorem dX8_bestAim_110 : decode cX8_bestAim 110 = .ok (.ifCond .ne 7, 3) := by decide +kernel
theorem dX8_bestAim_113 : decode cX8_bestAim 113 = .ok (.iload_n 3, 1) := by decide +kernel
theorem dX8_bestAim_114 : decode cX8_bestAim 114 = .ok (.goto 5, 3) := by decide +kernel
theorem dX8_bestAim_117 : decode cX8_bestAim 117 = .ok (.iload 4, 2) := by decide +kernel
theorem dX8_bestAim_119 : decode cX8_bestAim 119 = .ok (.ireturn, 1) := by decide +kernel
theorem dX8_bestDay_0 : decode cX8_bestDay 0 = .ok (.aload_n 0, 1) := by decide +kernel
theorem dX8_bestDay_1 : decode cX8_bestDay 1 = .ok (.getfield 26, 3) := by decide +kernel
theorem dX8_bestDay_4 : decode cX8_bestDay 4 = .ok (.getfield 61, 3) := by decide +kernel
theorem dX8_bestDay_7 : decode cX8_bestDay 7 = .ok (.iload_n 1, 1) := by decide +kernel
theorem dX8_bestDay_8 : decode cX8_bestDay 8 = .ok (.invokevirtual 102, 3) := by decide +kernel
theorem dX8_bestDay_11 : decode cX8_bestDay 11 = .ok (.ifCond .eq 12, 3) := by decide +kernel
theorem dX8_bestDay_14 : decode cX8_bestDay 14 = .ok (.iload_n 2, 1) := by decide +kernel
theorem dX8_bestDay_15 : decode cX8_bestDay 15 = .ok (.iconst 0, 1) := by decide +kernel
theorem dX8_bestDay_16 : decode cX8_bestDay 16 = .ok (.iconst 1, 1) := by decide +kernel
theorem dX8_bestDay_17 : decode cX8_bestDay 17 = .ok (.invokestatic 74, 3) := by decide +kernel
theorem dX8_bestDay_20 : decode cX8_bestDay 20 = .ok (.ifCond .ne 5, 3) := by decide +kernel
theorem dX8_bestDay_23 : decode cX8_bestDay 23 = .ok (.iconst (-1), 1) := by decide +kernel
theorem dX8_bestDay_24 : decode cX8_bestDay 24 = .ok (.ireturn, 1) := by decide +kernel
theorem dX8_bestDay_25 : decode cX8_bestDay 25 = .ok (.bipush (-4), 2) := by decide +kernel
theorem dX8_bestDay_27 : decode cX8_bestDay 27 = .ok (.istore_n 3, 1) := by decide +kernel
theorem dX8_bestDay_28 : decode cX8_bestDay 28 = .ok (.iconst 0, 1) := by decide +kernel
theorem dX8_bestDay_29 : decode cX8_bestDay 29 = .ok (.istore 4, 2) := by decide +kernel
theorem dX8_bestDay_31 : decode cX8_bestDay 31 = .ok (.aload_n 0, 1) := by decide +kernel
theorem dX8_bestDay_32 : decode cX8_bestDay 32 = .ok (.getfield 30, 3) := by decide +kernel
theorem dX8_bestDay_35 : decode cX8_bestDay 35 = .ok (.aload_n 0, 1) := by decide +kernel
theorem dX8_bestDay_36 : decode cX8_bestDay 36 = .ok (.getfield 26, 3) := by decide +kernel
theorem dX8_bestDay_39 : decode cX8_bestDay 39 = .ok (.invokevirtual 94, 3) := by decide +kernel
theorem dX8_bestDay_42 : decode cX8_bestDay 42 = .ok (.iconst 0, 1) := by decide +kernel
theorem dX8_bestDay_43 : decode cX8_bestDay 43 = .ok (.istore 5, 2) := by decide +kernel
theorem dX8_bestDay_45 : decode cX8_bestDay 45 = .ok (.iload 5, 2) := by decide +kernel
theorem dX8_bestDay_47 : decode cX8_bestDay 47 = .ok (.bipush 40, 2) := by decide +kernel
theorem dX8_bestDay_49 : decode cX8_bestDay 49 = .ok (.if_icmp .gt 65, 3) := by decide +kernel
theorem dX8_bestDay_52 : decode cX8_bestDay 52 = .ok (.aload_n 0, 1) := by decide +kernel
theorem dX8_bestDay_53 : decode cX8_bestDay 53 = .ok (.getfield 30, 3) := by decide +kernel
theorem dX8_bestDay_56 : decode cX8_bestDay 56 = .ok (.getfield 61, 3) := by decide +kernel
theorem dX8_bestDay_59 : decode cX8_bestDay 59 = .ok (.iload_n 1, 1) := by decide +kernel
theorem dX8_bestDay_60 : decode cX8_bestDay 60 = .ok (.iconst 0, 1) := by decide +kernel
theorem dX8_bestDay_61 : decode cX8_bestDay 61 = .ok (.iload 5, 2) := by decide +kernel
theorem dX8_bestDay_63 : decode cX8_bestDay 63 = .ok (.invokevirtual 148, 3) := by decide +kernel
theorem dX8_bestDay_66 : decode cX8_bestDay 66 = .ok (.aload_n 0, 1) := by decide +kernel
theorem dX8_bestDay_67 : decode cX8_bestDay 67 = .ok (.getfield 36, 3) := by decide +kernel
theorem dX8_bestDay_70 : decode cX8_bestDay 70 = .ok (.aload_n 0, 1) := by decide +kernel
theorem dX8_bestDay_71 : decode cX8_bestDay 71 = .ok (.getfield 30, 3) := by decide +kernel
theorem dX8_bestDay_74 : decode cX8_bestDay 74 = .ok (.iconst 0, 1) := by decide +kernel
theorem dX8_bestDay_75 : decode cX8_bestDay 75 = .ok (.invokevirtual 106, 3) := by decide +kernel
theorem dX8_bestDay_78 : decode cX8_bestDay 78 = .ok (.aload_n 0, 1) := by decide +kernel
theorem dX8_bestDay_79 : decode cX8_bestDay 79 = .ok (.getfield 36, 3) := by decide +kernel
theorem dX8_bestDay_82 : decode cX8_bestDay 82 = .ok (.iload_n 1, 1) := by decide +kernel
theorem dX8_bestDay_83 : decode cX8_bestDay 83 = .ok (.bipush 8, 2) := by decide +kernel
theorem dX8_bestDay_85 : decode cX8_bestDay 85 = .ok (.invokevirtual 110, 3) := by decide +kernel
theorem dX8_bestDay_88 : decode cX8_bestDay 88 = .ok (.iload 4, 2) := by decide +kernel
theorem dX8_bestDay_90 : decode cX8_bestDay 90 = .ok (.if_icmp .le 18, 3) := by decide +kernel
theorem dX8_bestDay_93 : decode cX8_bestDay 93 = .ok (.aload_n 0, 1) := by decide +kernel
theorem dX8_bestDay_94 : decode cX8_bestDay 94 = .ok (.getfield 36, 3) := by decide +kernel
theorem dX8_bestDay_97 : decode cX8_bestDay 97 = .ok (.iload_n 1, 1) := by decide +kernel
theorem dX8_bestDay_98 : decode cX8_bestDay 98 = .ok (.bipush 8, 2) := by decide +kernel
theorem dX8_bestDay_100 : decode cX8_bestDay 100 = .ok (.invokevirtual 110, 3) := by decide +kernel
theorem dX8_bestDay_103 : decode cX8_bestDay 103 = .ok (.istore 4, 2) := by decide +kernel
theorem dX8_bestDay_105 : decode cX8_bestDay 105 = .ok (.iload 5, 2) := by decide +kernel
theorem dX8_bestDay_107 : decode cX8_bestDay 107 = .ok (.istore_n 3, 1) := by decide +kernel
theorem dX8_bestDay_108 : decode cX8_bestDay 108 = .ok (.iinc 5 1, 3) := by decide +kernel
theorem dX8_bestDay_111 : decode cX8_bestDay 111 = .ok (.goto (-66), 3) := by decide +kernel
theorem dX8_bestDay_114 : decode cX8_bestDay 114 = .ok (.iload_n 2, 1) := by decide +kernel
theorem dX8_bestDay_115 : decode cX8_bestDay 115 = .ok (.ifCond .eq 9, 3) := by decide +kernel
theorem dX8_bestDay_118 : decode cX8_bestDay 118 = .ok (.iload_n 3, 1) := by decide +kernel
theorem dX8_bestDay_119 : decode cX8_bestDay 119 = .ok (.bipush (-4), 2) := by decide +kernel
theorem dX8_bestDay_121 : decode cX8_bestDay 121 = .ok (.if_icmp .ne 7, 3) := by decide +kernel
theorem dX8_bestDay_124 : decode cX8_bestDay 124 = .ok (.iload_n 3, 1) := by decide +kernel
theorem dX8_bestDay_125 : decode cX8_bestDay 125 = .ok (.goto 5, 3) := by decide +kernel
theorem dX8_bestDay_128 : decode cX8_bestDay 128 = .ok (.iload 4, 2) := by decide +kernel
theorem dX8_bestDay_130 : decode cX8_bestDay 130 = .ok (.ireturn, 1) := by decide +kernel
theorem dX8_net_0 : decode cX8_net 0 = .ok (.iload_n 1, 1) := by decide +kernel
theorem dX8_net_1 : decode cX8_net 1 = .ok (.iconst 0, 1) := by decide +kernel
theorem dX8_net_2 : decode cX8_net 2 = .ok (.iconst 3, 1) := by decide +kernel
theorem dX8_net_3 : decode cX8_net 3 = .ok (.invokestatic 74, 3) := by decide +kernel
theorem dX8_net_6 : decode cX8_net 6 = .ok (.ifCond .eq 12, 3) := by decide +kernel
theorem dX8_net_9 : decode cX8_net 9 = .ok (.iload_n 2, 1) := by decide +kernel
theorem dX8_net_10 : decode cX8_net 10 = .ok (.iconst 0, 1) := by decide +kernel
theorem dX8_net_11 : decode cX8_net 11 = .ok (.iconst 1, 1) := by decide +kernel
theorem dX8_net_12 : decode cX8_net 12 = .ok (.invokestatic 74, 3) := by decide +kernel
theorem dX8_net_15 : decode cX8_net 15 = .ok (.ifCond .ne 5, 3) := by decide +kernel
theorem dX8_net_18 : decode cX8_net 18 = .ok (.iconst (-1), 1) := by decide +kernel
theorem dX8_net_19 : decode cX8_net 19 = .ok (.ireturn, 1) := by decide +kernel
theorem dX8_net_20 : decode cX8_net 20 = .ok (.iconst 0, 1) := by decide +kernel
theorem dX8_net_21 : decode cX8_net 21 = .ok (.istore_n 3, 1) := by decide +kernel
theorem dX8_net_22 : decode cX8_net 22 = .ok (.iconst (-1), 1) := by decide +kernel
theorem dX8_net_23 : decode cX8_net 23 = .ok (.istore 4, 2) := by decide +kernel
theorem dX8_net_25 : decode cX8_net 25 = .ok (.aload_n 0, 1) := by decide +kernel
theorem dX8_net_26 : decode cX8_net 26 = .ok (.getfield 36, 3) := by decide +kernel
theorem dX8_net_29 : decode cX8_net 29 = .ok (.aload_n 0, 1) := by decide +kernel
theorem dX8_net_30 : decode cX8_net 30 = .ok (.getfield 26, 3) := by decide +kernel
theorem dX8_net_33 : decode cX8_net 33 = .ok (.iconst 0, 1) := by decide +kernel
theorem dX8_net_34 : decode cX8_net 34 = .ok (.invokevirtual 106, 3) := by decide +kernel
theorem dX8_net_37 : decode cX8_net 37 = .ok (.iconst 0, 1) := by decide +kernel
theorem dX8_net_38 : decode cX8_net 38 = .ok (.istore 5, 2) := by decide +kernel
theorem dX8_net_40 : decode cX8_net 40 = .ok (.iload 5, 2) := by decide +kernel
theorem dX8_net_42 : decode cX8_net 42 = .ok (.bipush 24, 2) := by decide +kernel
theorem dX8_net_44 : decode cX8_net 44 = .ok (.if_icmp .ge 35, 3) := by decide +kernel
theorem dX8_net_47 : decode cX8_net 47 = .ok (.aload_n 0, 1) := by decide +kernel
theorem dX8_net_48 : decode cX8_net 48 = .ok (.getfield 36, 3) := by decide +kernel
theorem dX8_net_51 : decode cX8_net 51 = .ok (.iload 5, 2) := by decide +kernel
theorem dX8_net_53 : decode cX8_net 53 = .ok (.iload_n 1, 1) := by decide +kernel
theorem dX8_net_54 : decode cX8_net 54 = .ok (.invokevirtual 151, 3) := by decide +kernel
theorem dX8_net_57 : decode cX8_net 57 = .ok (.istore 6, 2) := by decide +kernel
theorem dX8_net_59 : decode cX8_net 59 = .ok (.iload 6, 2) := by decide +kernel
theorem dX8_net_61 : decode cX8_net 61 = .ok (.iload 4, 2) := by decide +kernel
theorem dX8_net_63 : decode cX8_net 63 = .ok (.if_icmp .le 10, 3) := by decide +kernel
theorem dX8_net_66 : decode cX8_net 66 = .ok (.iload 6, 2) := by decide +kernel
theorem dX8_net_68 : decode cX8_net 68 = .ok (.istore 4, 2) := by decide +kernel
theorem dX8_net_70 : decode cX8_net 70 = .ok (.iload 5, 2) := by decide +kernel
theorem dX8_net_72 : decode cX8_net 72 = .ok (.istore_n 3, 1) := by decide +kernel
theorem dX8_net_73 : decode cX8_net 73 = .ok (.iinc 5 1, 3) := by decide +kernel
theorem dX8_net_76 : decode cX8_net 76 = .ok (.goto (-36), 3) := by decide +kernel
theorem dX8_net_79 : decode cX8_net 79 = .ok (.iload_n 2, 1) := by decide +kernel
theorem dX8_net_80 : decode cX8_net 80 = .ok (.ifCond .ne 7, 3) := by decide +kernel
theorem dX8_net_83 : decode cX8_net 83 = .ok (.iload_n 3, 1) := by decide +kernel
theorem dX8_net_84 : decode cX8_net 84 = .ok (.goto 5, 3) := by decide +kernel
theorem dX8_net_87 : decode cX8_net 87 = .ok (.iload 4, 2) := by decide +kernel
theorem dX8_net_89 : decode cX8_net 89 = .ok (.ireturn, 1) := by decide +kernel
theorem dX8_clear_0 : decode cX8_clear 0 = .ok (.iconst 0, 1) := by decide +kernel
theorem dX8_clear_1 : decode cX8_clear 1 = .ok (.istore_n 1, 1) := by decide +kernel
theorem dX8_clear_2 : decode cX8_clear 2 = .ok (.bipush 8, 2) := by decide +kernel
theorem dX8_clear_4 : decode cX8_clear 4 = .ok (.istore_n 2, 1) := by decide +kernel
theorem dX8_clear_5 : decode cX8_clear 5 = .ok (.iconst 1, 1) := by decide +kernel
theorem dX8_clear_6 : decode cX8_clear 6 = .ok (.aload_n 0, 1) := by decide +kernel
theorem dX8_clear_7 : decode cX8_clear 7 = .ok (.getfield 26, 3) := by decide +kernel
theorem dX8_clear_10 : decode cX8_clear 10 = .ok (.getfield 61, 3) := by decide +kernel
theorem dX8_clear_13 : decode cX8_clear 13 = .ok (.invokevirtual 90, 3) := by decide +kernel
theorem dX8_clear_16 : decode cX8_clear 16 = .ok (.bipush 7, 2) := by decide +kernel
theorem dX8_clear_18 : decode cX8_clear 18 = .ok (.invokestatic 154, 3) := by decide +kernel
theorem dX8_clear_21 : decode cX8_clear 21 = .ok (.ishl, 1) := by decide +kernel
theorem dX8_clear_22 : decode cX8_clear 22 = .ok (.istore_n 3, 1) := by decide +kernel
theorem dX8_clear_23 : decode cX8_clear 23 = .ok (.iconst 0, 1) := by decide +kernel
theorem dX8_clear_24 : decode cX8_clear 24 = .ok (.istore 4, 2) := by decide +kernel
theorem dX8_clear_26 : decode cX8_clear 26 = .ok (.iload 4, 2) := by decide +kernel
theorem dX8_clear_28 : decode cX8_clear 28 = .ok (.iload_n 3, 1) := by decide +kernel
theorem dX8_clear_29 : decode cX8_clear 29 = .ok (.if_icmp .ge 51, 3) := by decide +kernel
theorem dX8_clear_32 : decode cX8_clear 32 = .ok (.iload 4, 2) := by decide +kernel
theorem dX8_clear_34 : decode cX8_clear 34 = .ok (.invokestatic 159, 3) := by decide +kernel
theorem dX8_clear_37 : decode cX8_clear 37 = .ok (.iload_n 2, 1) := by decide +kernel
theorem dX8_clear_38 : decode cX8_clear 38 = .ok (.if_icmp .ge 36, 3) := by decide +kernel
theorem dX8_clear_41 : decode cX8_clear 41 = .ok (.aload_n 0, 1) := by decide +kernel
theorem dX8_clear_42 : decode cX8_clear 42 = .ok (.getfield 36, 3) := by decide +kernel
theorem dX8_clear_45 : decode cX8_clear 45 = .ok (.aload_n 0, 1) := by decide +kernel
theorem dX8_clear_46 : decode cX8_clear 46 = .ok (.getfield 26, 3) := by decide +kernel
theorem dX8_clear_49 : decode cX8_clear 49 = .ok (.iload 4, 2) := by decide +kernel
theorem dX8_clear_51 : decode cX8_clear 51 = .ok (.invokevirtual 106, 3) := by decide +kernel
theorem dX8_clear_54 : decode cX8_clear 54 = .ok (.aload_n 0, 1) := by decide +kernel
theorem dX8_clear_55 : decode cX8_clear 55 = .ok (.getfield 36, 3) := by decide +kernel
theorem dX8_clear_58 : decode cX8_clear 58 = .ok (.iconst 2, 1) := by decide +kernel
theorem dX8_clear_59 : decode cX8_clear 59 = .ok (.invokevirtual 127, 3) := by decide +kernel
theorem dX8_clear_62 : decode cX8_clear 62 = .ok (.ifCond .ne 12, 3) := by decide +kernel
theorem dX8_clear_65 : decode cX8_clear 65 = .ok (.iload 4, 2) := by decide +kernel
theorem dX8_clear_67 : decode cX8_clear 67 = .ok (.invokestatic 159, 3) := by decide +kernel
theorem dX8_clear_70 : decode cX8_clear 70 = .ok (.istore_n 2, 1) := by decide +kernel
theorem dX8_clear_71 : decode cX8_clear 71 = .ok (.iload 4, 2) := by decide +kernel
theorem dX8_clear_73 : decode cX8_clear 73 = .ok (.istore_n 1, 1) := by decide +kernel
theorem dX8_clear_74 : decode cX8_clear 74 = .ok (.iinc 4 1, 3) := by decide +kernel
theorem dX8_clear_77 : decode cX8_clear 77 = .ok (.goto (-51), 3) := by decide +kernel
theorem dX8_clear_80 : decode cX8_clear 80 = .ok (.iload_n 1, 1) := by decide +kernel
theorem dX8_clear_81 : decode cX8_clear 81 = .ok (.ireturn, 1) := by decide +kernel
theorem dX8_stray_0 : decode cX8_stray 0 = .ok (.iload_n 1, 1) := by decide +kernel
theorem dX8_stray_1 : decode cX8_stray 1 = .ok (.iconst 0, 1) := by decide +kernel
theorem dX8_stray_2 : decode cX8_stray 2 = .ok (.bipush 60, 2) := by decide +kernel
theorem dX8_stray_4 : decode cX8_stray 4 = .ok (.invokestatic 74, 3) := by decide +kernel
theorem dX8_stray_7 : decode cX8_stray 7 = .ok (.ifCond .eq 23, 3) := by decide +kernel
theorem dX8_stray_10 : decode cX8_stray 10 = .ok (.iload_n 2, 1) := by decide +kernel
theorem dX8_stray_11 : decode cX8_stray 11 = .ok (.iconst 0, 1) := by decide +kernel
theorem dX8_stray_12 : decode cX8_stray 12 = .ok (.bipush 23, 2) := by decide +kernel
theorem dX8_stray_14 : decode cX8_stray 14 = .ok (.invokestatic 74, 3) := by decide +kernel
theorem dX8_stray_17 : decode cX8_stray 17 = .ok (.ifCond .eq 13, 3) := by decide +kernel
theorem dX8_stray_20 : decode cX8_stray 20 = .ok (.iload_n 3, 1) := by decide +kernel
theorem dX8_stray_21 : decode cX8_stray 21 = .ok (.iconst 0, 1) := by decide +kernel
theorem dX8_stray_22 : decode cX8_stray 22 = .ok (.bipush 99, 2) := by decide +kernel
theorem dX8_stray_24 : decode cX8_stray 24 = .ok (.invokestatic 74, 3) := by decide +kernel
theorem dX8_stray_27 : decode cX8_stray 27 = .ok (.ifCond .ne 5, 3) := by decide +kernel
theorem dX8_stray_30 : decode cX8_stray 30 = .ok (.iconst (-1), 1) := by decide +kernel
theorem dX8_stray_31 : decode cX8_stray 31 = .ok (.ireturn, 1) := by decide +kernel
theorem dX8_stray_32 : decode cX8_stray 32 = .ok (.iconst 0, 1) := by decide +kernel
theorem dX8_stray_33 : decode cX8_stray 33 = .ok (.istore 4, 2) := by decide +kernel
theorem dX8_stray_35 : decode cX8_stray 35 = .ok (.aload_n 0, 1) := by decide +kernel
theorem dX8_stray_36 : decode cX8_stray 36 = .ok (.getfield 36, 3) := by decide +kernel
theorem dX8_stray_39 : decode cX8_stray 39 = .ok (.aload_n 0, 1) := by decide +kernel
theorem dX8_stray_40 : decode cX8_stray 40 = .ok (.getfield 26, 3) := by decide +kernel
theorem dX8_stray_43 : decode cX8_stray 43 = .ok (.iconst 0, 1) := by decide +kernel
theorem dX8_stray_44 : decode cX8_stray 44 = .ok (.invokevirtual 106, 3) := by decide +kernel
theorem dX8_stray_47 : decode cX8_stray 47 = .ok (.iconst 0, 1) := by decide +kernel
theorem dX8_stray_48 : decode cX8_stray 48 = .ok (.istore 5, 2) := by decide +kernel
theorem dX8_stray_50 : decode cX8_stray 50 = .ok (.iload 5, 2) := by decide +kernel
theorem dX8_stray_52 : decode cX8_stray 52 = .ok (.aload_n 0, 1) := by decide +kernel
theorem dX8_stray_53 : decode cX8_stray 53 = .ok (.getfield 26, 3) := by decide +kernel
theorem dX8_stray_56 : decode cX8_stray 56 = .ok (.getfield 61, 3) := by decide +kernel
theorem dX8_stray_59 : decode cX8_stray 59 = .ok (.invokevirtual 90, 3) := by decide +kernel
theorem dX8_stray_62 : decode cX8_stray 62 = .ok (.if_icmp .ge 46, 3) := by decide +kernel
theorem dX8_stray_65 : decode cX8_stray 65 = .ok (.aload_n 0, 1) := by decide +kernel
theorem dX8_stray_66 : decode cX8_stray 66 = .ok (.getfield 36, 3) := by decide +kernel
theorem dX8_stray_69 : decode cX8_stray 69 = .ok (.iload 5, 2) := by decide +kernel
theorem dX8_stray_71 : decode cX8_stray 71 = .ok (.iload_n 3, 1) := by decide +kernel
theorem dX8_stray_72 : decode cX8_stray 72 = .ok (.invokevirtual 114, 3) := by decide +kernel
theorem dX8_stray_75 : decode cX8_stray 75 = .ok (.iload_n 1, 1) := by decide +kernel
theorem dX8_stray_76 : decode cX8_stray 76 = .ok (.if_icmp .ne 26, 3) := by decide +kernel
theorem dX8_stray_79 : decode cX8_stray 79 = .ok (.aload_n 0, 1) := by decide +kernel
theorem dX8_stray_80 : decode cX8_stray 80 = .ok (.getfield 36, 3) := by decide +kernel
theorem dX8_stray_83 : decode cX8_stray 83 = .ok (.iload 5, 2) := by decide +kernel
theorem dX8_stray_85 : decode cX8_stray 85 = .ok (.iconst 4, 1) := by decide +kernel
theorem dX8_stray_86 : decode cX8_stray 86 = .ok (.invokevirtual 110, 3) := by decide +kernel
theorem dX8_stray_89 : decode cX8_stray 89 = .ok (.iload_n 2, 1) := by decide +kernel
theorem dX8_stray_90 : decode cX8_stray 90 = .ok (.if_icmp .ne 12, 3) := by decide +kernel
theorem dX8_stray_93 : decode cX8_stray 93 = .ok (.iload 4, 2) := by decide +kernel
theorem dX8_stray_95 : decode cX8_stray 95 = .ok (.iconst 1, 1) := by decide +kernel
theorem dX8_stray_96 : decode cX8_stray 96 = .ok (.iload 5, 2) := by decide +kernel
theorem dX8_stray_98 : decode cX8_stray 98 = .ok (.ishl, 1) := by decide +kernel
theorem dX8_stray_99 : decode cX8_stray 99 = .ok (.ior, 1) := by decide +kernel
theorem dX8_stray_100 : decode cX8_stray 100 = .ok (.istore 4, 2) := by decide +kernel
theorem dX8_stray_102 : decode cX8_stray 102 = .ok (.iinc 5 1, 3) := by decide +kernel
theorem dX8_stray_105 : decode cX8_stray 105 = .ok (.goto (-55), 3) := by decide +kernel
theorem dX8_stray_108 : decode cX8_stray 108 = .ok (.iload 4, 2) := by decide +kernel
theorem dX8_stray_110 : decode cX8_stray 110 = .ok (.ireturn, 1) := by decide +kernel
theorem dX8_meeters_0 : decode cX8_meeters 0 = .ok (.aload_n 0, 1) := by decide +kernel
theorem dX8_meeters_1 : decode cX8_meeters 1 = .ok (.getfield 26, 3) := by decide +kernel
theorem dX8_meeters_4 : decode cX8_meeters 4 = .ok (.getfield 61, 3) := by decide +kernel
theorem dX8_meeters_7 : decode cX8_meeters 7 = .ok (.iload_n 1, 1) := by decide +kernel
theorem dX8_meeters_8 : decode cX8_meeters 8 = .ok (.invokevirtual 102, 3) := by decide +kernel
theorem dX8_meeters_11 : decode cX8_meeters 11 = .ok (.ifCond .eq 12, 3) := by decide +kernel
theorem dX8_meeters_14 : decode cX8_meeters 14 = .ok (.iload_n 2, 1) := by decide +kernel
theorem dX8_meeters_15 : decode cX8_meeters 15 = .ok (.iconst 0, 1) := by decide +kernel
theorem dX8_meeters_16 : decode cX8_meeters 16 = .ok (.iconst 1, 1) := by decide +kernel
theorem dX8_meeters_17 : decode cX8_meeters 17 = .ok (.invokestatic 74, 3) := by decide +kernel
theorem dX8_meeters_20 : decode cX8_meeters 20 = .ok (.ifCond .ne 5, 3) := by decide +kernel
theorem dX8_meeters_23 : decode cX8_meeters 23 = .ok (.iconst (-1), 1) := by decide +kernel
theorem dX8_meeters_24 : decode cX8_meeters 24 = .ok (.ireturn, 1) := by decide +kernel
theorem dX8_meeters_25 : decode cX8_meeters 25 = .ok (.iconst 0, 1) := by decide +kernel
theorem dX8_meeters_26 : decode cX8_meeters 26 = .ok (.istore_n 3, 1) := by decide +kernel
theorem dX8_meeters_27 : decode cX8_meeters 27 = .ok (.bipush (-4), 2) := by decide +kernel
theorem dX8_meeters_29 : decode cX8_meeters 29 = .ok (.istore 4, 2) := by decide +kernel
theorem dX8_meeters_31 : decode cX8_meeters 31 = .ok (.iconst 0, 1) := by decide +kernel
theorem dX8_meeters_32 : decode cX8_meeters 32 = .ok (.istore 5, 2) := by decide +kernel
theorem dX8_meeters_34 : decode cX8_meeters 34 = .ok (.iload 5, 2) := by decide +kernel
theorem dX8_meeters_36 : decode cX8_meeters 36 = .ok (.bipush 40, 2) := by decide +kernel
theorem dX8_meeters_38 : decode cX8_meeters 38 = .ok (.if_icmp .gt 98, 3) := by decide +kernel
theorem dX8_meeters_41 : decode cX8_meeters 41 = .ok (.iconst 1, 1) := by decide +kernel
theorem dX8_meeters_42 : decode cX8_meeters 42 = .ok (.istore 6, 2) := by decide +kernel
theorem dX8_meeters_44 : decode cX8_meeters 44 = .ok (.iload 6, 2) := by decide +kernel
theorem dX8_meeters_46 : decode cX8_meeters 46 = .ok (.bipush 6, 2) := by decide +kernel
theorem dX8_meeters_48 : decode cX8_meeters 48 = .ok (.if_icmp .gt 82, 3) := by decide +kernel
theorem dX8_meeters_51 : decode cX8_meeters 51 = .ok (.aload_n 0, 1) := by decide +kernel
theorem dX8_meeters_52 : decode cX8_meeters 52 = .ok (.getfield 26, 3) := by decide +kernel
theorem dX8_meeters_55 : decode cX8_meeters 55 = .ok (.getfield 61, 3) := by decide +kernel
theorem dX8_meeters_58 : decode cX8_meeters 58 = .ok (.iload_n 1, 1) := by decide +kernel
theorem dX8_meeters_59 : decode cX8_meeters 59 = .ok (.iconst 0, 1) := by decide +kernel
theorem dX8_meeters_60 : decode cX8_meeters 60 = .ok (.invokevirtual 141, 3) := by decide +kernel
theorem dX8_meeters_63 : decode cX8_meeters 63 = .ok (.aload_n 0, 1) := by decide +kernel
theorem dX8_meeters_64 : decode cX8_meeters 64 = .ok (.getfield 26, 3) := by decide +kernel
theorem dX8_meeters_67 : decode cX8_meeters 67 = .ok (.getfield 61, 3) := by decide +kernel
theorem dX8_meeters_70 : decode cX8_meeters 70 = .ok (.iload_n 1, 1) := by decide +kernel
theorem dX8_meeters_71 : decode cX8_meeters 71 = .ok (.iconst 2, 1) := by decide +kernel
theorem dX8_meeters_72 : decode cX8_meeters 72 = .ok (.invokevirtual 141, 3) := by decide +kernel
theorem dX8_meeters_75 : decode cX8_meeters 75 = .ok (.iload 5, 2) := by decide +kernel
theorem dX8_meeters_77 : decode cX8_meeters 77 = .ok (.iload 6, 2) := by decide +kernel
theorem dX8_meeters_79 : decode cX8_meeters 79 = .ok (.aload_n 0, 1) := by decide +kernel
theorem dX8_meeters_80 : decode cX8_meeters 80 = .ok (.getfield 26, 3) := by decide +kernel
theorem dX8_meeters_83 : decode cX8_meeters 83 = .ok (.getfield 164, 3) := by decide +kernel
theorem dX8_meeters_86 : decode cX8_meeters 86 = .ok (.invokestatic 167, 3) := by decide +kernel
theorem dX8_meeters_89 : decode cX8_meeters 89 = .ok (.istore 7, 2) := by decide +kernel
theorem dX8_meeters_91 : decode cX8_meeters 91 = .ok (.iload 7, 2) := by decide +kernel
theorem dX8_meeters_93 : decode cX8_meeters 93 = .ok (.sipush 1000, 3) := by decide +kernel
theorem dX8_meeters_96 : decode cX8_meeters 96 = .ok (.if_icmp .eq 28, 3) := by decide +kernel
theorem dX8_meeters_99 : decode cX8_meeters 99 = .ok (.iinc 3 1, 3) := by decide +kernel
theorem dX8_meeters_102 : decode cX8_meeters 102 = .ok (.iload 4, 2) := by decide +kernel
theorem dX8_meeters_104 : decode cX8_meeters 104 = .ok (.bipush (-4), 2) := by decide +kernel
theorem dX8_meeters_106 : decode cX8_meeters 106 = .ok (.if_icmp .ne 14, 3) := by decide +kernel
theorem dX8_meeters_109 : decode cX8_meeters 109 = .ok (.bipush 10, 2) := by decide +kernel
theorem dX8_meeters_111 : decode cX8_meeters 111 = .ok (.iload 5, 2) := by decide +kernel
theorem dX8_meeters_113 : decode cX8_meeters 113 = .ok (.imul, 1) := by decide +kernel
theorem dX8_meeters_114 : decode cX8_meeters 114 = .ok (.iload 6, 2) := by decide +kernel
theorem dX8_meeters_116 : decode cX8_meeters 116 = .ok (.iadd, 1) := by decide +kernel
theorem dX8_meeters_117 : decode cX8_meeters 117 = .ok (.goto 5, 3) := by decide +kernel
theorem dX8_meeters_120 : decode cX8_meeters 120 = .ok (.iload 4, 2) := by decide +kernel
theorem dX8_meeters_122 : decode cX8_meeters 122 = .ok (.istore 4, 2) := by decide +kernel
theorem dX8_meeters_124 : decode cX8_meeters 124 = .ok (.iinc 6 1, 3) := by decide +kernel
theorem dX8_meeters_127 : decode cX8_meeters 127 = .ok (.goto (-83), 3) := by decide +kernel
theorem dX8_meeters_130 : decode cX8_meeters 130 = .ok (.iinc 5 1, 3) := by decide +kernel
theorem dX8_meeters_133 : decode cX8_meeters 133 = .ok (.goto (-99), 3) := by decide +kernel
theorem dX8_meeters_136 : decode cX8_meeters 136 = .ok (.iload_n 2, 1) := by decide +kernel
theorem dX8_meeters_137 : decode cX8_meeters 137 = .ok (.ifCond .ne 7, 3) := by decide +kernel
theorem dX8_meeters_140 : decode cX8_meeters 140 = .ok (.iload_n 3, 1) := by decide +kernel
theorem dX8_meeters_141 : decode cX8_meeters 141 = .ok (.goto 5, 3) := by decide +kernel
theorem dX8_meeters_144 : decode cX8_meeters 144 = .ok (.iload 4, 2) := by decide +kernel
theorem dX8_meeters_146 : decode cX8_meeters 146 = .ok (.ireturn, 1) := by decide +kernel
theorem dX8_stand_0 : decode cX8_stand 0 = .ok (.iload_n 1, 1) := by decide +kernel
theorem dX8_stand_1 : decode cX8_stand 1 = .ok (.iconst 0, 1) := by decide +kernel
theorem dX8_stand_2 : decode cX8_stand 2 = .ok (.bipush 23, 2) := by decide +kernel
theorem dX8_stand_4 : decode cX8_stand 4 = .ok (.invokestatic 74, 3) := by decide +kernel
theorem dX8_stand_7 : decode cX8_stand 7 = .ok (.ifCond .eq 22, 3) := by decide +kernel
theorem dX8_stand_10 : decode cX8_stand 10 = .ok (.iload_n 2, 1) := by decide +kernel
theorem dX8_stand_11 : decode cX8_stand 11 = .ok (.iconst 1, 1) := by decide +kernel
theorem dX8_stand_12 : decode cX8_stand 12 = .ok (.bipush 63, 2) := by decide +kernel
theorem dX8_stand_14 : decode cX8_stand 14 = .ok (.invokestatic 74, 3) := by decide +kernel
theorem dX8_stand_17 : decode cX8_stand 17 = .ok (.ifCond .eq 12, 3) := by decide +kernel
theorem dX8_stand_20 : decode cX8_stand 20 = .ok (.iload_n 3, 1) := by decide +kernel
theorem dX8_stand_21 : decode cX8_stand 21 = .ok (.iconst 0, 1) := by decide +kernel
theorem dX8_stand_22 : decode cX8_stand 22 = .ok (.iconst 1, 1) := by decide +kernel
theorem dX8_stand_23 : decode cX8_stand 23 = .ok (.invokestatic 74, 3) := by decide +kernel
theorem dX8_stand_26 : decode cX8_stand 26 = .ok (.ifCond .ne 5, 3) := by decide +kernel
theorem dX8_stand_29 : decode cX8_stand 29 = .ok (.iconst (-1), 1) := by decide +kernel
theorem dX8_stand_30 : decode cX8_stand 30 = .ok (.ireturn, 1) := by decide +kernel
theorem dX8_stand_31 : decode cX8_stand 31 = .ok (.aload_n 0, 1) := by decide +kernel
theorem dX8_stand_32 : decode cX8_stand 32 = .ok (.getfield 36, 3) := by decide +kernel
theorem dX8_stand_35 : decode cX8_stand 35 = .ok (.aload_n 0, 1) := by decide +kernel
theorem dX8_stand_36 : decode cX8_stand 36 = .ok (.getfield 26, 3) := by decide +kernel
theorem dX8_stand_39 : decode cX8_stand 39 = .ok (.iconst 0, 1) := by decide +kernel
theorem dX8_stand_40 : decode cX8_stand 40 = .ok (.invokevirtual 106, 3) := by decide +kernel
theorem dX8_stand_43 : decode cX8_stand 43 = .ok (.aload_n 0, 1) := by decide +kernel
theorem dX8_stand_44 : decode cX8_stand 44 = .ok (.getfield 57, 3) := by decide +kernel
theorem dX8_stand_47 : decode cX8_stand 47 = .ok (.iload_n 2, 1) := by decide +kernel
theorem dX8_stand_48 : decode cX8_stand 48 = .ok (.invokevirtual 171, 3) := by decide +kernel
theorem dX8_stand_51 : decode cX8_stand 51 = .ok (.aload_n 0, 1) := by decide +kernel
theorem dX8_stand_52 : decode cX8_stand 52 = .ok (.getfield 36, 3) := by decide +kernel
theorem dX8_stand_55 : decode cX8_stand 55 = .ok (.getfield 174, 3) := by decide +kernel
theorem dX8_stand_58 : decode cX8_stand 58 = .ok (.iload_n 1, 1) := by decide +kernel
theorem dX8_stand_59 : decode cX8_stand 59 = .ok (.isub, 1) := by decide +kernel
theorem dX8_stand_60 : decode cX8_stand 60 = .ok (.bipush 24, 2) := by decide +kernel
theorem dX8_stand_62 : decode cX8_stand 62 = .ok (.invokestatic 177, 3) := by decide +kernel
theorem dX8_stand_65 : decode cX8_stand 65 = .ok (.istore 4, 2) := by decide +kernel
theorem dX8_stand_67 : decode cX8_stand 67 = .ok (.iload_n 3, 1) := by decide +kernel
theorem dX8_stand_68 : decode cX8_stand 68 = .ok (.ifCond .ne 15, 3) := by decide +kernel
theorem dX8_stand_71 : decode cX8_stand 71 = .ok (.aload_n 0, 1) := by decide +kernel
theorem dX8_stand_72 : decode cX8_stand 72 = .ok (.getfield 57, 3) := by decide +kernel
theorem dX8_stand_75 : decode cX8_stand 75 = .ok (.iload 4, 2) := by decide +kernel
theorem dX8_stand_77 : decode cX8_stand 77 = .ok (.invokevirtual 180, 3) := by decide +kernel
theorem dX8_stand_80 : decode cX8_stand 80 = .ok (.goto 13, 3) := by decide +kernel
theorem dX8_stand_83 : decode cX8_stand 83 = .ok (.aload_n 0, 1) := by decide +kernel
theorem dX8_stand_84 : decode cX8_stand 84 = .ok (.getfield 57, 3) := by decide +kernel
theorem dX8_stand_87 : decode cX8_stand 87 = .ok (.iload 4, 2) := by decide +kernel
theorem dX8_stand_89 : decode cX8_stand 89 = .ok (.iload_n 2, 1) := by decide +kernel
theorem dX8_stand_90 : decode cX8_stand 90 = .ok (.invokevirtual 183, 3) := by decide +kernel
theorem dX8_stand_93 : decode cX8_stand 93 = .ok (.ireturn, 1) := by decide +kernel
theorem dX8_odds_0 : decode cX8_odds 0 = .ok (.iload_n 1, 1) := by decide +kernel
theorem dX8_odds_1 : decode cX8_odds 1 = .ok (.iconst 0, 1) := by decide +kernel
theorem dX8_odds_2 : decode cX8_odds 2 = .ok (.bipush 9, 2) := by decide +kernel
theorem dX8_odds_4 : decode cX8_odds 4 = .ok (.invokestatic 74, 3) := by decide +kernel
theorem dX8_odds_7 : decode cX8_odds 7 = .ok (.ifCond .eq 22, 3) := by decide +kernel
theorem dX8_odds_10 : decode cX8_odds 10 = .ok (.iload_n 2, 1) := by decide +kernel
theorem dX8_odds_11 : decode cX8_odds 11 = .ok (.iconst 0, 1) := by decide +kernel
theorem dX8_odds_12 : decode cX8_odds 12 = .ok (.bipush 10, 2) := by decide +kernel
theorem dX8_odds_14 : decode cX8_odds 14 = .ok (.invokestatic 74, 3) := by decide +kernel
theorem dX8_odds_17 : decode cX8_odds 17 = .ok (.ifCond .eq 12, 3) := by decide +kernel
theorem dX8_odds_20 : decode cX8_odds 20 = .ok (.iload_n 3, 1) := by decide +kernel
theorem dX8_odds_21 : decode cX8_odds 21 = .ok (.iconst 0, 1) := by decide +kernel
theorem dX8_odds_22 : decode cX8_odds 22 = .ok (.iconst 1, 1) := by decide +kernel
theorem dX8_odds_23 : decode cX8_odds 23 = .ok (.invokestatic 74, 3) := by decide +kernel
theorem dX8_odds_26 : decode cX8_odds 26 = .ok (.ifCond .ne 7, 3) := by decide +kernel
theorem dX8_odds_29 : decode cX8_odds 29 = .ok (.ldc2_w 186, 3) := by decide +kernel
theorem dX8_odds_32 : decode cX8_odds 32 = .ok (.lreturn, 1) := by decide +kernel
theorem dX8_odds_33 : decode cX8_odds 33 = .ok (.ldc2_w 188, 3) := by decide +kernel
theorem dX8_odds_36 : decode cX8_odds 36 = .ok (.iload_n 1, 1) := by decide +kernel
theorem dX8_odds_37 : decode cX8_odds 37 = .ok (.invokestatic 190, 3) := by decide +kernel
theorem dX8_odds_40 : decode cX8_odds 40 = .ok (.lstore 4, 2) := by decide +kernel
theorem dX8_odds_42 : decode cX8_odds 42 = .ok (.lconst 0, 1) := by decide +kernel
theorem dX8_odds_43 : decode cX8_odds 43 = .ok (.lstore 6, 2) := by decide +kernel
theorem dX8_odds_45 : decode cX8_odds 45 = .ok (.iconst 0, 1) := by decide +kernel
theorem dX8_odds_46 : decode cX8_odds 46 = .ok (.istore 8, 2) := by decide +kernel
theorem dX8_odds_48 : decode cX8_odds 48 = .ok (.iload 8, 2) := by decide +kernel
theorem dX8_odds_50 : decode cX8_odds 50 = .ok (.iload_n 1, 1) := by decide +kernel
theorem dX8_odds_51 : decode cX8_odds 51 = .ok (.if_icmp .gt 49, 3) := by decide +kernel
theorem dX8_odds_54 : decode cX8_odds 54 = .ok (.iconst 2, 1) := by decide +kernel
theorem dX8_odds_55 : decode cX8_odds 55 = .ok (.iload 8, 2) := by decide +kernel
theorem dX8_odds_57 : decode cX8_odds 57 = .ok (.imul, 1) := by decide +kernel
theorem dX8_odds_58 : decode cX8_odds 58 = .ok (.iload_n 1, 1) := by decide +kernel
theorem dX8_odds_59 : decode cX8_odds 59 = .ok (.if_icmp .lt 35, 3) := by decide +kernel
theorem dX8_odds_62 : decode cX8_odds 62 = .ok (.lload 6, 2) := by decide +kernel
theorem dX8_odds_64 : decode cX8_odds 64 = .ok (.iload_n 1, 1) := by decide +kernel
theorem dX8_odds_65 : decode cX8_odds 65 = .ok (.iload 8, 2) := by decide +kernel
theorem dX8_odds_67 : decode cX8_odds 67 = .ok (.invokestatic 194, 3) := by decide +kernel
theorem dX8_odds_70 : decode cX8_odds 70 = .ok (.iload_n 2, 1) := by decide +kernel
theorem dX8_odds_71 : decode cX8_odds 71 = .ok (.i2l, 1) := by decide +kernel
theorem dX8_odds_72 : decode cX8_odds 72 = .ok (.iload 8, 2) := by decide +kernel
theorem dX8_odds_74 : decode cX8_odds 74 = .ok (.invokestatic 190, 3) := by decide +kernel
theorem dX8_odds_77 : decode cX8_odds 77 = .ok (.lmul, 1) := by decide +kernel
theorem dX8_odds_78 : decode cX8_odds 78 = .ok (.bipush 10, 2) := by decide +kernel
theorem dX8_odds_80 : decode cX8_odds 80 = .ok (.iload_n 2, 1) := by decide +kernel
theorem dX8_odds_81 : decode cX8_odds 81 = .ok (.isub, 1) := by decide +kernel
theorem dX8_odds_82 : decode cX8_odds 82 = .ok (.i2l, 1) := by decide +kernel
theorem dX8_odds_83 : decode cX8_odds 83 = .ok (.iload_n 1, 1) := by decide +kernel
theorem dX8_odds_84 : decode cX8_odds 84 = .ok (.iload 8, 2) := by decide +kernel
theorem dX8_odds_86 : decode cX8_odds 86 = .ok (.isub, 1) := by decide +kernel
theorem dX8_odds_87 : decode cX8_odds 87 = .ok (.invokestatic 190, 3) := by decide +kernel
theorem dX8_odds_90 : decode cX8_odds 90 = .ok (.lmul, 1) := by decide +kernel
theorem dX8_odds_91 : decode cX8_odds 91 = .ok (.ladd, 1) := by decide +kernel
theorem dX8_odds_92 : decode cX8_odds 92 = .ok (.lstore 6, 2) := by decide +kernel
theorem dX8_odds_94 : decode cX8_odds 94 = .ok (.iinc 8 1, 3) := by decide +kernel
theorem dX8_odds_97 : decode cX8_odds 97 = .ok (.goto (-49), 3) := by decide +kernel
theorem dX8_odds_100 : decode cX8_odds 100 = .ok (.lload 6, 2) := by decide +kernel
theorem dX8_odds_102 : decode cX8_odds 102 = .ok (.lload 4, 2) := by decide +kernel
theorem dX8_odds_104 : decode cX8_odds 104 = .ok (.invokestatic 198, 3) := by decide +kernel
theorem dX8_odds_107 : decode cX8_odds 107 = .ok (.lstore 8, 2) := by decide +kernel
theorem dX8_odds_109 : decode cX8_odds 109 = .ok (.iload_n 3, 1) := by decide +kernel
theorem dX8_odds_110 : decode cX8_odds 110 = .ok (.ifCond .ne 8, 3) := by decide +kernel
theorem dX8_odds_113 : decode cX8_odds 113 = .ok (.lload 6, 2) := by decide +kernel
theorem dX8_odds_115 : decode cX8_odds 115 = .ok (.goto 5, 3) := by decide +kernel
theorem dX8_odds_118 : decode cX8_odds 118 = .ok (.lload 4, 2) := by decide +kernel
theorem dX8_odds_120 : decode cX8_odds 120 = .ok (.lstore 10, 2) := by decide +kernel
theorem dX8_odds_122 : decode cX8_odds 122 = .ok (.lload 8, 2) := by decide +kernel
theorem dX8_odds_124 : decode cX8_odds 124 = .ok (.lconst 0, 1) := by decide +kernel
theorem dX8_odds_125 : decode cX8_odds 125 = .ok (.lcmp, 1) := by decide +kernel
theorem dX8_odds_126 : decode cX8_odds 126 = .ok (.ifCond .le 11, 3) := by decide +kernel
theorem dX8_odds_129 : decode cX8_odds 129 = .ok (.lload 10, 2) := by decide +kernel
theorem dX8_odds_131 : decode cX8_odds 131 = .ok (.lload 8, 2) := by decide +kernel
theorem dX8_odds_133 : decode cX8_odds 133 = .ok (.ldiv, 1) := by decide +kernel
theorem dX8_odds_134 : decode cX8_odds 134 = .ok (.goto 5, 3) := by decide +kernel
theorem dX8_odds_137 : decode cX8_odds 137 = .ok (.lload 10, 2) := by decide +kernel
theorem dX8_odds_139 : decode cX8_odds 139 = .ok (.lreturn, 1) := by decide +kernel
theorem dX8_year_0 : decode cX8_year 0 = .ok (.iload_n 1, 1) := by decide +kernel
theorem dX8_year_1 : decode cX8_year 1 = .ok (.iconst 0, 1) := by decide +kernel
theorem dX8_year_2 : decode cX8_year 2 = .ok (.sipush 9999, 3) := by decide +kernel
theorem dX8_year_5 : decode cX8_year 5 = .ok (.invokestatic 74, 3) := by decide +kernel
theorem dX8_year_8 : decode cX8_year 8 = .ok (.ifCond .eq 12, 3) := by decide +kernel
theorem dX8_year_11 : decode cX8_year 11 = .ok (.iload_n 2, 1) := by decide +kernel
theorem dX8_year_12 : decode cX8_year 12 = .ok (.iconst 0, 1) := by decide +kernel
theorem dX8_year_13 : decode cX8_year 13 = .ok (.iconst 2, 1) := by decide +kernel
theorem dX8_year_14 : decode cX8_year 14 = .ok (.invokestatic 74, 3) := by decide +kernel
theorem dX8_year_17 : decode cX8_year 17 = .ok (.ifCond .ne 5, 3) := by decide +kernel
theorem dX8_year_20 : decode cX8_year 20 = .ok (.iconst (-1), 1) := by decide +kernel
theorem dX8_year_21 : decode cX8_year 21 = .ok (.ireturn, 1) := by decide +kernel
theorem dX8_year_22 : decode cX8_year 22 = .ok (.aload_n 0, 1) := by decide +kernel
theorem dX8_year_23 : decode cX8_year 23 = .ok (.getfield 30, 3) := by decide +kernel
theorem dX8_year_26 : decode cX8_year 26 = .ok (.aload_n 0, 1) := by decide +kernel
theorem dX8_year_27 : decode cX8_year 27 = .ok (.getfield 26, 3) := by decide +kernel
theorem dX8_year_30 : decode cX8_year 30 = .ok (.invokevirtual 94, 3) := by decide +kernel
theorem dX8_year_33 : decode cX8_year 33 = .ok (.iconst 0, 1) := by decide +kernel
theorem dX8_year_34 : decode cX8_year 34 = .ok (.istore_n 3, 1) := by decide +kernel
theorem dX8_year_35 : decode cX8_year 35 = .ok (.iload_n 3, 1) := by decide +kernel
theorem dX8_year_36 : decode cX8_year 36 = .ok (.aload_n 0, 1) := by decide +kernel
theorem dX8_year_37 : decode cX8_year 37 = .ok (.getfield 30, 3) := by decide +kernel
theorem dX8_year_40 : decode cX8_year 40 = .ok (.getfield 61, 3) := by decide +kernel
theorem dX8_year_43 : decode cX8_year 43 = .ok (.invokevirtual 90, 3) := by decide +kernel
theorem dX8_year_46 : decode cX8_year 46 = .ok (.if_icmp .ge 52, 3) := by decide +kernel
theorem dX8_year_49 : decode cX8_year 49 = .ok (.ldc2_w 202, 3) := by decide +kernel
theorem dX8_year_52 : decode cX8_year 52 = .ok (.iload_n 1, 1) := by decide +kernel
theorem dX8_year_53 : decode cX8_year 53 = .ok (.i2l, 1) := by decide +kernel
theorem dX8_year_54 : decode cX8_year 54 = .ok (.lmul, 1) := by decide +kernel
theorem dX8_year_55 : decode cX8_year 55 = .ok (.ldc2_w 204, 3) := by decide +kernel
theorem dX8_year_58 : decode cX8_year 58 = .ok (.iload_n 3, 1) := by decide +kernel
theorem dX8_year_59 : decode cX8_year 59 = .ok (.i2l, 1) := by decide +kernel
theorem dX8_year_60 : decode cX8_year 60 = .ok (.lmul, 1) := by decide +kernel
theorem dX8_year_61 : decode cX8_year 61 = .ok (.ladd, 1) := by decide +kernel
theorem dX8_year_62 : decode cX8_year 62 = .ok (.lconst 1, 1) := by decide +kernel
theorem dX8_year_63 : decode cX8_year 63 = .ok (.ladd, 1) := by decide +kernel
theorem dX8_year_64 : decode cX8_year 64 = .ok (.lstore 4, 2) := by decide +kernel
theorem dX8_year_66 : decode cX8_year 66 = .ok (.aload_n 0, 1) := by decide +kernel
theorem dX8_year_67 : decode cX8_year 67 = .ok (.getfield 30, 3) := by decide +kernel
theorem dX8_year_70 : decode cX8_year 70 = .ok (.getfield 61, 3) := by decide +kernel
theorem dX8_year_73 : decode cX8_year 73 = .ok (.iload_n 3, 1) := by decide +kernel
theorem dX8_year_74 : decode cX8_year 74 = .ok (.iconst 1, 1) := by decide +kernel
theorem dX8_year_75 : decode cX8_year 75 = .ok (.lload 4, 2) := by decide +kernel
theorem dX8_year_77 : decode cX8_year 77 = .ok (.lload 4, 2) := by decide +kernel
theorem dX8_year_79 : decode cX8_year 79 = .ok (.lmul, 1) := by decide +kernel
theorem dX8_year_80 : decode cX8_year 80 = .ok (.ldc2_w 206, 3) := by decide +kernel
theorem dX8_year_83 : decode cX8_year 83 = .ok (.lrem, 1) := by decide +kernel
theorem dX8_year_84 : decode cX8_year 84 = .ok (.ldc2_w 208, 3) := by decide +kernel
theorem dX8_year_87 : decode cX8_year 87 = .ok (.lrem, 1) := by decide +kernel
theorem dX8_year_88 : decode cX8_year 88 = .ok (.l2i, 1) := by decide +kernel
theorem dX8_year_89 : decode cX8_year 89 = .ok (.invokevirtual 148, 3) := by decide +kernel
theorem dX8_year_92 : decode cX8_year 92 = .ok (.iinc 3 1, 3) := by decide +kernel
theorem dX8_year_95 : decode cX8_year 95 = .ok (.goto (-60), 3) := by decide +kernel
theorem dX8_year_98 : decode cX8_year 98 = .ok (.aload_n 0, 1) := by decide +kernel
theorem dX8_year_99 : decode cX8_year 99 = .ok (.getfield 36, 3) := by decide +kernel
theorem dX8_year_102 : decode cX8_year 102 = .ok (.aload_n 0, 1) := by decide +kernel
theorem dX8_year_103 : decode cX8_year 103 = .ok (.getfield 30, 3) := by decide +kernel
theorem dX8_year_106 : decode cX8_year 106 = .ok (.iconst 0, 1) := by decide +kernel
theorem dX8_year_107 : decode cX8_year 107 = .ok (.invokevirtual 106, 3) := by decide +kernel
theorem dX8_year_110 : decode cX8_year 110 = .ok (.iload_n 2, 1) := by decide +kernel
theorem dX8_year_111 : decode cX8_year 111 = .ok (.lookupswitch 42 #[(0, 25), (1, 34)], 25) := by decide +kernel
theorem dX8_year_136 : decode cX8_year 136 = .ok (.aload_n 0, 1) := by decide +kernel
theorem dX8_year_137 : decode cX8_year 137 = .ok (.getfield 36, 3) := by decide +kernel
theorem dX8_year_140 : decode cX8_year 140 = .ok (.iconst 0, 1) := by decide +kernel
theorem dX8_year_141 : decode cX8_year 141 = .ok (.invokevirtual 127, 3) := by decide +kernel
theorem dX8_year_144 : decode cX8_year 144 = .ok (.ireturn, 1) := by decide +kernel
theorem dX8_year_145 : decode cX8_year 145 = .ok (.aload_n 0, 1) := by decide +kernel
theorem dX8_year_146 : decode cX8_year 146 = .ok (.getfield 36, 3) := by decide +kernel
theorem dX8_year_149 : decode cX8_year 149 = .ok (.invokevirtual 124, 3) := by decide +kernel
theorem dX8_year_152 : decode cX8_year 152 = .ok (.ireturn, 1) := by decide +kernel
theorem dX8_year_153 : decode cX8_year 153 = .ok (.aload_n 0, 1) := by decide +kernel
theorem dX8_year_154 : decode cX8_year 154 = .ok (.getfield 36, 3) := by decide +kernel
theorem dX8_year_157 : decode cX8_year 157 = .ok (.getfield 174, 3) := by decide +kernel
theorem dX8_year_160 : decode cX8_year 160 = .ok (.ireturn, 1) := by decide +kernel
theorem dX8_keep_0 : decode cX8_keep 0 = .ok (.aload_n 0, 1) := by decide +kernel
theorem dX8_keep_1 : decode cX8_keep 1 = .ok (.getfield 50, 3) := by decide +kernel
theorem dX8_keep_4 : decode cX8_keep 4 = .ok (.aload_n 0, 1) := by decide +kernel
theorem dX8_keep_5 : decode cX8_keep 5 = .ok (.getfield 26, 3) := by decide +kernel
theorem dX8_keep_8 : decode cX8_keep 8 = .ok (.getfield 61, 3) := by decide +kernel
theorem dX8_keep_11 : decode cX8_keep 11 = .ok (.invokevirtual 210, 3) := by decide +kernel
theorem dX8_keep_14 : decode cX8_keep 14 = .ok (.ifCond .eq 13, 3) := by decide +kernel
theorem dX8_keep_17 : decode cX8_keep 17 = .ok (.aload_n 0, 1) := by decide +kernel
theorem dX8_keep_18 : decode cX8_keep 18 = .ok (.getfield 50, 3) := by decide +kernel
theorem dX8_keep_21 : decode cX8_keep 21 = .ok (.getfield 213, 3) := by decide +kernel
theorem dX8_keep_24 : decode cX8_keep 24 = .ok (.goto 5, 3) := by decide +kernel
theorem dX8_keep_27 : decode cX8_keep 27 = .ok (.bipush (-3), 2) := by decide +kernel
theorem dX8_keep_29 : decode cX8_keep 29 = .ok (.ireturn, 1) := by decide +kernel
theorem dX8_back_0 : decode cX8_back 0 = .ok (.aload_n 0, 1) := by decide +kernel
theorem dX8_back_1 : decode cX8_back 1 = .ok (.getfield 50, 3) := by decide +kernel
theorem dX8_back_4 : decode cX8_back 4 = .ok (.aload_n 0, 1) := by decide +kernel
theorem dX8_back_5 : decode cX8_back 5 = .ok (.getfield 26, 3) := by decide +kernel
theorem dX8_back_8 : decode cX8_back 8 = .ok (.getfield 61, 3) := by decide +kernel
theorem dX8_back_11 : decode cX8_back 11 = .ok (.invokevirtual 214, 3) := by decide +kernel
theorem dX8_back_14 : decode cX8_back 14 = .ok (.ifCond .ne 6, 3) := by decide +kernel
theorem dX8_back_17 : decode cX8_back 17 = .ok (.bipush (-2), 2) := by decide +kernel
theorem dX8_back_19 : decode cX8_back 19 = .ok (.ireturn, 1) := by decide +kernel
theorem dX8_back_20 : decode cX8_back 20 = .ok (.aload_n 0, 1) := by decide +kernel
theorem dX8_back_21 : decode cX8_back 21 = .ok (.getfield 43, 3) := by decide +kernel
theorem dX8_back_24 : decode cX8_back 24 = .ok (.invokevirtual 98, 3) := by decide +kernel
theorem dX8_back_27 : decode cX8_back 27 = .ok (.aload_n 0, 1) := by decide +kernel
theorem dX8_back_28 : decode cX8_back 28 = .ok (.getfield 50, 3) := by decide +kernel
theorem dX8_back_31 : decode cX8_back 31 = .ok (.getfield 213, 3) := by decide +kernel
theorem dX8_back_34 : decode cX8_back 34 = .ok (.ireturn, 1) := by decide +kernel
theorem dX8_count_0 : decode cX8_count 0 = .ok (.iload_n 1, 1) := by decide +kernel
theorem dX8_count_1 : decode cX8_count 1 = .ok (.tableswitch 105 0 6 #[43, 54, 65, 73, 81, 89, 97], 43) := by decide +kernel
theorem dX8_count_44 : decode cX8_count 44 = .ok (.aload_n 0, 1) := by decide +kernel
theorem dX8_count_45 : decode cX8_count 45 = .ok (.getfield 26, 3) := by decide +kernel
theorem dX8_count_48 : decode cX8_count 48 = .ok (.getfield 61, 3) := by decide +kernel
theorem dX8_count_51 : decode cX8_count 51 = .ok (.invokevirtual 90, 3) := by decide +kernel
theorem dX8_count_54 : decode cX8_count 54 = .ok (.ireturn, 1) := by decide +kernel
theorem dX8_count_55 : decode cX8_count 55 = .ok (.aload_n 0, 1) := by decide +kernel
theorem dX8_count_56 : decode cX8_count 56 = .ok (.getfield 26, 3) := by decide +kernel
theorem dX8_count_59 : decode cX8_count 59 = .ok (.getfield 71, 3) := by decide +kernel
theorem dX8_count_62 : decode cX8_count 62 = .ok (.invokevirtual 90, 3) := by decide +kernel
theorem dX8_count_65 : decode cX8_count 65 = .ok (.ireturn, 1) := by decide +kernel
theorem dX8_count_66 : decode cX8_count 66 = .ok (.aload_n 0, 1) := by decide +kernel
theorem dX8_count_67 : decode cX8_count 67 = .ok (.getfield 26, 3) := by decide +kernel
theorem dX8_count_70 : decode cX8_count 70 = .ok (.getfield 217, 3) := by decide +kernel
theorem dX8_count_73 : decode cX8_count 73 = .ok (.ireturn, 1) := by decide +kernel
theorem dX8_count_74 : decode cX8_count 74 = .ok (.aload_n 0, 1) := by decide +kernel
theorem dX8_count_75 : decode cX8_count 75 = .ok (.getfield 26, 3) := by decide +kernel
theorem dX8_count_78 : decode cX8_count 78 = .ok (.getfield 164, 3) := by decide +kernel
theorem dX8_count_81 : decode cX8_count 81 = .ok (.ireturn, 1) := by decide +kernel
theorem dX8_count_82 : decode cX8_count 82 = .ok (.aload_n 0, 1) := by decide +kernel
theorem dX8_count_83 : decode cX8_count 83 = .ok (.getfield 43, 3) := by decide +kernel
theorem dX8_count_86 : decode cX8_count 86 = .ok (.getfield 138, 3) := by decide +kernel
theorem dX8_count_89 : decode cX8_count 89 = .ok (.ireturn, 1) := by decide +kernel
theorem dX8_count_90 : decode cX8_count 90 = .ok (.aload_n 0, 1) := by decide +kernel
theorem dX8_count_91 : decode cX8_count 91 = .ok (.getfield 50, 3) := by decide +kernel
theorem dX8_count_94 : decode cX8_count 94 = .ok (.getfield 213, 3) := by decide +kernel
theorem dX8_count_97 : decode cX8_count 97 = .ok (.ireturn, 1) := by decide +kernel
theorem dX8_count_98 : decode cX8_count 98 = .ok (.aload_n 0, 1) := by decide +kernel
theorem dX8_count_99 : decode cX8_count 99 = .ok (.getfield 10, 3) := by decide +kernel
theorem dX8_count_102 : decode cX8_count 102 = .ok (.getfield 78, 3) := by decide +kernel
theorem dX8_count_105 : decode cX8_count 105 = .ok (.ireturn, 1) := by decide +kernel
theorem dX8_count_106 : decode cX8_count 106 = .ok (.iconst (-1), 1) := by decide +kernel
theorem dX8_count_107 : decode cX8_count 107 = .ok (.ireturn, 1) := by decide +kernel
theorem dX8_within_0 : decode cX8_within 0 = .ok (.iload_n 0, 1) := by decide +kernel
theorem dX8_within_1 : decode cX8_within 1 = .ok (.iload_n 1, 1) := by decide +kernel
theorem dX8_within_2 : decode cX8_within 2 = .ok (.if_icmp .lt 12, 3) := by decide +kernel
theorem dX8_within_5 : decode cX8_within 5 = .ok (.iload_n 0, 1) := by decide +kernel
theorem dX8_within_6 : decode cX8_within 6 = .ok (.iload_n 2, 1) := by decide +kernel
theorem dX8_within_7 : decode cX8_within 7 = .ok (.if_icmp .gt 7, 3) := by decide +kernel
theorem dX8_within_10 : decode cX8_within 10 = .ok (.iconst 1, 1) := by decide +kernel
theorem dX8_within_11 : decode cX8_within 11 = .ok (.goto 4, 3) := by decide +kernel
theorem dX8_within_14 : decode cX8_within 14 = .ok (.iconst 0, 1) := by decide +kernel
theorem dX8_within_15 : decode cX8_within 15 = .ok (.ireturn, 1) := by decide +kernel
theorem dX8_at_0 : decode cX8_at 0 = .ok (.iload_n 1, 1) := by decide +kernel
theorem dX8_at_1 : decode cX8_at 1 = .ok (.ifCond .lt 15, 3) := by decide +kernel
theorem dX8_at_4 : decode cX8_at 4 = .ok (.iload_n 1, 1) := by decide +kernel
theorem dX8_at_5 : decode cX8_at 5 = .ok (.aload_n 0, 1) := by decide +kernel
theorem dX8_at_6 : decode cX8_at 6 = .ok (.arraylength, 1) := by decide +kernel
theorem dX8_at_7 : decode cX8_at 7 = .ok (.if_icmp .ge 9, 3) := by decide +kernel
theorem dX8_at_10 : decode cX8_at 10 = .ok (.aload_n 0, 1) := by decide +kernel
theorem dX8_at_11 : decode cX8_at 11 = .ok (.iload_n 1, 1) := by decide +kernel
theorem dX8_at_12 : decode cX8_at 12 = .ok (.iaload, 1) := by decide +kernel
theorem dX8_at_13 : decode cX8_at 13 = .ok (.goto 4, 3) := by decide +kernel
theorem dX8_at_16 : decode cX8_at 16 = .ok (.iconst 0, 1) := by decide +kernel
theorem dX8_at_17 : decode cX8_at 17 = .ok (.ireturn, 1) := by decide +kernel
theorem dX8_put_0 : decode cX8_put 0 = .ok (.iload_n 1, 1) := by decide +kernel
theorem dX8_put_1 : decode cX8_put 1 = .ok (.ifCond .lt 13, 3) := by decide +kernel
theorem dX8_put_4 : decode cX8_put 4 = .ok (.iload_n 1, 1) := by decide +kernel
theorem dX8_put_5 : decode cX8_put 5 = .ok (.aload_n 0, 1) := by decide +kernel
theorem dX8_put_6 : decode cX8_put 6 = .ok (.arraylength, 1) := by decide +kernel
theorem dX8_put_7 : decode cX8_put 7 = .ok (.if_icmp .ge 7, 3) := by decide +kernel
theorem dX8_put_10 : decode cX8_put 10 = .ok (.aload_n 0, 1) := by decide +kernel
theorem dX8_put_11 : decode cX8_put 11 = .ok (.iload_n 1, 1) := by decide +kernel
theorem dX8_put_12 : decode cX8_put 12 = .ok (.iload_n 2, 1) := by decide +kernel
theorem dX8_put_13 : decode cX8_put 13 = .ok (.iastore, 1) := by decide +kernel
theorem dX8_put_14 : decode cX8_put 14 = .ok (.return_, 1) := by decide +kernel
theorem dX8_apart_0 : decode cX8_apart 0 = .ok (.iload_n 0, 1) := by decide +kernel
theorem dX8_apart_1 : decode cX8_apart 1 = .ok (.iload_n 1, 1) := by decide +kernel
theorem dX8_apart_2 : decode cX8_apart 2 = .ok (.isub, 1) := by decide +kernel
theorem dX8_apart_3 : decode cX8_apart 3 = .ok (.bipush 24, 2) := by decide +kernel
theorem dX8_apart_5 : decode cX8_apart 5 = .ok (.invokestatic 177, 3) := by decide +kernel
theorem dX8_apart_8 : decode cX8_apart 8 = .ok (.istore_n 2, 1) := by decide +kernel
theorem dX8_apart_9 : decode cX8_apart 9 = .ok (.iload_n 2, 1) := by decide +kernel
theorem dX8_apart_10 : decode cX8_apart 10 = .ok (.bipush 24, 2) := by decide +kernel
theorem dX8_apart_12 : decode cX8_apart 12 = .ok (.iload_n 2, 1) := by decide +kernel
theorem dX8_apart_13 : decode cX8_apart 13 = .ok (.isub, 1) := by decide +kernel
theorem dX8_apart_14 : decode cX8_apart 14 = .ok (.invokestatic 154, 3) := by decide +kernel
theorem dX8_apart_17 : decode cX8_apart 17 = .ok (.ireturn, 1) := by decide +kernel
theorem dX8_meetingDay_0 : decode cX8_meetingDay 0 = .ok (.iload_n 1, 1) := by decide +kernel
theorem dX8_meetingDay_1 : decode cX8_meetingDay 1 = .ok (.iload_n 3, 1) := by decide +kernel
theorem dX8_meetingDay_2 : decode cX8_meetingDay 2 = .ok (.isub, 1) := by decide +kernel
theorem dX8_meetingDay_3 : decode cX8_meetingDay 3 = .ok (.istore 5, 2) := by decide +kernel
theorem dX8_meetingDay_5 : decode cX8_meetingDay 5 = .ok (.iload 5, 2) := by decide +kernel
theorem dX8_meetingDay_7 : decode cX8_meetingDay 7 = .ok (.ifCond .ne 16, 3) := by decide +kernel
theorem dX8_meetingDay_10 : decode cX8_meetingDay 10 = .ok (.iload_n 0, 1) := by decide +kernel
theorem dX8_meetingDay_11 : decode cX8_meetingDay 11 = .ok (.iload_n 2, 1) := by decide +kernel
theorem dX8_meetingDay_12 : decode cX8_meetingDay 12 = .ok (.if_icmp .ne 7, 3) := by decide +kernel
theorem dX8_meetingDay_15 : decode cX8_meetingDay 15 = .ok (.iload_n 0, 1) := by decide +kernel
theorem dX8_meetingDay_16 : decode cX8_meetingDay 16 = .ok (.goto 6, 3) := by decide +kernel
theorem dX8_meetingDay_19 : decode cX8_meetingDay 19 = .ok (.sipush 1000, 3) := by decide +kernel
theorem dX8_meetingDay_22 : decode cX8_meetingDay 22 = .ok (.ireturn, 1) := by decide +kernel
theorem dX8_meetingDay_23 : decode cX8_meetingDay 23 = .ok (.iload_n 1, 1) := by decide +kernel
theorem dX8_meetingDay_24 : decode cX8_meetingDay 24 = .ok (.iload_n 0, 1) := by decide +kernel
theorem dX8_meetingDay_25 : decode cX8_meetingDay 25 = .ok (.imul, 1) := by decide +kernel
theorem dX8_meetingDay_26 : decode cX8_meetingDay 26 = .ok (.iload_n 3, 1) := by decide +kernel
theorem dX8_meetingDay_27 : decode cX8_meetingDay 27 = .ok (.iload_n 2, 1) := by decide +kernel
theorem dX8_meetingDay_28 : decode cX8_meetingDay 28 = .ok (.imul, 1) := by decide +kernel
theorem dX8_meetingDay_29 : decode cX8_meetingDay 29 = .ok (.isub, 1) := by decide +kernel
theorem dX8_meetingDay_30 : decode cX8_meetingDay 30 = .ok (.istore 6, 2) := by decide +kernel
theorem dX8_meetingDay_32 : decode cX8_meetingDay 32 = .ok (.iload 6, 2) := by decide +kernel
theorem dX8_meetingDay_34 : decode cX8_meetingDay 34 = .ok (.iload 5, 2) := by decide +kernel
theorem dX8_meetingDay_36 : decode cX8_meetingDay 36 = .ok (.irem, 1) := by decide +kernel
theorem dX8_meetingDay_37 : decode cX8_meetingDay 37 = .ok (.ifCond .eq 7, 3) := by decide +kernel
theorem dX8_meetingDay_40 : decode cX8_meetingDay 40 = .ok (.sipush 1000, 3) := by decide +kernel
theorem dX8_meetingDay_43 : decode cX8_meetingDay 43 = .ok (.ireturn, 1) := by decide +kernel
theorem dX8_meetingDay_44 : decode cX8_meetingDay 44 = .ok (.iload 6, 2) := by decide +kernel
theorem dX8_meetingDay_46 : decode cX8_meetingDay 46 = .ok (.iload 5, 2) := by decide +kernel
theorem dX8_meetingDay_48 : decode cX8_meetingDay 48 = .ok (.idiv, 1) := by decide +kernel
theorem dX8_meetingDay_49 : decode cX8_meetingDay 49 = .ok (.istore 7, 2) := by decide +kernel
theorem dX8_meetingDay_51 : decode cX8_meetingDay 51 = .ok (.iload 7, 2) := by decide +kernel
theorem dX8_meetingDay_53 : decode cX8_meetingDay 53 = .ok (.iload_n 0, 1) := by decide +kernel
theorem dX8_meetingDay_54 : decode cX8_meetingDay 54 = .ok (.if_icmp .lt 13, 3) := by decide +kernel
theorem dX8_meetingDay_57 : decode cX8_meetingDay 57 = .ok (.iload 7, 2) := by decide +kernel
theorem dX8_meetingDay_59 : decode cX8_meetingDay 59 = .ok (.iload_n 2, 1) := by decide +kernel
theorem dX8_meetingDay_60 : decode cX8_meetingDay 60 = .ok (.if_icmp .lt 7, 3) := by decide +kernel
theorem dX8_meetingDay_63 : decode cX8_meetingDay 63 = .ok (.iconst 1, 1) := by decide +kernel
theorem dX8_meetingDay_64 : decode cX8_meetingDay 64 = .ok (.goto 4, 3) := by decide +kernel
theorem dX8_meetingDay_67 : decode cX8_meetingDay 67 = .ok (.iconst 0, 1) := by decide +kernel
theorem dX8_meetingDay_68 : decode cX8_meetingDay 68 = .ok (.istore 8, 2) := by decide +kernel
theorem dX8_meetingDay_70 : decode cX8_meetingDay 70 = .ok (.iload 8, 2) := by decide +kernel
theorem dX8_meetingDay_72 : decode cX8_meetingDay 72 = .ok (.ifCond .eq 19, 3) := by decide +kernel
theorem dX8_meetingDay_75 : decode cX8_meetingDay 75 = .ok (.iload_n 1, 1) := by decide +kernel
theorem dX8_meetingDay_76 : decode cX8_meetingDay 76 = .ok (.iload 7, 2) := by decide +kernel
theorem dX8_meetingDay_78 : decode cX8_meetingDay 78 = .ok (.iload_n 0, 1) := by decide +kernel
theorem dX8_meetingDay_79 : decode cX8_meetingDay 79 = .ok (.isub, 1) := by decide +kernel
theorem dX8_meetingDay_80 : decode cX8_meetingDay 80 = .ok (.imul, 1) := by decide +kernel
theorem dX8_meetingDay_81 : decode cX8_meetingDay 81 = .ok (.iload 4, 2) := by decide +kernel
theorem dX8_meetingDay_83 : decode cX8_meetingDay 83 = .ok (.if_icmp .ge 8, 3) := by decide +kernel
theorem dX8_meetingDay_86 : decode cX8_meetingDay 86 = .ok (.iload 7, 2) := by decide +kernel
theorem dX8_meetingDay_88 : decode cX8_meetingDay 88 = .ok (.goto 6, 3) := by decide +kernel
theorem dX8_meetingDay_91 : decode cX8_meetingDay 91 = .ok (.sipush 1000, 3) := by decide +kernel
theorem dX8_meetingDay_94 : decode cX8_meetingDay 94 = .ok (.ireturn, 1) := by decide +kernel
theorem dX8_power_0 : decode cX8_power 0 = .ok (.lconst 1, 1) := by decide +kernel
theorem dX8_power_1 : decode cX8_power 1 = .ok (.lstore_n 3, 1) := by decide +kernel
theorem dX8_power_2 : decode cX8_power 2 = .ok (.iconst 0, 1) := by decide +kernel
theorem dX8_power_3 : decode cX8_power 3 = .ok (.istore 5, 2) := by decide +kernel
theorem dX8_power_5 : decode cX8_power 5 = .ok (.iload 5, 2) := by decide +kernel
theorem dX8_power_7 : decode cX8_power 7 = .ok (.iload_n 2, 1) := by decide +kernel
theorem dX8_power_8 : decode cX8_power 8 = .ok (.if_icmp .ge 13, 3) := by decide +kernel
theorem dX8_power_11 : decode cX8_power 11 = .ok (.lload_n 3, 1) := by decide +kernel
theorem dX8_power_12 : decode cX8_power 12 = .ok (.lload_n 0, 1) := by decide +kernel
theorem dX8_power_13 : decode cX8_power 13 = .ok (.lmul, 1) := by decide +kernel
theorem dX8_power_14 : decode cX8_power 14 = .ok (.lstore_n 3, 1) := by decide +kernel
theorem dX8_power_15 : decode cX8_power 15 = .ok (.iinc 5 1, 3) := by decide +kernel
theorem dX8_power_18 : decode cX8_power 18 = .ok (.goto (-13), 3) := by decide +kernel
theorem dX8_power_21 : decode cX8_power 21 = .ok (.lload_n 3, 1) := by decide +kernel
theorem dX8_power_22 : decode cX8_power 22 = .ok (.lreturn, 1) := by decide +kernel
theorem dX8_ways_0 : decode cX8_ways 0 = .ok (.lconst 1, 1) := by decide +kernel
theorem dX8_ways_1 : decode cX8_ways 1 = .ok (.lstore_n 2, 1) := by decide +kernel
theorem dX8_ways_2 : decode cX8_ways 2 = .ok (.iconst 1, 1) := by decide +kernel
theorem dX8_ways_3 : decode cX8_ways 3 = .ok (.istore 4, 2) := by decide +kernel
theorem dX8_ways_5 : decode cX8_ways 5 = .ok (.iload 4, 2) := by decide +kernel
theorem dX8_ways_7 : decode cX8_ways 7 = .ok (.iload_n 1, 1) := by decide +kernel
theorem dX8_ways_8 : decode cX8_ways 8 = .ok (.if_icmp .gt 23, 3) := by decide +kernel
theorem dX8_ways_11 : decode cX8_ways 11 = .ok (.lload_n 2, 1) := by decide +kernel
theorem dX8_ways_12 : decode cX8_ways 12 = .ok (.iload_n 0, 1) := by decide +kernel
theorem dX8_ways_13 : decode cX8_ways 13 = .ok (.iload 4, 2) := by decide +kernel
theorem dX8_ways_15 : decode cX8_ways 15 = .ok (.isub, 1) := by decide +kernel
theorem dX8_ways_16 : decode cX8_ways 16 = .ok (.iconst 1, 1) := by decide +kernel
theorem dX8_ways_17 : decode cX8_ways 17 = .ok (.iadd, 1) := by decide +kernel
theorem dX8_ways_18 : decode cX8_ways 18 = .ok (.i2l, 1) := by decide +kernel
theorem dX8_ways_19 : decode cX8_ways 19 = .ok (.lmul, 1) := by decide +kernel
theorem dX8_ways_20 : decode cX8_ways 20 = .ok (.iload 4, 2) := by decide +kernel
theorem dX8_ways_22 : decode cX8_ways 22 = .ok (.i2l, 1) := by decide +kernel
theorem dX8_ways_23 : decode cX8_ways 23 = .ok (.ldiv, 1) := by decide +kernel
theorem dX8_ways_24 : decode cX8_ways 24 = .ok (.lstore_n 2, 1) := by decide +kernel
theorem dX8_ways_25 : decode cX8_ways 25 = .ok (.iinc 4 1, 3) := by decide +kernel
theorem dX8_ways_28 : decode cX8_ways 28 = .ok (.goto (-23), 3) := by decide +kernel
theorem dX8_ways_31 : decode cX8_ways 31 = .ok (.lload_n 2, 1) := by decide +kernel
theorem dX8_ways_32 : decode cX8_ways 32 = .ok (.lreturn, 1) := by decide +kernel
theorem dX8_commonDivisor_0 : decode cX8_commonDivisor 0 = .ok (.lload_n 0, 1) := by decide +kernel
theorem dX8_commonDivisor_1 : decode cX8_commonDivisor 1 = .ok (.lstore 4, 2) := by decide +kernel
theorem dX8_commonDivisor_3 : decode cX8_commonDivisor 3 = .ok (.lload_n 2, 1) := by decide +kernel
theorem dX8_commonDivisor_4 : decode cX8_commonDivisor 4 = .ok (.lstore 6, 2) := by decide +kernel
theorem dX8_commonDivisor_6 : decode cX8_commonDivisor 6 = .ok (.iconst 0, 1) := by decide +kernel
theorem dX8_commonDivisor_7 : decode cX8_commonDivisor 7 = .ok (.istore 8, 2) := by decide +kernel
theorem dX8_commonDivisor_9 : decode cX8_commonDivisor 9 = .ok (.iload 8, 2) := by decide +kernel
theorem dX8_commonDivisor_11 : decode cX8_commonDivisor 11 = .ok (.bipush 64, 2) := by decide +kernel
theorem dX8_commonDivisor_13 : decode cX8_commonDivisor 13 = .ok (.if_icmp .ge 31, 3) := by decide +kernel
theorem dX8_commonDivisor_16 : decode cX8_commonDivisor 16 = .ok (.lload 6, 2) := by decide +kernel
theorem dX8_commonDivisor_18 : decode cX8_commonDivisor 18 = .ok (.lconst 0, 1) := by decide +kernel
theorem dX8_commonDivisor_19 : decode cX8_commonDivisor 19 = .ok (.lcmp, 1) := by decide +kernel
theorem dX8_commonDivisor_20 : decode cX8_commonDivisor 20 = .ok (.ifCond .eq 24, 3) := by decide +kernel
theorem dX8_commonDivisor_23 : decode cX8_commonDivisor 23 = .ok (.lload 4, 2) := by decide +kernel
theorem dX8_commonDivisor_25 : decode cX8_commonDivisor 25 = .ok (.lload 6, 2) := by decide +kernel
theorem dX8_commonDivisor_27 : decode cX8_commonDivisor 27 = .ok (.lrem, 1) := by decide +kernel
theorem dX8_commonDivisor_28 : decode cX8_commonDivisor 28 = .ok (.lstore 9, 2) := by decide +kernel
theorem dX8_commonDivisor_30 : decode cX8_commonDivisor 30 = .ok (.lload 6, 2) := by decide +kernel
theorem dX8_commonDivisor_32 : decode cX8_commonDivisor 32 = .ok (.lstore 4, 2) := by decide +kernel
theorem dX8_commonDivisor_34 : decode cX8_commonDivisor 34 = .ok (.lload 9, 2) := by decide +kernel
theorem dX8_commonDivisor_36 : decode cX8_commonDivisor 36 = .ok (.lstore 6, 2) := by decide +kernel
theorem dX8_commonDivisor_38 : decode cX8_commonDivisor 38 = .ok (.iinc 8 1, 3) := by decide +kernel
theorem dX8_commonDivisor_41 : decode cX8_commonDivisor 41 = .ok (.goto (-32), 3) := by decide +kernel
theorem dX8_commonDivisor_44 : decode cX8_commonDivisor 44 = .ok (.lload 4, 2) := by decide +kernel
theorem dX8_commonDivisor_46 : decode cX8_commonDivisor 46 = .ok (.lreturn, 1) := by decide +kernel
theorem dX9_init_0 : decode cX9_init 0 = .ok (.aload_n 0, 1) := by decide +kernel
theorem dX9_init_1 : decode cX9_init 1 = .ok (.invokespecial 1, 3) := by decide +kernel
theorem dX9_init_4 : decode cX9_init 4 = .ok (.aload_n 0, 1) := by decide +kernel
theorem dX9_init_5 : decode cX9_init 5 = .ok (.sipush 300, 3) := by decide +kernel
theorem dX9_init_8 : decode cX9_init 8 = .ok (.newarray .int, 2) := by decide +kernel
theorem dX9_init_10 : decode cX9_init 10 = .ok (.putfield 7, 3) := by decide +kernel
theorem dX9_init_13 : decode cX9_init 13 = .ok (.aload_n 0, 1) := by decide +kernel
theorem dX9_init_14 : decode cX9_init 14 = .ok (.iconst 2, 1) := by decide +kernel
theorem dX9_init_15 : decode cX9_init 15 = .ok (.newarray .int, 2) := by decide +kernel
theorem dX9_init_17 : decode cX9_init 17 = .ok (.putfield 13, 3) := by decide +kernel
theorem dX9_init_20 : decode cX9_init 20 = .ok (.aload_n 0, 1) := by decide +kernel
theorem dX9_init_21 : decode cX9_init 21 = .ok (.iconst 2, 1) := by decide +kernel
theorem dX9_init_22 : decode cX9_init 22 = .ok (.newarray .int, 2) := by decide +kernel
theorem dX9_init_24 : decode cX9_init 24 = .ok (.putfield 16, 3) := by decide +kernel
theorem dX9_init_27 : decode cX9_init 27 = .ok (.aload_n 0, 1) := by decide +kernel
theorem dX9_init_28 : decode cX9_init 28 = .ok (.iconst 2, 1) := by decide +kernel
theorem dX9_init_29 : decode cX9_init 29 = .ok (.newarray .int, 2) := by decide +kernel
theorem dX9_init_31 : decode cX9_init 31 = .ok (.putfield 19, 3) := by decide +kernel
theorem dX9_init_34 : decode cX9_init 34 = .ok (.aload_n 0, 1) := by decide +kernel
theorem dX9_init_35 : decode cX9_init 35 = .ok (.bipush 12, 2) := by decide +kernel
theorem dX9_init_37 : decode cX9_init 37 = .ok (.newarray .int, 2) := by decide +kernel
theorem dX9_init_39 : decode cX9_init 39 = .ok (.putfield 22, 3) := by decide +kernel
theorem dX9_init_42 : decode cX9_init 42 = .ok (.aload_n 0, 1) := by decide +kernel
theorem dX9_init_43 : decode cX9_init 43 = .ok (.bipush 12, 2) := by decide +kernel
theorem dX9_init_45 : decode cX9_init 45 = .ok (.newarray .int, 2) := by decide +kernel
theorem dX9_init_47 : decode cX9_init 47 = .ok (.putfield 25, 3) := by decide +kernel
theorem dX9_init_50 : decode cX9_init 50 = .ok (.aload_n 0, 1) := by decide +kernel
theorem dX9_init_51 : decode cX9_init 51 = .ok (.bipush 12, 2) := by decide +kernel
theorem dX9_init_53 : decode cX9_init 53 = .ok (.newarray .int, 2) := by decide +kernel
theorem dX9_init_55 : decode cX9_init 55 = .ok (.putfield 28, 3) := by decide +kernel
theorem dX9_init_58 : decode cX9_init 58 = .ok (.aload_n 0, 1) := by decide +kernel
theorem dX9_init_59 : decode cX9_init 59 = .ok (.bipush 12, 2) := by decide +kernel
theorem dX9_init_61 : decode cX9_init 61 = .ok (.newarray .int, 2) := by decide +kernel
theorem dX9_init_63 : decode cX9_init 63 = .ok (.putfield 31, 3) := by decide +kernel
theorem dX9_init_66 : decode cX9_init 66 = .ok (.aload_n 0, 1) := by decide +kernel
theorem dX9_init_67 : decode cX9_init 67 = .ok (.iconst 2, 1) := by decide +kernel
theorem dX9_init_68 : decode cX9_init 68 = .ok (.newarray .int, 2) := by decide +kernel
theorem dX9_init_70 : decode cX9_init 70 = .ok (.putfield 34, 3) := by decide +kernel
theorem dX9_init_73 : decode cX9_init 73 = .ok (.aload_n 0, 1) := by decide +kernel
theorem dX9_init_74 : decode cX9_init 74 = .ok (.iconst 2, 1) := by decide +kernel
theorem dX9_init_75 : decode cX9_init 75 = .ok (.newarray .int, 2) := by decide +kernel
theorem dX9_init_77 : decode cX9_init 77 = .ok (.putfield 37, 3) := by decide +kernel
theorem dX9_init_80 : decode cX9_init 80 = .ok (.aload_n 0, 1) := by decide +kernel
theorem dX9_init_81 : decode cX9_init 81 = .ok (.iconst 4, 1) := by decide +kernel
theorem dX9_init_82 : decode cX9_init 82 = .ok (.newarray .int, 2) := by decide +kernel
theorem dX9_init_84 : decode cX9_init 84 = .ok (.putfield 40, 3) := by decide +kernel
theorem dX9_init_87 : decode cX9_init 87 = .ok (.aload_n 0, 1) := by decide +kernel
theorem dX9_init_88 : decode cX9_init 88 = .ok (.bipush 28, 2) := by decide +kernel
theorem dX9_init_90 : decode cX9_init 90 = .ok (.newarray .int, 2) := by decide +kernel
theorem dX9_init_92 : decode cX9_init 92 = .ok (.putfield 43, 3) := by decide +kernel
theorem dX9_init_95 : decode cX9_init 95 = .ok (.aload_n 0, 1) := by decide +kernel
theorem dX9_init_96 : decode cX9_init 96 = .ok (.bipush 28, 2) := by decide +kernel
theorem dX9_init_98 : decode cX9_init 98 = .ok (.newarray .int, 2) := by decide +kernel
theorem dX9_init_100 : decode cX9_init 100 = .ok (.putfield 46, 3) := by decide +kernel
theorem dX9_init_103 : decode cX9_init 103 = .ok (.aload_n 0, 1) := by decide +kernel
theorem dX9_init_104 : decode cX9_init 104 = .ok (.bipush 28, 2) := by decide +kernel
theorem dX9_init_106 : decode cX9_init 106 = .ok (.newarray .int, 2) := by decide +kernel
theorem dX9_init_108 : decode cX9_init 108 = .ok (.putfield 49, 3) := by decide +kernel
theorem dX9_init_111 : decode cX9_init 111 = .ok (.aload_n 0, 1) := by decide +kernel
theorem dX9_init_112 : decode cX9_init 112 = .ok (.bipush 28, 2) := by decide +kernel
theorem dX9_init_114 : decode cX9_init 114 = .ok (.newarray .int, 2) := by decide +kernel
theorem dX9_init_116 : decode cX9_init 116 = .ok (.putfield 52, 3) := by decide +kernel
theorem dX9_init_119 : decode cX9_init 119 = .ok (.aload_n 0, 1) := by decide +kernel
theorem dX9_init_120 : decode cX9_init 120 = .ok (.bipush 24, 2) := by decide +kernel
theorem dX9_init_122 : decode cX9_init 122 = .ok (.newarray .int, 2) := by decide +kernel
theorem dX9_init_124 : decode cX9_init 124 = .ok (.putfield 55, 3) := by decide +kernel
theorem dX9_init_127 : decode cX9_init 127 = .ok (.aload_n 0, 1) := by decide +kernel
theorem dX9_init_128 : decode cX9_init 128 = .ok (.iconst 4, 1) := by decide +kernel
theorem dX9_init_129 : decode cX9_init 129 = .ok (.newarray .int, 2) := by decide +kernel
theorem dX9_init_131 : decode cX9_init 131 = .ok (.putfield 58, 3) := by decide +kernel
theorem dX9_init_134 : decode cX9_init 134 = .ok (.aload_n 0, 1) := by decide +kernel
theorem dX9_init_135 : decode cX9_init 135 = .ok (.bipush 7, 2) := by decide +kernel
theorem dX9_init_137 : decode cX9_init 137 = .ok (.newarray .int, 2) := by decide +kernel
theorem dX9_init_139 : decode cX9_init 139 = .ok (.putfield 61, 3) := by decide +kernel
theorem dX9_init_142 : decode cX9_init 142 = .ok (.aload_n 0, 1) := by decide +kernel
theorem dX9_init_143 : decode cX9_init 143 = .ok (.bipush 7, 2) := by decide +kernel
theorem dX9_init_145 : decode cX9_init 145 = .ok (.newarray .int, 2) := by decide +kernel
theorem dX9_init_147 : decode cX9_init 147 = .ok (.putfield 64, 3) := by decide +kernel
theorem dX9_init_150 : decode cX9_init 150 = .ok (.aload_n 0, 1) := by decide +kernel
theorem dX9_init_151 : decode cX9_init 151 = .ok (.bipush 7, 2) := by decide +kernel
theorem dX9_init_153 : decode cX9_init 153 = .ok (.newarray .int, 2) := by decide +kernel
theorem dX9_init_155 : decode cX9_init 155 = .ok (.putfield 67, 3) := by decide +kernel
theorem dX9_init_158 : decode cX9_init 158 = .ok (.aload_n 0, 1) := by decide +kernel
theorem dX9_init_159 : decode cX9_init 159 = .ok (.bipush 7, 2) := by decide +kernel
theorem dX9_init_161 : decode cX9_init 161 = .ok (.newarray .int, 2) := by decide +kernel
theorem dX9_init_163 : decode cX9_init 163 = .ok (.putfield 70, 3) := by decide +kernel
theorem dX9_init_166 : decode cX9_init 166 = .ok (.aload_n 0, 1) := by decide +kernel
theorem dX9_init_167 : decode cX9_init 167 = .ok (.bipush 24, 2) := by decide +kernel
theorem dX9_init_169 : decode cX9_init 169 = .ok (.newarray .int, 2) := by decide +kernel
theorem dX9_init_171 : decode cX9_init 171 = .ok (.putfield 73, 3) := by decide +kernel
theorem dX9_init_174 : decode cX9_init 174 = .ok (.aload_n 0, 1) := by decide +kernel
theorem dX9_init_175 : decode cX9_init 175 = .ok (.bipush 21, 2) := by decide +kernel
theorem dX9_init_177 : decode cX9_init 177 = .ok (.newarray .long, 2) := by decide +kernel
theorem dX9_init_179 : decode cX9_init 179 = .ok (.putfield 76, 3) := by decide +kernel
theorem dX9_init_182 : decode cX9_init 182 = .ok (.aload_n 0, 1) := by decide +kernel
theorem dX9_init_183 : decode cX9_init 183 = .ok (.bipush 21, 2) := by decide +kernel
theorem dX9_init_185 : decode cX9_init 185 = .ok (.newarray .long, 2) := by decide +kernel
theorem dX9_init_187 : decode cX9_init 187 = .ok (.putfield 80, 3) := by decide +kernel
theorem dX9_init_190 : decode cX9_init 190 = .ok (.aload_n 0, 1) := by decide +kernel
theorem dX9_init_191 : decode cX9_init 191 = .ok (.bipush 7, 2) := by decide +kernel
theorem dX9_init_193 : decode cX9_init 193 = .ok (.newarray .int, 2) := by decide +kernel
theorem dX9_init_195 : decode cX9_init 195 = .ok (.putfield 83, 3) := by decide +kernel
theorem dX9_init_198 : decode cX9_init 198 = .ok (.aload_n 0, 1) := by decide +kernel
theorem dX9_init_199 : decode cX9_init 199 = .ok (.iconst 0, 1) := by decide +kernel
theorem dX9_init_200 : decode cX9_init 200 = .ok (.invokevirtual 86, 3) := by decide +kernel
theorem dX9_init_203 : decode cX9_init 203 = .ok (.aload_n 0, 1) := by decide +kernel
theorem dX9_init_204 : decode cX9_init 204 = .ok (.getfield 40, 3) := by decide +kernel
theorem dX9_init_207 : decode cX9_init 207 = .ok (.iconst 0, 1) := by decide +kernel
theorem dX9_init_208 : decode cX9_init 208 = .ok (.iconst 2, 1) := by decide +kernel
theorem dX9_init_209 : decode cX9_init 209 = .ok (.iastore, 1) := by decide +kernel
theorem dX9_init_210 : decode cX9_init 210 = .ok (.aload_n 0, 1) := by decide +kernel
theorem dX9_init_211 : decode cX9_init 211 = .ok (.getfield 49, 3) := by decide +kernel
theorem dX9_init_214 : decode cX9_init 214 = .ok (.iconst 0, 1) := by decide +kernel
theorem dX9_init_215 : decode cX9_init 215 = .ok (.iconst 3, 1) := by decide +kernel
theorem dX9_init_216 : decode cX9_init 216 = .ok (.iastore, 1) := by decide +kernel
theorem dX9_init_217 : decode cX9_init 217 = .ok (.aload_n 0, 1) := by decide +kernel
theorem dX9_init_218 : decode cX9_init 218 = .ok (.getfield 43, 3) := by decide +kernel
theorem dX9_init_221 : decode cX9_init 221 = .ok (.iconst 1, 1) := by decide +kernel
theorem dX9_init_222 : decode cX9_init 222 = .ok (.iconst 1, 1) := by decide +kernel
theorem dX9_init_223 : decode cX9_init 223 = .ok (.iastore, 1) := by decide +kernel
theorem dX9_init_224 : decode cX9_init 224 = .ok (.aload_n 0, 1) := by decide +kernel
theorem dX9_init_225 : decode cX9_init 225 = .ok (.getfield 46, 3) := by decide +kernel
theorem dX9_init_228 : decode cX9_init 228 = .ok (.iconst 1, 1) := by decide +kernel
theorem dX9_init_229 : decode cX9_init 229 = .ok (.iconst 3, 1) := by decide +kernel
theorem dX9_init_230 : decode cX9_init 230 = .ok (.iastore, 1) := by decide +kernel
theorem dX9_init_231 : decode cX9_init 231 = .ok (.aload_n 0, 1) := by decide +kernel
theorem dX9_init_232 : decode cX9_init 232 = .ok (.getfield 49, 3) := by decide +kernel
theorem dX9_init_235 : decode cX9_init 235 = .ok (.iconst 1, 1) := by decide +kernel
theorem dX9_init_236 : decode cX9_init 236 = .ok (.iconst 3, 1) := by decide +kernel
theorem dX9_init_237 : decode cX9_init 237 = .ok (.iastore, 1) := by decide +kernel
theorem dX9_init_238 : decode cX9_init 238 = .ok (.aload_n 0, 1) := by decide +kernel
theorem dX9_init_239 : decode cX9_init 239 = .ok (.getfield 19, 3) := by decide +kernel
theorem dX9_init_242 : decode cX9_init 242 = .ok (.iconst 0, 1) := by decide +kernel
theorem dX9_init_243 : decode cX9_init 243 = .ok (.iconst 1, 1) := by decide +kernel
theorem dX9_init_244 : decode cX9_init 244 = .ok (.iastore, 1) := by decide +kernel
theorem dX9_init_245 : decode cX9_init 245 = .ok (.aload_n 0, 1) := by decide +kernel
theorem dX9_init_246 : decode cX9_init 246 = .ok (.getfield 31, 3) := by decide +kernel
theorem dX9_init_249 : decode cX9_init 249 = .ok (.iconst 0, 1) := by decide +kernel
theorem dX9_init_250 : decode cX9_init 250 = .ok (.bipush 99, 2) := by decide +kernel
theorem dX9_init_252 : decode cX9_init 252 = .ok (.iastore, 1) := by decide +kernel
theorem dX9_init_253 : decode cX9_init 253 = .ok (.return_, 1) := by decide +kernel
theorem dX9_in_0 : decode cX9_in 0 = .ok (.lload_n 0, 1) := by decide +kernel
theorem dX9_in_1 : decode cX9_in 1 = .ok (.lload_n 2, 1) := by decide +kernel
theorem dX9_in_2 : decode cX9_in 2 = .ok (.lcmp, 1) := by decide +kernel
theorem dX9_in_3 : decode cX9_in 3 = .ok (.ifCond .lt 14, 3) := by decide +kernel
theorem dX9_in_6 : decode cX9_in 6 = .ok (.lload_n 0, 1) := by decide +kernel
theorem dX9_in_7 : decode cX9_in 7 = .ok (.lload 4, 2) := by decide +kernel
theorem dX9_in_9 : decode cX9_in 9 = .ok (.lcmp, 1) := by decide +kernel
theorem dX9_in_10 : decode cX9_in 10 = .ok (.ifCond .gt 7, 3) := by decide +kernel
theorem dX9_in_13 : decode cX9_in 13 = .ok (.iconst 1, 1) := by decide +kernel
theorem dX9_in_14 : decode cX9_in 14 = .ok (.goto 4, 3) := by decide +kernel
theorem dX9_in_17 : decode cX9_in 17 = .ok (.iconst 0, 1) := by decide +kernel
theorem dX9_in_18 : decode cX9_in 18 = .ok (.ireturn, 1) := by decide +kernel
theorem dX9_has_0 : decode cX9_has 0 = .ok (.iload_n 0, 1) := by decide +kernel
theorem dX9_has_1 : decode cX9_has 1 = .ok (.iload_n 1, 1) := by decide +kernel
theorem dX9_has_2 : decode cX9_has 2 = .ok (.ishr, 1) := by decide +kernel
theorem dX9_has_3 : decode cX9_has 3 = .ok (.iconst 1, 1) := by decide +kernel
theorem dX9_has_4 : decode cX9_has 4 = .ok (.iand, 1) := by decide +kernel
theorem dX9_has_5 : decode cX9_has 5 = .ok (.iconst 1, 1) := by decide +kernel
theorem dX9_has_6 : decode cX9_has 6 = .ok (.if_icmp .ne 7, 3) := by decide +kernel
theorem dX9_has_9 : decode cX9_has 9 = .ok (.iconst 1, 1) := by decide +kernel
theorem dX9_has_10 : decode cX9_has 10 = .ok (.goto 4, 3) := by decide +kernel
theorem dX9_has_13 : decode cX9_has 13 = .ok (.iconst 0, 1) := by decide +kernel
theorem dX9_has_14 : decode cX9_has 14 = .ok (.ireturn, 1) := by decide +kernel
theorem dX9_noRock_0 : decode cX9_noRock 0 = .ok (.aload_n 0, 1) := by decide +kernel
theorem dX9_noRock_1 : decode cX9_noRock 1 = .ok (.getfield 13, 3) := by decide +kernel
theorem dX9_noRock_4 : decode cX9_noRock 4 = .ok (.iload_n 1, 1) := by decide +kernel
theorem dX9_noRock_5 : decode cX9_noRock 5 = .ok (.iconst 0, 1) := by decide +kernel
theorem dX9_noRock_6 : decode cX9_noRock 6 = .ok (.iastore, 1) := by decide +kernel
theorem dX9_noRock_7 : decode cX9_noRock 7 = .ok (.aload_n 0, 1) := by decide +kernel
theorem dX9_noRock_8 : decode cX9_noRock 8 = .ok (.getfield 16, 3) := by decide +kernel
theorem dX9_noRock_11 : decode cX9_noRock 11 = .ok (.iload_n 1, 1) := by decide +kernel
theorem dX9_noRock_12 : decode cX9_noRock 12 = .ok (.bipush 12, 2) := by decide +kernel
theorem dX9_noRock_14 : decode cX9_noRock 14 = .ok (.iastore, 1) := by decide +kernel
theorem dX9_noRock_15 : decode cX9_noRock 15 = .ok (.aload_n 0, 1) := by decide +kernel
theorem dX9_noRock_16 : decode cX9_noRock 16 = .ok (.getfield 19, 3) := by decide +kernel
theorem dX9_noRock_19 : decode cX9_noRock 19 = .ok (.iload_n 1, 1) := by decide +kernel
theorem dX9_noRock_20 : decode cX9_noRock 20 = .ok (.iconst 0, 1) := by decide +kernel
theorem dX9_noRock_21 : decode cX9_noRock 21 = .ok (.iastore, 1) := by decide +kernel
theorem dX9_noRock_22 : decode cX9_noRock 22 = .ok (.aload_n 0, 1) := by decide +kernel
theorem dX9_noRock_23 : decode cX9_noRock 23 = .ok (.getfield 34, 3) := by decide +kernel
theorem dX9_noRock_26 : decode cX9_noRock 26 = .ok (.iload_n 1, 1) := by decide +kernel
theorem dX9_noRock_27 : decode cX9_noRock 27 = .ok (.iconst 0, 1) := by decide +kernel
theorem dX9_noRock_28 : decode cX9_noRock 28 = .ok (.iastore, 1) := by decide +kernel
theorem dX9_noRock_29 : decode cX9_noRock 29 = .ok (.aload_n 0, 1) := by decide +kernel
theorem dX9_noRock_30 : decode cX9_noRock 30 = .ok (.getfield 37, 3) := by decide +kernel
theorem dX9_noRock_33 : decode cX9_noRock 33 = .ok (.iload_n 1, 1) := by decide +kernel
theorem dX9_noRock_34 : decode cX9_noRock 34 = .ok (.bipush 7, 2) := by decide +kernel
theorem dX9_noRock_36 : decode cX9_noRock 36 = .ok (.iastore, 1) := by decide +kernel
theorem dX9_noRock_37 : decode cX9_noRock 37 = .ok (.aload_n 0, 1) := by decide +kernel
theorem dX9_noRock_38 : decode cX9_noRock 38 = .ok (.getfield 40, 3) := by decide +kernel
theorem dX9_noRock_41 : decode cX9_noRock 41 = .ok (.iload_n 1, 1) := by decide +kernel
theorem dX9_noRock_42 : decode cX9_noRock 42 = .ok (.iconst 0, 1) := by decide +kernel
theorem dX9_noRock_43 : decode cX9_noRock 43 = .ok (.iastore, 1) := by decide +kernel
theorem dX9_noRock_44 : decode cX9_noRock 44 = .ok (.return_, 1) := by decide +kernel
theorem dX9_write_0 : decode cX9_write 0 = .ok (.iload_n 1, 1) := by decide +kernel
theorem dX9_write_1 : decode cX9_write 1 = .ok (.i2l, 1) := by decide +kernel
theorem dX9_write_2 : decode cX9_write 2 = .ok (.lconst 1, 1) := by decide +kernel
theorem dX9_write_3 : decode cX9_write 3 = .ok (.ldc2_w 90, 3) := by decide +kernel
theorem dX9_write_6 : decode cX9_write 6 = .ok (.invokestatic 92, 3) := by decide +kernel
theorem dX9_write_9 : decode cX9_write 9 = .ok (.ifCond .ne 5, 3) := by decide +kernel
theorem dX9_write_12 : decode cX9_write 12 = .ok (.iconst (-1), 1) := by decide +kernel
theorem dX9_write_13 : decode cX9_write 13 = .ok (.ireturn, 1) := by decide +kernel
theorem dX9_write_14 : decode cX9_write 14 = .ok (.aload_n 0, 1) := by decide +kernel
theorem dX9_write_15 : decode cX9_write 15 = .ok (.getfield 96, 3) := by decide +kernel
theorem dX9_write_18 : decode cX9_write 18 = .ok (.iload_n 1, 1) := by decide +kernel
theorem dX9_write_19 : decode cX9_write 19 = .ok (.iadd, 1) := by decide +kernel
theorem dX9_write_20 : decode cX9_write 20 = .ok (.sipush 300, 3) := by decide +kernel
theorem dX9_write_23 : decode cX9_write 23 = .ok (.if_icmp .le 6, 3) := by decide +kernel
theorem dX9_write_26 : decode cX9_write 26 = .ok (.bipush (-3), 2) := by decide +kernel
theorem dX9_write_28 : decode cX9_write 28 = .ok (.ireturn, 1) := by decide +kernel
theorem dX9_write_29 : decode cX9_write 29 = .ok (.iload_n 1, 1) := by decide +kernel
theorem dX9_write_30 : decode cX9_write 30 = .ok (.iconst 1, 1) := by decide +kernel
theorem dX9_write_31 : decode cX9_write 31 = .ok (.isub, 1) := by decide +kernel
theorem dX9_write_32 : decode cX9_write 32 = .ok (.istore 4, 2) := by decide +kernel
theorem dX9_write_34 : decode cX9_write 34 = .ok (.iload 4, 2) := by decide +kernel
theorem dX9_write_36 : decode cX9_write 36 = .ok (.ifCond .lt 40, 3) := by decide +kernel
theorem dX9_write_39 : decode cX9_write 39 = .ok (.aload_n 0, 1) := by decide +kernel
theorem dX9_write_40 : decode cX9_write 40 = .ok (.getfield 7, 3) := by decide +kernel
theorem dX9_write_43 : decode cX9_write 43 = .ok (.aload_n 0, 1) := by decide +kernel
theorem dX9_write_44 : decode cX9_write 44 = .ok (.getfield 96, 3) := by decide +kernel
theorem dX9_write_47 : decode cX9_write 47 = .ok (.lload_n 2, 1) := by decide +kernel
theorem dX9_write_48 : decode cX9_write 48 = .ok (.bipush 8, 2) := by decide +kernel
theorem dX9_write_50 : decode cX9_write 50 = .ok (.iload 4, 2) := by decide +kernel
theorem dX9_write_52 : decode cX9_write 52 = .ok (.imul, 1) := by decide +kernel
theorem dX9_write_53 : decode cX9_write 53 = .ok (.lshr, 1) := by decide +kernel
theorem dX9_write_54 : decode cX9_write 54 = .ok (.ldc2_w 100, 3) := by decide +kernel
theorem dX9_write_57 : decode cX9_write 57 = .ok (.land, 1) := by decide +kernel
theorem dX9_write_58 : decode cX9_write 58 = .ok (.l2i, 1) := by decide +kernel
theorem dX9_write_59 : decode cX9_write 59 = .ok (.iastore, 1) := by decide +kernel
theorem dX9_write_60 : decode cX9_write 60 = .ok (.aload_n 0, 1) := by decide +kernel
theorem dX9_write_61 : decode cX9_write 61 = .ok (.dup, 1) := by decide +kernel
theorem dX9_write_62 : decode cX9_write 62 = .ok (.getfield 96, 3) := by decide +kernel
theorem dX9_write_65 : decode cX9_write 65 = .ok (.iconst 1, 1) := by decide +kernel
theorem dX9_write_66 : decode cX9_write 66 = .ok (.iadd, 1) := by decide +kernel
theorem dX9_write_67 : decode cX9_write 67 = .ok (.putfield 96, 3) := by decide +kernel
theorem dX9_write_70 : decode cX9_write 70 = .ok (.iinc 4 (-1), 3) := by decide +kernel
theorem dX9_write_73 : decode cX9_write 73 = .ok (.goto (-39), 3) := by decide +kernel
theorem dX9_write_76 : decode cX9_write 76 = .ok (.aload_n 0, 1) := by decide +kernel
theorem dX9_write_77 : decode cX9_write 77 = .ok (.getfield 96, 3) := by decide +kernel
theorem dX9_write_80 : decode cX9_write 80 = .ok (.ireturn, 1) := by decide +kernel
theorem dX9_wipe_0 : decode cX9_wipe 0 = .ok (.aload_n 0, 1) := by decide +kernel
theorem dX9_wipe_1 : decode cX9_wipe 1 = .ok (.getfield 96, 3) := by decide +kernel
theorem dX9_wipe_4 : decode cX9_wipe 4 = .ok (.istore_n 1, 1) := by decide +kernel
theorem dX9_wipe_5 : decode cX9_wipe 5 = .ok (.aload_n 0, 1) := by decide +kernel
theorem dX9_wipe_6 : decode cX9_wipe 6 = .ok (.iconst 0, 1) := by decide +kernel
theorem dX9_wipe_7 : decode cX9_wipe 7 = .ok (.putfield 96, 3) := by decide +kernel
theorem dX9_wipe_10 : decode cX9_wipe 10 = .ok (.iload_n 1, 1) := by decide +kernel
theorem dX9_wipe_11 : decode cX9_wipe 11 = .ok (.ireturn, 1) := by decide +kernel
theorem dX9_byteAt_0 : decode cX9_byteAt 0 = .ok (.iload_n 1, 1) := by decide +kernel
theorem dX9_byteAt_1 : decode cX9_byteAt 1 = .ok (.aload_n 0, 1) := by decide +kernel
theorem dX9_byteAt_2 : decode cX9_byteAt 2 = .ok (.getfield 96, 3) := by decide +kernel
theorem dX9_byteAt_5 : decode cX9_byteAt 5 = .ok (.if_icmp .ge 12, 3) := by decide +kernel
theorem dX9_byteAt_8 : decode cX9_byteAt 8 = .ok (.aload_n 0, 1) := by decide +kernel
theorem dX9_byteAt_9 : decode cX9_byteAt 9 = .ok (.getfield 7, 3) := by decide +kernel
theorem dX9_byteAt_12 : decode cX9_byteAt 12 = .ok (.iload_n 1, 1) := by decide +kernel
theorem dX9_byteAt_13 : decode cX9_byteAt 13 = .ok (.iaload, 1) := by decide +kernel
theorem dX9_byteAt_14 : decode cX9_byteAt 14 = .ok (.goto 4, 3) := by decide +kernel
theorem dX9_byteAt_17 : decode cX9_byteAt 17 = .ok (.iconst 0, 1) := by decide +kernel
theorem dX9_byteAt_18 : decode cX9_byteAt 18 = .ok (.ireturn, 1) := by decide +kernel
theorem dX9_figures_0 : decode cX9_figures 0 = .ok (.iconst 0, 1) := by decide +kernel
theorem dX9_figures_1 : decode cX9_figures 1 = .ok (.istore_n 2, 1) := by decide +kernel
theorem dX9_figures_2 : decode cX9_figures 2 = .ok (.iload_n 2, 1) := by decide +kernel
theorem dX9_figures_3 : decode cX9_figures 3 = .ok (.iload_n 1, 1) := by decide +kernel
theorem dX9_figures_4 : decode cX9_figures 4 = .ok (.if_icmp .ge 132, 3) := by decide +kernel
theorem dX9_figures_7 : decode cX9_figures 7 = .ok (.iconst 0, 1) := by decide +kernel
theorem dX9_figures_8 : decode cX9_figures 8 = .ok (.istore_n 3, 1) := by decide +kernel
theorem dX9_figures_9 : decode cX9_figures 9 = .ok (.iconst 0, 1) := by decide +kernel
theorem dX9_figures_10 : decode cX9_figures 10 = .ok (.istore 4, 2) := by decide +kernel
theorem dX9_figures_12 : decode cX9_figures 12 = .ok (.aload_n 0, 1) := by decide +kernel
theorem dX9_figures_13 : decode cX9_figures 13 = .ok (.aload_n 0, 1) := by decide +kernel
theorem dX9_figures_14 : decode cX9_figures 14 = .ok (.getfield 102, 3) := by decide +kernel
theorem dX9_figures_17 : decode cX9_figures 17 = .ok (.invokevirtual 105, 3) := by decide +kernel
theorem dX9_figures_20 : decode cX9_figures 20 = .ok (.i2l, 1) := by decide +kernel
theorem dX9_figures_21 : decode cX9_figures 21 = .ok (.ldc2_w 109, 3) := by decide +kernel
theorem dX9_figures_24 : decode cX9_figures 24 = .ok (.ldc2_w 111, 3) := by decide +kernel
theorem dX9_figures_27 : decode cX9_figures 27 = .ok (.invokestatic 92, 3) := by decide +kernel
theorem dX9_figures_30 : decode cX9_figures 30 = .ok (.ifCond .eq 43, 3) := by decide +kernel
theorem dX9_figures_33 : decode cX9_figures 33 = .ok (.iload_n 3, 1) := by decide +kernel
theorem dX9_figures_34 : decode cX9_figures 34 = .ok (.iconst 3, 1) := by decide +kernel
theorem dX9_figures_35 : decode cX9_figures 35 = .ok (.if_icmp .ge 38, 3) := by decide +kernel
theorem dX9_figures_38 : decode cX9_figures 38 = .ok (.bipush 10, 2) := by decide +kernel
theorem dX9_figures_40 : decode cX9_figures 40 = .ok (.iload 4, 2) := by decide +kernel
theorem dX9_figures_42 : decode cX9_figures 42 = .ok (.imul, 1) := by decide +kernel
theorem dX9_figures_43 : decode cX9_figures 43 = .ok (.aload_n 0, 1) := by decide +kernel
theorem dX9_figures_44 : decode cX9_figures 44 = .ok (.aload_n 0, 1) := by decide +kernel
theorem dX9_figures_45 : decode cX9_figures 45 = .ok (.getfield 102, 3) := by decide +kernel
theorem dX9_figures_48 : decode cX9_figures 48 = .ok (.invokevirtual 105, 3) := by decide +kernel
theorem dX9_figures_51 : decode cX9_figures 51 = .ok (.iadd, 1) := by decide +kernel
theorem dX9_figures_52 : decode cX9_figures 52 = .ok (.bipush 48, 2) := by decide +kernel
theorem dX9_figures_54 : decode cX9_figures 54 = .ok (.isub, 1) := by decide +kernel
theorem dX9_figures_55 : decode cX9_figures 55 = .ok (.istore 4, 2) := by decide +kernel
theorem dX9_figures_57 : decode cX9_figures 57 = .ok (.iinc 3 1, 3) := by decide +kernel
theorem dX9_figures_60 : decode cX9_figures 60 = .ok (.aload_n 0, 1) := by decide +kernel
theorem dX9_figures_61 : decode cX9_figures 61 = .ok (.dup, 1) := by decide +kernel
theorem dX9_figures_62 : decode cX9_figures 62 = .ok (.getfield 102, 3) := by decide +kernel
theorem dX9_figures_65 : decode cX9_figures 65 = .ok (.iconst 1, 1) := by decide +kernel
theorem dX9_figures_66 : decode cX9_figures 66 = .ok (.iadd, 1) := by decide +kernel
theorem dX9_figures_67 : decode cX9_figures 67 = .ok (.putfield 102, 3) := by decide +kernel
theorem dX9_figures_70 : decode cX9_figures 70 = .ok (.goto (-58), 3) := by decide +kernel
theorem dX9_figures_73 : decode cX9_figures 73 = .ok (.iload_n 3, 1) := by decide +kernel
theorem dX9_figures_74 : decode cX9_figures 74 = .ok (.i2l, 1) := by decide +kernel
theorem dX9_figures_75 : decode cX9_figures 75 = .ok (.lconst 1, 1) := by decide +kernel
theorem dX9_figures_76 : decode cX9_figures 76 = .ok (.ldc2_w 113, 3) := by decide +kernel
theorem dX9_figures_79 : decode cX9_figures 79 = .ok (.invokestatic 92, 3) := by decide +kernel
theorem dX9_figures_82 : decode cX9_figures 82 = .ok (.ifCond .eq 28, 3) := by decide +kernel
theorem dX9_figures_85 : decode cX9_figures 85 = .ok (.aload_n 0, 1) := by decide +kernel
theorem dX9_figures_86 : decode cX9_figures 86 = .ok (.aload_n 0, 1) := by decide +kernel
theorem dX9_figures_87 : decode cX9_figures 87 = .ok (.getfield 102, 3) := by decide +kernel
theorem dX9_figures_90 : decode cX9_figures 90 = .ok (.invokevirtual 105, 3) := by decide +kernel
theorem dX9_figures_93 : decode cX9_figures 93 = .ok (.iload_n 2, 1) := by decide +kernel
theorem dX9_figures_94 : decode cX9_figures 94 = .ok (.iload_n 1, 1) := by decide +kernel
theorem dX9_figures_95 : decode cX9_figures 95 = .ok (.iconst 1, 1) := by decide +kernel
theorem dX9_figures_96 : decode cX9_figures 96 = .ok (.isub, 1) := by decide +kernel
theorem dX9_figures_97 : decode cX9_figures 97 = .ok (.if_icmp .ge 8, 3) := by decide +kernel
theorem dX9_figures_100 : decode cX9_figures 100 = .ok (.bipush 44, 2) := by decide +kernel
theorem dX9_figures_102 : decode cX9_figures 102 = .ok (.goto 5, 3) := by decide +kernel
theorem dX9_figures_105 : decode cX9_figures 105 = .ok (.bipush 59, 2) := by decide +kernel
theorem dX9_figures_107 : decode cX9_figures 107 = .ok (.if_icmp .eq 5, 3) := by decide +kernel
theorem dX9_figures_110 : decode cX9_figures 110 = .ok (.iconst 0, 1) := by decide +kernel
theorem dX9_figures_111 : decode cX9_figures 111 = .ok (.ireturn, 1) := by decide +kernel
theorem dX9_figures_112 : decode cX9_figures 112 = .ok (.aload_n 0, 1) := by decide +kernel
theorem dX9_figures_113 : decode cX9_figures 113 = .ok (.getfield 58, 3) := by decide +kernel
theorem dX9_figures_116 : decode cX9_figures 116 = .ok (.iload_n 2, 1) := by decide +kernel
theorem dX9_figures_117 : decode cX9_figures 117 = .ok (.iload 4, 2) := by decide +kernel
theorem dX9_figures_119 : decode cX9_figures 119 = .ok (.iastore, 1) := by decide +kernel
theorem dX9_figures_120 : decode cX9_figures 120 = .ok (.aload_n 0, 1) := by decide +kernel
theorem dX9_figures_121 : decode cX9_figures 121 = .ok (.dup, 1) := by decide +kernel
theorem dX9_figures_122 : decode cX9_figures 122 = .ok (.getfield 102, 3) := by decide +kernel
theorem dX9_figures_125 : decode cX9_figures 125 = .ok (.iconst 1, 1) := by decide +kernel
theorem dX9_figures_126 : decode cX9_figures 126 = .ok (.iadd, 1) := by decide +kernel
theorem dX9_figures_127 : decode cX9_figures 127 = .ok (.putfield 102, 3) := by decide +kernel
theorem dX9_figures_130 : decode cX9_figures 130 = .ok (.iinc 2 1, 3) := by decide +kernel
theorem dX9_figures_133 : decode cX9_figures 133 = .ok (.goto (-131), 3) := by decide +kernel
theorem dX9_figures_136 : decode cX9_figures 136 = .ok (.iconst 1, 1) := by decide +kernel
theorem dX9_figures_137 : decode cX9_figures 137 = .ok (.ireturn, 1) := by decide +kernel
theorem dX9_item_0 : decode cX9_item 0 = .ok (.aload_n 0, 1) := by decide +kernel
theorem dX9_item_1 : decode cX9_item 1 = .ok (.aload_n 0, 1) := by decide +kernel
theorem dX9_item_2 : decode cX9_item 2 = .ok (.getfield 102, 3) := by decide +kernel
theorem dX9_item_5 : decode cX9_item 5 = .ok (.invokevirtual 105, 3) := by decide +kernel
theorem dX9_item_8 : decode cX9_item 8 = .ok (.istore_n 1, 1) := by decide +kernel
theorem dX9_item_9 : decode cX9_item 9 = .ok (.aload_n 0, 1) := by decide +kernel
theorem dX9_item_10 : decode cX9_item 10 = .ok (.dup, 1) := by decide +kernel
theorem dX9_item_11 : decode cX9_item 11 = .ok (.getfield 102, 3) := by decide +kernel
theorem dX9_item_14 : decode cX9_item 14 = .ok (.iconst 1, 1) := by decide +kernel
theorem dX9_item_15 : decode cX9_item 15 = .ok (.iadd, 1) := by decide +kernel
theorem dX9_item_16 : decode cX9_item 16 = .ok (.putfield 102, 3) := by decide +kernel
theorem dX9_item_19 : decode cX9_item 19 = .ok (.iload_n 1, 1) := by decide +kernel
theorem dX9_item_20 : decode cX9_item 20 = .ok (.tableswitch 461 110 116 #[270, 461, 403, 461, 44, 461, 108], 44) := by decide +kernel
theorem dX9_item_64 : decode cX9_item 64 = .ok (.aload_n 0, 1) := by decide +kernel
theorem dX9_item_65 : decode cX9_item 65 = .ok (.iconst 2, 1) := by decide +kernel
theorem dX9_item_66 : decode cX9_item 66 = .ok (.invokevirtual 115, 3) := by decide +kernel
theorem dX9_item_69 : decode cX9_item 69 = .ok (.ifCond .eq 31, 3) := by decide +kernel
theorem dX9_item_72 : decode cX9_item 72 = .ok (.aload_n 0, 1) := by decide +kernel
theorem dX9_item_73 : decode cX9_item 73 = .ok (.getfield 58, 3) := by decide +kernel
theorem dX9_item_76 : decode cX9_item 76 = .ok (.iconst 0, 1) := by decide +kernel
theorem dX9_item_77 : decode cX9_item 77 = .ok (.iaload, 1) := by decide +kernel
theorem dX9_item_78 : decode cX9_item 78 = .ok (.bipush 23, 2) := by decide +kernel
theorem dX9_item_80 : decode cX9_item 80 = .ok (.if_icmp .gt 20, 3) := by decide +kernel
theorem dX9_item_83 : decode cX9_item 83 = .ok (.aload_n 0, 1) := by decide +kernel
theorem dX9_item_84 : decode cX9_item 84 = .ok (.getfield 58, 3) := by decide +kernel
theorem dX9_item_87 : decode cX9_item 87 = .ok (.iconst 1, 1) := by decide +kernel
theorem dX9_item_88 : decode cX9_item 88 = .ok (.iaload, 1) := by decide +kernel
theorem dX9_item_89 : decode cX9_item 89 = .ok (.i2l, 1) := by decide +kernel
theorem dX9_item_90 : decode cX9_item 90 = .ok (.lconst 1, 1) := by decide +kernel
theorem dX9_item_91 : decode cX9_item 91 = .ok (.ldc2_w 119, 3) := by decide +kernel
theorem dX9_item_94 : decode cX9_item 94 = .ok (.invokestatic 92, 3) := by decide +kernel
theorem dX9_item_97 : decode cX9_item 97 = .ok (.ifCond .ne 5, 3) := by decide +kernel
theorem dX9_item_100 : decode cX9_item 100 = .ok (.iconst 0, 1) := by decide +kernel
theorem dX9_item_101 : decode cX9_item 101 = .ok (.ireturn, 1) := by decide +kernel
theorem dX9_item_102 : decode cX9_item 102 = .ok (.aload_n 0, 1) := by decide +kernel
theorem dX9_item_103 : decode cX9_item 103 = .ok (.getfield 13, 3) := by decide +kernel
theorem dX9_item_106 : decode cX9_item 106 = .ok (.iconst 1, 1) := by decide +kernel
theorem dX9_item_107 : decode cX9_item 107 = .ok (.aload_n 0, 1) := by decide +kernel
theorem dX9_item_108 : decode cX9_item 108 = .ok (.getfield 58, 3) := by decide +kernel
theorem dX9_item_111 : decode cX9_item 111 = .ok (.iconst 0, 1) := by decide +kernel
theorem dX9_item_112 : decode cX9_item 112 = .ok (.iaload, 1) := by decide +kernel
theorem dX9_item_113 : decode cX9_item 113 = .ok (.iastore, 1) := by decide +kernel
theorem dX9_item_114 : decode cX9_item 114 = .ok (.aload_n 0, 1) := by decide +kernel
theorem dX9_item_115 : decode cX9_item 115 = .ok (.getfield 16, 3) := by decide +kernel
theorem dX9_item_118 : decode cX9_item 118 = .ok (.iconst 1, 1) := by decide +kernel
theorem dX9_item_119 : decode cX9_item 119 = .ok (.aload_n 0, 1) := by decide +kernel
theorem dX9_item_120 : decode cX9_item 120 = .ok (.getfield 58, 3) := by decide +kernel
theorem dX9_item_123 : decode cX9_item 123 = .ok (.iconst 1, 1) := by decide +kernel
theorem dX9_item_124 : decode cX9_item 124 = .ok (.iaload, 1) := by decide +kernel
theorem dX9_item_125 : decode cX9_item 125 = .ok (.iastore, 1) := by decide +kernel
theorem dX9_item_126 : decode cX9_item 126 = .ok (.iconst 1, 1) := by decide +kernel
theorem dX9_item_127 : decode cX9_item 127 = .ok (.ireturn, 1) := by decide +kernel
theorem dX9_item_128 : decode cX9_item 128 = .ok (.aload_n 0, 1) := by decide +kernel
theorem dX9_item_129 : decode cX9_item 129 = .ok (.iconst 4, 1) := by decide +kernel
theorem dX9_item_130 : decode cX9_item 130 = .ok (.invokevirtual 115, 3) := by decide +kernel
theorem dX9_item_133 : decode cX9_item 133 = .ok (.ifCond .eq 63, 3) := by decide +kernel
theorem dX9_item_136 : decode cX9_item 136 = .ok (.aload_n 0, 1) := by decide +kernel
theorem dX9_item_137 : decode cX9_item 137 = .ok (.getfield 40, 3) := by decide +kernel
theorem dX9_item_140 : decode cX9_item 140 = .ok (.iconst 1, 1) := by decide +kernel
theorem dX9_item_141 : decode cX9_item 141 = .ok (.iaload, 1) := by decide +kernel
theorem dX9_item_142 : decode cX9_item 142 = .ok (.bipush 7, 2) := by decide +kernel
theorem dX9_item_144 : decode cX9_item 144 = .ok (.if_icmp .eq 52, 3) := by decide +kernel
theorem dX9_item_147 : decode cX9_item 147 = .ok (.aload_n 0, 1) := by decide +kernel
theorem dX9_item_148 : decode cX9_item 148 = .ok (.getfield 58, 3) := by decide +kernel
theorem dX9_item_151 : decode cX9_item 151 = .ok (.iconst 0, 1) := by decide +kernel
theorem dX9_item_152 : decode cX9_item 152 = .ok (.iaload, 1) := by decide +kernel
theorem dX9_item_153 : decode cX9_item 153 = .ok (.bipush 40, 2) := by decide +kernel
theorem dX9_item_155 : decode cX9_item 155 = .ok (.if_icmp .gt 41, 3) := by decide +kernel
theorem dX9_item_158 : decode cX9_item 158 = .ok (.aload_n 0, 1) := by decide +kernel
theorem dX9_item_159 : decode cX9_item 159 = .ok (.getfield 58, 3) := by decide +kernel
theorem dX9_item_162 : decode cX9_item 162 = .ok (.iconst 1, 1) := by decide +kernel
theorem dX9_item_163 : decode cX9_item 163 = .ok (.iaload, 1) := by decide +kernel
theorem dX9_item_164 : decode cX9_item 164 = .ok (.bipush 23, 2) := by decide +kernel
theorem dX9_item_166 : decode cX9_item 166 = .ok (.if_icmp .gt 30, 3) := by decide +kernel
theorem dX9_item_169 : decode cX9_item 169 = .ok (.aload_n 0, 1) := by decide +kernel
theorem dX9_item_170 : decode cX9_item 170 = .ok (.getfield 58, 3) := by decide +kernel
theorem dX9_item_173 : decode cX9_item 173 = .ok (.iconst 2, 1) := by decide +kernel
theorem dX9_item_174 : decode cX9_item 174 = .ok (.iaload, 1) := by decide +kernel
theorem dX9_item_175 : decode cX9_item 175 = .ok (.i2l, 1) := by decide +kernel
theorem dX9_item_176 : decode cX9_item 176 = .ok (.lconst 1, 1) := by decide +kernel
theorem dX9_item_177 : decode cX9_item 177 = .ok (.ldc2_w 121, 3) := by decide +kernel
theorem dX9_item_180 : decode cX9_item 180 = .ok (.invokestatic 92, 3) := by decide +kernel
theorem dX9_item_183 : decode cX9_item 183 = .ok (.ifCond .eq 13, 3) := by decide +kernel
theorem dX9_item_186 : decode cX9_item 186 = .ok (.aload_n 0, 1) := by decide +kernel
theorem dX9_item_187 : decode cX9_item 187 = .ok (.getfield 58, 3) := by decide +kernel
theorem dX9_item_190 : decode cX9_item 190 = .ok (.iconst 3, 1) := by decide +kernel
theorem dX9_item_191 : decode cX9_item 191 = .ok (.iaload, 1) := by decide +kernel
theorem dX9_item_192 : decode cX9_item 192 = .ok (.iconst 3, 1) := by decide +kernel
theorem dX9_item_193 : decode cX9_item 193 = .ok (.if_icmp .le 5, 3) := by decide +kernel
theorem dX9_item_196 : decode cX9_item 196 = .ok (.iconst 0, 1) := by decide +kernel
theorem dX9_item_197 : decode cX9_item 197 = .ok (.ireturn, 1) := by decide +kernel
theorem dX9_item_198 : decode cX9_item 198 = .ok (.aload_n 0, 1) := by decide +kernel
theorem dX9_item_199 : decode cX9_item 199 = .ok (.getfield 43, 3) := by decide +kernel
theorem dX9_item_202 : decode cX9_item 202 = .ok (.bipush 7, 2) := by decide +kernel
theorem dX9_item_204 : decode cX9_item 204 = .ok (.aload_n 0, 1) := by decide +kernel
theorem dX9_item_205 : decode cX9_item 205 = .ok (.getfield 40, 3) := by decide +kernel
theorem dX9_item_208 : decode cX9_item 208 = .ok (.iconst 1, 1) := by decide +kernel
theorem dX9_item_209 : decode cX9_item 209 = .ok (.iaload, 1) := by decide +kernel
theorem dX9_item_210 : decode cX9_item 210 = .ok (.iadd, 1) := by decide +kernel
theorem dX9_item_211 : decode cX9_item 211 = .ok (.aload_n 0, 1) := by decide +kernel
theorem dX9_item_212 : decode cX9_item 212 = .ok (.getfield 58, 3) := by decide +kernel
theorem dX9_item_215 : decode cX9_item 215 = .ok (.iconst 0, 1) := by decide +kernel
theorem dX9_item_216 : decode cX9_item 216 = .ok (.iaload, 1) := by decide +kernel
theorem dX9_item_217 : decode cX9_item 217 = .ok (.iastore, 1) := by decide +kernel
theorem dX9_item_218 : decode cX9_item 218 = .ok (.aload_n 0, 1) := by decide +kernel
theorem dX9_item_219 : decode cX9_item 219 = .ok (.getfield 46, 3) := by decide +kernel
theorem dX9_item_222 : decode cX9_item 222 = .ok (.bipush 7, 2) := by decide +kernel
theorem dX9_item_224 : decode cX9_item 224 = .ok (.aload_n 0, 1) := by decide +kernel
theorem dX9_item_225 : decode cX9_item 225 = .ok (.getfield 40, 3) := by decide +kernel
theorem dX9_item_228 : decode cX9_item 228 = .ok (.iconst 1, 1) := by decide +kernel
theorem dX9_item_229 : decode cX9_item 229 = .ok (.iaload, 1) := by decide +kernel
theorem dX9_item_230 : decode cX9_item 230 = .ok (.iadd, 1) := by decide +kernel
theorem dX9_item_231 : decode cX9_item 231 = .ok (.aload_n 0, 1) := by decide +kernel
theorem dX9_item_232 : decode cX9_item 232 = .ok (.getfield 58, 3) := by decide +kernel
theorem dX9_item_235 : decode cX9_item 235 = .ok (.iconst 1, 1) := by decide +kernel
theorem dX9_item_236 : decode cX9_item 236 = .ok (.iaload, 1) := by decide +kernel
theorem dX9_item_237 : decode cX9_item 237 = .ok (.iastore, 1) := by decide +kernel
theorem dX9_item_238 : decode cX9_item 238 = .ok (.aload_n 0, 1) := by decide +kernel
theorem dX9_item_239 : decode cX9_item 239 = .ok (.getfield 49, 3) := by decide +kernel
theorem dX9_item_242 : decode cX9_item 242 = .ok (.bipush 7, 2) := by decide +kernel
theorem dX9_item_244 : decode cX9_item 244 = .ok (.aload_n 0, 1) := by decide +kernel
theorem dX9_item_245 : decode cX9_item 245 = .ok (.getfield 40, 3) := by decide +kernel
theorem dX9_item_248 : decode cX9_item 248 = .ok (.iconst 1, 1) := by decide +kernel
theorem dX9_item_249 : decode cX9_item 249 = .ok (.iaload, 1) := by decide +kernel
theorem dX9_item_250 : decode cX9_item 250 = .ok (.iadd, 1) := by decide +kernel
theorem dX9_item_251 : decode cX9_item 251 = .ok (.aload_n 0, 1) := by decide +kernel
theorem dX9_item_252 : decode cX9_item 252 = .ok (.getfield 58, 3) := by decide +kernel
theorem dX9_item_255 : decode cX9_item 255 = .ok (.iconst 2, 1) := by decide +kernel
theorem dX9_item_256 : decode cX9_item 256 = .ok (.iaload, 1) := by decide +kernel
theorem dX9_item_257 : decode cX9_item 257 = .ok (.iastore, 1) := by decide +kernel
theorem dX9_item_258 : decode cX9_item 258 = .ok (.aload_n 0, 1) := by decide +kernel
theorem dX9_item_259 : decode cX9_item 259 = .ok (.getfield 52, 3) := by decide +kernel
theorem dX9_item_262 : decode cX9_item 262 = .ok (.bipush 7, 2) := by decide +kernel
theorem dX9_item_264 : decode cX9_item 264 = .ok (.aload_n 0, 1) := by decide +kernel
theorem dX9_item_265 : decode cX9_item 265 = .ok (.getfield 40, 3) := by decide +kernel
theorem dX9_item_268 : decode cX9_item 268 = .ok (.iconst 1, 1) := by decide +kernel
theorem dX9_item_269 : decode cX9_item 269 = .ok (.iaload, 1) := by decide +kernel
theorem dX9_item_270 : decode cX9_item 270 = .ok (.iadd, 1) := by decide +kernel
theorem dX9_item_271 : decode cX9_item 271 = .ok (.aload_n 0, 1) := by decide +kernel
theorem dX9_item_272 : decode cX9_item 272 = .ok (.getfield 58, 3) := by decide +kernel
theorem dX9_item_275 : decode cX9_item 275 = .ok (.iconst 3, 1) := by decide +kernel
theorem dX9_item_276 : decode cX9_item 276 = .ok (.iaload, 1) := by decide +kernel
theorem dX9_item_277 : decode cX9_item 277 = .ok (.iastore, 1) := by decide +kernel
theorem dX9_item_278 : decode cX9_item 278 = .ok (.aload_n 0, 1) := by decide +kernel
theorem dX9_item_279 : decode cX9_item 279 = .ok (.getfield 40, 3) := by decide +kernel
theorem dX9_item_282 : decode cX9_item 282 = .ok (.iconst 1, 1) := by decide +kernel
theorem dX9_item_283 : decode cX9_item 283 = .ok (.dup2, 1) := by decide +kernel
theorem dX9_item_284 : decode cX9_item 284 = .ok (.iaload, 1) := by decide +kernel
theorem dX9_item_285 : decode cX9_item 285 = .ok (.iconst 1, 1) := by decide +kernel
theorem dX9_item_286 : decode cX9_item 286 = .ok (.iadd, 1) := by decide +kernel
theorem dX9_item_287 : decode cX9_item 287 = .ok (.iastore, 1) := by decide +kernel
theorem dX9_item_288 : decode cX9_item 288 = .ok (.iconst 1, 1) := by decide +kernel
theorem dX9_item_289 : decode cX9_item 289 = .ok (.ireturn, 1) := by decide +kernel
theorem dX9_item_290 : decode cX9_item 290 = .ok (.aload_n 0, 1) := by decide +kernel
theorem dX9_item_291 : decode cX9_item 291 = .ok (.iconst 4, 1) := by decide +kernel
theorem dX9_item_292 : decode cX9_item 292 = .ok (.invokevirtual 115, 3) := by decide +kernel
theorem dX9_item_295 : decode cX9_item 295 = .ok (.ifCond .eq 34, 3) := by decide +kernel
theorem dX9_item_298 : decode cX9_item 298 = .ok (.aload_n 0, 1) := by decide +kernel
theorem dX9_item_299 : decode cX9_item 299 = .ok (.getfield 19, 3) := by decide +kernel
theorem dX9_item_302 : decode cX9_item 302 = .ok (.iconst 1, 1) := by decide +kernel
theorem dX9_item_303 : decode cX9_item 303 = .ok (.iaload, 1) := by decide +kernel
theorem dX9_item_304 : decode cX9_item 304 = .ok (.iconst 5, 1) := by decide +kernel
theorem dX9_item_305 : decode cX9_item 305 = .ok (.if_icmp .eq 24, 3) := by decide +kernel
theorem dX9_item_308 : decode cX9_item 308 = .ok (.aload_n 0, 1) := by decide +kernel
theorem dX9_item_309 : decode cX9_item 309 = .ok (.getfield 58, 3) := by decide +kernel
theorem dX9_item_312 : decode cX9_item 312 = .ok (.iconst 0, 1) := by decide +kernel
theorem dX9_item_313 : decode cX9_item 313 = .ok (.iaload, 1) := by decide +kernel
theorem dX9_item_314 : decode cX9_item 314 = .ok (.bipush 23, 2) := by decide +kernel
theorem dX9_item_316 : decode cX9_item 316 = .ok (.if_icmp .gt 13, 3) := by decide +kernel
theorem dX9_item_319 : decode cX9_item 319 = .ok (.aload_n 0, 1) := by decide +kernel
theorem dX9_item_320 : decode cX9_item 320 = .ok (.getfield 58, 3) := by decide +kernel
theorem dX9_item_323 : decode cX9_item 323 = .ok (.iconst 1, 1) := by decide +kernel
theorem dX9_item_324 : decode cX9_item 324 = .ok (.iaload, 1) := by decide +kernel
theorem dX9_item_325 : decode cX9_item 325 = .ok (.iconst 3, 1) := by decide +kernel
theorem dX9_item_326 : decode cX9_item 326 = .ok (.if_icmp .le 5, 3) := by decide +kernel
theorem dX9_item_329 : decode cX9_item 329 = .ok (.iconst 0, 1) := by decide +kernel
theorem dX9_item_330 : decode cX9_item 330 = .ok (.ireturn, 1) := by decide +kernel
theorem dX9_item_331 : decode cX9_item 331 = .ok (.aload_n 0, 1) := by decide +kernel
theorem dX9_item_332 : decode cX9_item 332 = .ok (.getfield 22, 3) := by decide +kernel
theorem dX9_item_335 : decode cX9_item 335 = .ok (.bipush 6, 2) := by decide +kernel
theorem dX9_item_337 : decode cX9_item 337 = .ok (.aload_n 0, 1) := by decide +kernel
theorem dX9_item_338 : decode cX9_item 338 = .ok (.getfield 19, 3) := by decide +kernel
theorem dX9_item_341 : decode cX9_item 341 = .ok (.iconst 1, 1) := by decide +kernel
theorem dX9_item_342 : decode cX9_item 342 = .ok (.iaload, 1) := by decide +kernel
theorem dX9_item_343 : decode cX9_item 343 = .ok (.iadd, 1) := by decide +kernel
theorem dX9_item_344 : decode cX9_item 344 = .ok (.aload_n 0, 1) := by decide +kernel
theorem dX9_item_345 : decode cX9_item 345 = .ok (.getfield 58, 3) := by decide +kernel
theorem dX9_item_348 : decode cX9_item 348 = .ok (.iconst 0, 1) := by decide +kernel
theorem dX9_item_349 : decode cX9_item 349 = .ok (.iaload, 1) := by decide +kernel
theorem dX9_item_350 : decode cX9_item 350 = .ok (.iastore, 1) := by decide +kernel
theorem dX9_item_351 : decode cX9_item 351 = .ok (.aload_n 0, 1) := by decide +kernel
theorem dX9_item_352 : decode cX9_item 352 = .ok (.getfield 25, 3) := by decide +kernel
theorem dX9_item_355 : decode cX9_item 355 = .ok (.bipush 6, 2) := by decide +kernel
theorem dX9_item_357 : decode cX9_item 357 = .ok (.aload_n 0, 1) := by decide +kernel
theorem dX9_item_358 : decode cX9_item 358 = .ok (.getfield 19, 3) := by decide +kernel
theorem dX9_item_361 : decode cX9_item 361 = .ok (.iconst 1, 1) := by decide +kernel
theorem dX9_item_362 : decode cX9_item 362 = .ok (.iaload, 1) := by decide +kernel
theorem dX9_item_363 : decode cX9_item 363 = .ok (.iadd, 1) := by decide +kernel
theorem dX9_item_364 : decode cX9_item 364 = .ok (.aload_n 0, 1) := by decide +kernel
theorem dX9_item_365 : decode cX9_item 365 = .ok (.getfield 58, 3) := by decide +kernel
theorem dX9_item_368 : decode cX9_item 368 = .ok (.iconst 1, 1) := by decide +kernel
theorem dX9_item_369 : decode cX9_item 369 = .ok (.iaload, 1) := by decide +kernel
theorem dX9_item_370 : decode cX9_item 370 = .ok (.iastore, 1) := by decide +kernel
theorem dX9_item_371 : decode cX9_item 371 = .ok (.aload_n 0, 1) := by decide +kernel
theorem dX9_item_372 : decode cX9_item 372 = .ok (.getfield 28, 3) := by decide +kernel
theorem dX9_item_375 : decode cX9_item 375 = .ok (.bipush 6, 2) := by decide +kernel
theorem dX9_item_377 : decode cX9_item 377 = .ok (.aload_n 0, 1) := by decide +kernel
theorem dX9_item_378 : decode cX9_item 378 = .ok (.getfield 19, 3) := by decide +kernel
theorem dX9_item_381 : decode cX9_item 381 = .ok (.iconst 1, 1) := by decide +kernel
theorem dX9_item_382 : decode cX9_item 382 = .ok (.iaload, 1) := by decide +kernel
theorem dX9_item_383 : decode cX9_item 383 = .ok (.iadd, 1) := by decide +kernel
theorem dX9_item_384 : decode cX9_item 384 = .ok (.aload_n 0, 1) := by decide +kernel
theorem dX9_item_385 : decode cX9_item 385 = .ok (.getfield 58, 3) := by decide +kernel
theorem dX9_item_388 : decode cX9_item 388 = .ok (.iconst 2, 1) := by decide +kernel
theorem dX9_item_389 : decode cX9_item 389 = .ok (.iaload, 1) := by decide +kernel
theorem dX9_item_390 : decode cX9_item 390 = .ok (.iastore, 1) := by decide +kernel
theorem dX9_item_391 : decode cX9_item 391 = .ok (.aload_n 0, 1) := by decide +kernel
theorem dX9_item_392 : decode cX9_item 392 = .ok (.getfield 31, 3) := by decide +kernel
theorem dX9_item_395 : decode cX9_item 395 = .ok (.bipush 6, 2) := by decide +kernel
theorem dX9_item_397 : decode cX9_item 397 = .ok (.aload_n 0, 1) := by decide +kernel
theorem dX9_item_398 : decode cX9_item 398 = .ok (.getfield 19, 3) := by decide +kernel
theorem dX9_item_401 : decode cX9_item 401 = .ok (.iconst 1, 1) := by decide +kernel
theorem dX9_item_402 : decode cX9_item 402 = .ok (.iaload, 1) := by decide +kernel
theorem dX9_item_403 : decode cX9_item 403 = .ok (.iadd, 1) := by decide +kernel
theorem dX9_item_404 : decode cX9_item 404 = .ok (.aload_n 0, 1) := by decide +kernel
theorem dX9_item_405 : decode cX9_item 405 = .ok (.getfield 58, 3) := by decide +kernel
theorem dX9_item_408 : decode cX9_item 408 = .ok (.iconst 3, 1) := by decide +kernel
theorem dX9_item_409 : decode cX9_item 409 = .ok (.iaload, 1) := by decide +kernel
theorem dX9_item_410 : decode cX9_item 410 = .ok (.iastore, 1) := by decide +kernel
theorem dX9_item_411 : decode cX9_item 411 = .ok (.aload_n 0, 1) := by decide +kernel
theorem dX9_item_412 : decode cX9_item 412 = .ok (.getfield 19, 3) := by decide +kernel
theorem dX9_item_415 : decode cX9_item 415 = .ok (.iconst 1, 1) := by decide +kernel
theorem dX9_item_416 : decode cX9_item 416 = .ok (.dup2, 1) := by decide +kernel
theorem dX9_item_417 : decode cX9_item 417 = .ok (.iaload, 1) := by decide +kernel
theorem dX9_item_418 : decode cX9_item 418 = .ok (.iconst 1, 1) := by decide +kernel
theorem dX9_item_419 : decode cX9_item 419 = .ok (.iadd, 1) := by decide +kernel
theorem dX9_item_420 : decode cX9_item 420 = .ok (.iastore, 1) := by decide +kernel
theorem dX9_item_421 : decode cX9_item 421 = .ok (.iconst 1, 1) := by decide +kernel
theorem dX9_item_422 : decode cX9_item 422 = .ok (.ireturn, 1) := by decide +kernel
theorem dX9_item_423 : decode cX9_item 423 = .ok (.aload_n 0, 1) := by decide +kernel
theorem dX9_item_424 : decode cX9_item 424 = .ok (.iconst 2, 1) := by decide +kernel
theorem dX9_item_425 : decode cX9_item 425 = .ok (.invokevirtual 115, 3) := by decide +kernel
theorem dX9_item_428 : decode cX9_item 428 = .ok (.ifCond .eq 25, 3) := by decide +kernel
theorem dX9_item_431 : decode cX9_item 431 = .ok (.aload_n 0, 1) := by decide +kernel
theorem dX9_item_432 : decode cX9_item 432 = .ok (.getfield 58, 3) := by decide +kernel
theorem dX9_item_435 : decode cX9_item 435 = .ok (.iconst 0, 1) := by decide +kernel
theorem dX9_item_436 : decode cX9_item 436 = .ok (.iaload, 1) := by decide +kernel
theorem dX9_item_437 : decode cX9_item 437 = .ok (.bipush 49, 2) := by decide +kernel
theorem dX9_item_439 : decode cX9_item 439 = .ok (.if_icmp .gt 14, 3) := by decide +kernel
theorem dX9_item_442 : decode cX9_item 442 = .ok (.aload_n 0, 1) := by decide +kernel
theorem dX9_item_443 : decode cX9_item 443 = .ok (.getfield 58, 3) := by decide +kernel
theorem dX9_item_446 : decode cX9_item 446 = .ok (.iconst 1, 1) := by decide +kernel
theorem dX9_item_447 : decode cX9_item 447 = .ok (.iaload, 1) := by decide +kernel
theorem dX9_item_448 : decode cX9_item 448 = .ok (.bipush 49, 2) := by decide +kernel
theorem dX9_item_450 : decode cX9_item 450 = .ok (.if_icmp .le 5, 3) := by decide +kernel
theorem dX9_item_453 : decode cX9_item 453 = .ok (.iconst 0, 1) := by decide +kernel
theorem dX9_item_454 : decode cX9_item 454 = .ok (.ireturn, 1) := by decide +kernel
theorem dX9_item_455 : decode cX9_item 455 = .ok (.aload_n 0, 1) := by decide +kernel
theorem dX9_item_456 : decode cX9_item 456 = .ok (.getfield 34, 3) := by decide +kernel
theorem dX9_item_459 : decode cX9_item 459 = .ok (.iconst 1, 1) := by decide +kernel
theorem dX9_item_460 : decode cX9_item 460 = .ok (.aload_n 0, 1) := by decide +kernel
theorem dX9_item_461 : decode cX9_item 461 = .ok (.getfield 58, 3) := by decide +kernel
theorem dX9_item_464 : decode cX9_item 464 = .ok (.iconst 0, 1) := by decide +kernel
theorem dX9_item_465 : decode cX9_item 465 = .ok (.iaload, 1) := by decide +kernel
theorem dX9_item_466 : decode cX9_item 466 = .ok (.iastore, 1) := by decide +kernel
theorem dX9_item_467 : decode cX9_item 467 = .ok (.aload_n 0, 1) := by decide +kernel
theorem dX9_item_468 : decode cX9_item 468 = .ok (.getfield 37, 3) := by decide +kernel
theorem dX9_item_471 : decode cX9_item 471 = .ok (.iconst 1, 1) := by decide +kernel
theorem dX9_item_472 : decode cX9_item 472 = .ok (.aload_n 0, 1) := by decide +kernel
theorem dX9_item_473 : decode cX9_item 473 = .ok (.getfield 58, 3) := by decide +kernel
theorem dX9_item_476 : decode cX9_item 476 = .ok (.iconst 1, 1) := by decide +kernel
theorem dX9_item_477 : decode cX9_item 477 = .ok (.iaload, 1) := by decide +kernel
theorem dX9_item_478 : decode cX9_item 478 = .ok (.iastore, 1) := by decide +kernel
theorem dX9_item_479 : decode cX9_item 479 = .ok (.iconst 1, 1) := by decide +kernel
theorem dX9_item_480 : decode cX9_item 480 = .ok (.ireturn, 1) := by decide +kernel
theorem dX9_item_481 : decode cX9_item 481 = .ok (.iconst 0, 1) := by decide +kernel
theorem dX9_item_482 : decode cX9_item 482 = .ok (.ireturn, 1) := by decide +kernel
theorem dX9_readAll_0 : decode cX9_readAll 0 = .ok (.aload_n 0, 1) := by decide +kernel
theorem dX9_readAll_1 : decode cX9_readAll 1 = .ok (.iconst 1, 1) := by decide +kernel
theorem dX9_readAll_2 : decode cX9_readAll 2 = .ok (.invokevirtual 86, 3) := by decide +kernel
theorem dX9_readAll_5 : decode cX9_readAll 5 = .ok (.aload_n 0, 1) := by decide +kernel
theorem dX9_readAll_6 : decode cX9_readAll 6 = .ok (.iconst 0, 1) := by decide +kernel
theorem dX9_readAll_7 : decode cX9_readAll 7 = .ok (.putfield 102, 3) := by decide +kernel
theorem dX9_readAll_10 : decode cX9_readAll 10 = .ok (.aload_n 0, 1) := by decide +kernel
theorem dX9_readAll_11 : decode cX9_readAll 11 = .ok (.getfield 102, 3) := by decide +kernel
theorem dX9_readAll_14 : decode cX9_readAll 14 = .ok (.aload_n 0, 1) := by decide +kernel
theorem dX9_readAll_15 : decode cX9_readAll 15 = .ok (.getfield 96, 3) := by decide +kernel
theorem dX9_readAll_18 : decode cX9_readAll 18 = .ok (.if_icmp .ge 20, 3) := by decide +kernel
theorem dX9_readAll_21 : decode cX9_readAll 21 = .ok (.aload_n 0, 1) := by decide +kernel
theorem dX9_readAll_22 : decode cX9_readAll 22 = .ok (.getfield 102, 3) := by decide +kernel
theorem dX9_readAll_25 : decode cX9_readAll 25 = .ok (.istore_n 1, 1) := by decide +kernel
theorem dX9_readAll_26 : decode cX9_readAll 26 = .ok (.aload_n 0, 1) := by decide +kernel
theorem dX9_readAll_27 : decode cX9_readAll 27 = .ok (.invokevirtual 123, 3) := by decide +kernel
theorem dX9_readAll_30 : decode cX9_readAll 30 = .ok (.ifCond .ne 5, 3) := by decide +kernel
theorem dX9_readAll_33 : decode cX9_readAll 33 = .ok (.iload_n 1, 1) := by decide +kernel
theorem dX9_readAll_34 : decode cX9_readAll 34 = .ok (.ireturn, 1) := by decide +kernel
theorem dX9_readAll_35 : decode cX9_readAll 35 = .ok (.goto (-25), 3) := by decide +kernel
theorem dX9_readAll_38 : decode cX9_readAll 38 = .ok (.bipush (-4), 2) := by decide +kernel
theorem dX9_readAll_40 : decode cX9_readAll 40 = .ok (.ireturn, 1) := by decide +kernel
theorem dX9_fault_0 : decode cX9_fault 0 = .ok (.aload_n 0, 1) := by decide +kernel
theorem dX9_fault_1 : decode cX9_fault 1 = .ok (.invokevirtual 127, 3) := by decide +kernel
theorem dX9_fault_4 : decode cX9_fault 4 = .ok (.ireturn, 1) := by decide +kernel
theorem dX9_copy_0 : decode cX9_copy 0 = .ok (.aload_n 0, 1) := by decide +kernel
theorem dX9_copy_1 : decode cX9_copy 1 = .ok (.getfield 40, 3) := by decide +kernel
theorem dX9_copy_4 : decode cX9_copy 4 = .ok (.iload_n 2, 1) := by decide +kernel
theorem dX9_copy_5 : decode cX9_copy 5 = .ok (.aload_n 0, 1) := by decide +kernel
theorem dX9_copy_6 : decode cX9_copy 6 = .ok (.getfield 40, 3) := by decide +kernel
theorem dX9_copy_9 : decode cX9_copy 9 = .ok (.iload_n 1, 1) := by decide +kernel
theorem dX9_copy_10 : decode cX9_copy 10 = .ok (.iaload, 1) := by decide +kernel
theorem dX9_copy_11 : decode cX9_copy 11 = .ok (.iastore, 1) := by decide +kernel
theorem dX9_copy_12 : decode cX9_copy 12 = .ok (.iconst 0, 1) := by decide +kernel
theorem dX9_copy_13 : decode cX9_copy 13 = .ok (.istore_n 3, 1) := by decide +kernel
theorem dX9_copy_14 : decode cX9_copy 14 = .ok (.iload_n 3, 1) := by decide +kernel
theorem dX9_copy_15 : decode cX9_copy 15 = .ok (.bipush 7, 2) := by decide +kernel
theorem dX9_copy_17 : decode cX9_copy 17 = .ok (.if_icmp .ge 97, 3) := by decide +kernel
theorem dX9_copy_20 : decode cX9_copy 20 = .ok (.aload_n 0, 1) := by decide +kernel
theorem dX9_copy_21 : decode cX9_copy 21 = .ok (.getfield 43, 3) := by decide +kernel
theorem dX9_copy_24 : decode cX9_copy 24 = .ok (.bipush 7, 2) := by decide +kernel
theorem dX9_copy_26 : decode cX9_copy 26 = .ok (.iload_n 2, 1) := by decide +kernel
theorem dX9_copy_27 : decode cX9_copy 27 = .ok (.imul, 1) := by decide +kernel
theorem dX9_copy_28 : decode cX9_copy 28 = .ok (.iload_n 3, 1) := by decide +kernel
theorem dX9_copy_29 : decode cX9_copy 29 = .ok (.iadd, 1) := by decide +kernel
theorem dX9_copy_30 : decode cX9_copy 30 = .ok (.aload_n 0, 1) := by decide +kernel
theorem dX9_copy_31 : decode cX9_copy 31 = .ok (.getfield 43, 3) := by decide +kernel
theorem dX9_copy_34 : decode cX9_copy 34 = .ok (.bipush 7, 2) := by decide +kernel
theorem dX9_copy_36 : decode cX9_copy 36 = .ok (.iload_n 1, 1) := by decide +kernel
theorem dX9_copy_37 : decode cX9_copy 37 = .ok (.imul, 1) := by decide +kernel
theorem dX9_copy_38 : decode cX9_copy 38 = .ok (.iload_n 3, 1) := by decide +kernel
theorem dX9_copy_39 : decode cX9_copy 39 = .ok (.iadd, 1) := by decide +kernel
theorem dX9_copy_40 : decode cX9_copy 40 = .ok (.iaload, 1) := by decide +kernel
theorem dX9_copy_41 : decode cX9_copy 41 = .ok (.iastore, 1) := by decide +kernel
theorem dX9_copy_42 : decode cX9_copy 42 = .ok (.aload_n 0, 1) := by decide +kernel
theorem dX9_copy_43 : decode cX9_copy 43 = .ok (.getfield 46, 3) := by decide +kernel
theorem dX9_copy_46 : decode cX9_copy 46 = .ok (.bipush 7, 2) := by decide +kernel
theorem dX9_copy_48 : decode cX9_copy 48 = .ok (.iload_n 2, 1) := by decide +kernel
theorem dX9_copy_49 : decode cX9_copy 49 = .ok (.imul, 1) := by decide +kernel
theorem dX9_copy_50 : decode cX9_copy 50 = .ok (.iload_n 3, 1) := by decide +kernel
theorem dX9_copy_51 : decode cX9_copy 51 = .ok (.iadd, 1) := by decide +kernel
theorem dX9_copy_52 : decode cX9_copy 52 = .ok (.aload_n 0, 1) := by decide +kernel
theorem dX9_copy_53 : decode cX9_copy 53 = .ok (.getfield 46, 3) := by decide +kernel
theorem dX9_copy_56 : decode cX9_copy 56 = .ok (.bipush 7, 2) := by decide +kernel
theorem dX9_copy_58 : decode cX9_copy 58 = .ok (.iload_n 1, 1) := by decide +kernel
theorem dX9_copy_59 : decode cX9_copy 59 = .ok (.imul, 1) := by decide +kernel
theorem dX9_copy_60 : decode cX9_copy 60 = .ok (.iload_n 3, 1) := by decide +kernel
theorem dX9_copy_61 : decode cX9_copy 61 = .ok (.iadd, 1) := by decide +kernel
theorem dX9_copy_62 : decode cX9_copy 62 = .ok (.iaload, 1) := by decide +kernel
theorem dX9_copy_63 : decode cX9_copy 63 = .ok (.iastore, 1) := by decide +kernel
theorem dX9_copy_64 : decode cX9_copy 64 = .ok (.aload_n 0, 1) := by decide +kernel
theorem dX9_copy_65 : decode cX9_copy 65 = .ok (.getfield 49, 3) := by decide +kernel
theorem dX9_copy_68 : decode cX9_copy 68 = .ok (.bipush 7, 2) := by decide +kernel
theorem dX9_copy_70 : decode cX9_copy 70 = .ok (.iload_n 2, 1) := by decide +kernel
theorem dX9_copy_71 : decode cX9_copy 71 = .ok (.imul, 1) := by decide +kernel
theorem dX9_copy_72 : decode cX9_copy 72 = .ok (.iload_n 3, 1) := by decide +kernel
theorem dX9_copy_73 : decode cX9_copy 73 = .ok (.iadd, 1) := by decide +kernel
theorem dX9_copy_74 : decode cX9_copy 74 = .ok (.aload_n 0, 1) := by decide +kernel
theorem dX9_copy_75 : decode cX9_copy 75 = .ok (.getfield 49, 3) := by decide +kernel
theorem dX9_copy_78 : decode cX9_copy 78 = .ok (.bipush 7, 2) := by decide +kernel
theorem dX9_copy_80 : decode cX9_copy 80 = .ok (.iload_n 1, 1) := by decide +kernel
theorem dX9_copy_81 : decode cX9_copy 81 = .ok (.imul, 1) := by decide +kernel
theorem dX9_copy_82 : decode cX9_copy 82 = .ok (.iload_n 3, 1) := by decide +kernel
theorem dX9_copy_83 : decode cX9_copy 83 = .ok (.iadd, 1) := by decide +kernel
theorem dX9_copy_84 : decode cX9_copy 84 = .ok (.iaload, 1) := by decide +kernel
theorem dX9_copy_85 : decode cX9_copy 85 = .ok (.iastore, 1) := by decide +kernel
theorem dX9_copy_86 : decode cX9_copy 86 = .ok (.aload_n 0, 1) := by decide +kernel
theorem dX9_copy_87 : decode cX9_copy 87 = .ok (.getfield 52, 3) := by decide +kernel
theorem dX9_copy_90 : decode cX9_copy 90 = .ok (.bipush 7, 2) := by decide +kernel
theorem dX9_copy_92 : decode cX9_copy 92 = .ok (.iload_n 2, 1) := by decide +kernel
theorem dX9_copy_93 : decode cX9_copy 93 = .ok (.imul, 1) := by decide +kernel
theorem dX9_copy_94 : decode cX9_copy 94 = .ok (.iload_n 3, 1) := by decide +kernel
theorem dX9_copy_95 : decode cX9_copy 95 = .ok (.iadd, 1) := by decide +kernel
theorem dX9_copy_96 : decode cX9_copy 96 = .ok (.aload_n 0, 1) := by decide +kernel
theorem dX9_copy_97 : decode cX9_copy 97 = .ok (.getfield 52, 3) := by decide +kernel
theorem dX9_copy_100 : decode cX9_copy 100 = .ok (.bipush 7, 2) := by decide +kernel
theorem dX9_copy_102 : decode cX9_copy 102 = .ok (.iload_n 1, 1) := by decide +kernel
theorem dX9_copy_103 : decode cX9_copy 103 = .ok (.imul, 1) := by decide +kernel
theorem dX9_copy_104 : decode cX9_copy 104 = .ok (.iload_n 3, 1) := by decide +kernel
theorem dX9_copy_105 : decode cX9_copy 105 = .ok (.iadd, 1) := by decide +kernel
theorem dX9_copy_106 : decode cX9_copy 106 = .ok (.iaload, 1) := by decide +kernel
theorem dX9_copy_107 : decode cX9_copy 107 = .ok (.iastore, 1) := by decide +kernel
theorem dX9_copy_108 : decode cX9_copy 108 = .ok (.iinc 3 1, 3) := by decide +kernel
theorem dX9_copy_111 : decode cX9_copy 111 = .ok (.goto (-97), 3) := by decide +kernel
theorem dX9_copy_114 : decode cX9_copy 114 = .ok (.return_, 1) := by decide +kernel
theorem dX9_lay_0 : decode cX9_lay 0 = .ok (.aload_n 0, 1) := by decide +kernel
theorem dX9_lay_1 : decode cX9_lay 1 = .ok (.invokevirtual 127, 3) := by decide +kernel
theorem dX9_lay_4 : decode cX9_lay 4 = .ok (.bipush (-4), 2) := by decide +kernel
theorem dX9_lay_6 : decode cX9_lay 6 = .ok (.if_icmp .ne 12, 3) := by decide +kernel
theorem dX9_lay_9 : decode cX9_lay 9 = .ok (.aload_n 0, 1) := by decide +kernel
theorem dX9_lay_10 : decode cX9_lay 10 = .ok (.getfield 40, 3) := by decide +kernel
theorem dX9_lay_13 : decode cX9_lay 13 = .ok (.iconst 1, 1) := by decide +kernel
theorem dX9_lay_14 : decode cX9_lay 14 = .ok (.iaload, 1) := by decide +kernel
theorem dX9_lay_15 : decode cX9_lay 15 = .ok (.ifCond .ne 6, 3) := by decide +kernel
theorem dX9_lay_18 : decode cX9_lay 18 = .ok (.bipush (-2), 2) := by decide +kernel
theorem dX9_lay_20 : decode cX9_lay 20 = .ok (.ireturn, 1) := by decide +kernel
theorem dX9_lay_21 : decode cX9_lay 21 = .ok (.aload_n 0, 1) := by decide +kernel
theorem dX9_lay_22 : decode cX9_lay 22 = .ok (.getfield 13, 3) := by decide +kernel
theorem dX9_lay_25 : decode cX9_lay 25 = .ok (.iconst 0, 1) := by decide +kernel
theorem dX9_lay_26 : decode cX9_lay 26 = .ok (.aload_n 0, 1) := by decide +kernel
theorem dX9_lay_27 : decode cX9_lay 27 = .ok (.getfield 13, 3) := by decide +kernel
theorem dX9_lay_30 : decode cX9_lay 30 = .ok (.iconst 1, 1) := by decide +kernel
theorem dX9_lay_31 : decode cX9_lay 31 = .ok (.iaload, 1) := by decide +kernel
theorem dX9_lay_32 : decode cX9_lay 32 = .ok (.iastore, 1) := by decide +kernel
theorem dX9_lay_33 : decode cX9_lay 33 = .ok (.aload_n 0, 1) := by decide +kernel
theorem dX9_lay_34 : decode cX9_lay 34 = .ok (.getfield 16, 3) := by decide +kernel
theorem dX9_lay_37 : decode cX9_lay 37 = .ok (.iconst 0, 1) := by decide +kernel
theorem dX9_lay_38 : decode cX9_lay 38 = .ok (.aload_n 0, 1) := by decide +kernel
theorem dX9_lay_39 : decode cX9_lay 39 = .ok (.getfield 16, 3) := by decide +kernel
theorem dX9_lay_42 : decode cX9_lay 42 = .ok (.iconst 1, 1) := by decide +kernel
theorem dX9_lay_43 : decode cX9_lay 43 = .ok (.iaload, 1) := by decide +kernel
theorem dX9_lay_44 : decode cX9_lay 44 = .ok (.iastore, 1) := by decide +kernel
theorem dX9_lay_45 : decode cX9_lay 45 = .ok (.aload_n 0, 1) := by decide +kernel
theorem dX9_lay_46 : decode cX9_lay 46 = .ok (.getfield 19, 3) := by decide +kernel
theorem dX9_lay_49 : decode cX9_lay 49 = .ok (.iconst 0, 1) := by decide +kernel
theorem dX9_lay_50 : decode cX9_lay 50 = .ok (.aload_n 0, 1) := by decide +kernel
theorem dX9_lay_51 : decode cX9_lay 51 = .ok (.getfield 19, 3) := by decide +kernel
theorem dX9_lay_54 : decode cX9_lay 54 = .ok (.iconst 1, 1) := by decide +kernel
theorem dX9_lay_55 : decode cX9_lay 55 = .ok (.iaload, 1) := by decide +kernel
theorem dX9_lay_56 : decode cX9_lay 56 = .ok (.iastore, 1) := by decide +kernel
theorem dX9_lay_57 : decode cX9_lay 57 = .ok (.aload_n 0, 1) := by decide +kernel
theorem dX9_lay_58 : decode cX9_lay 58 = .ok (.getfield 34, 3) := by decide +kernel
theorem dX9_lay_61 : decode cX9_lay 61 = .ok (.iconst 0, 1) := by decide +kernel
theorem dX9_lay_62 : decode cX9_lay 62 = .ok (.aload_n 0, 1) := by decide +kernel
theorem dX9_lay_63 : decode cX9_lay 63 = .ok (.getfield 34, 3) := by decide +kernel
theorem dX9_lay_66 : decode cX9_lay 66 = .ok (.iconst 1, 1) := by decide +kernel
theorem dX9_lay_67 : decode cX9_lay 67 = .ok (.iaload, 1) := by decide +kernel
theorem dX9_lay_68 : decode cX9_lay 68 = .ok (.iastore, 1) := by decide +kernel
theorem dX9_lay_69 : decode cX9_lay 69 = .ok (.aload_n 0, 1) := by decide +kernel
theorem dX9_lay_70 : decode cX9_lay 70 = .ok (.getfield 37, 3) := by decide +kernel
theorem dX9_lay_73 : decode cX9_lay 73 = .ok (.iconst 0, 1) := by decide +kernel
theorem dX9_lay_74 : decode cX9_lay 74 = .ok (.aload_n 0, 1) := by decide +kernel
theorem dX9_lay_75 : decode cX9_lay 75 = .ok (.getfield 37, 3) := by decide +kernel
theorem dX9_lay_78 : decode cX9_lay 78 = .ok (.iconst 1, 1) := by decide +kernel
theorem dX9_lay_79 : decode cX9_lay 79 = .ok (.iaload, 1) := by decide +kernel
theorem dX9_lay_80 : decode cX9_lay 80 = .ok (.iastore, 1) := by decide +kernel
theorem dX9_lay_81 : decode cX9_lay 81 = .ok (.iconst 0, 1) := by decide +kernel
theorem dX9_lay_82 : decode cX9_lay 82 = .ok (.istore_n 1, 1) := by decide +kernel
theorem dX9_lay_83 : decode cX9_lay 83 = .ok (.iload_n 1, 1) := by decide +kernel
theorem dX9_lay_84 : decode cX9_lay 84 = .ok (.iconst 5, 1) := by decide +kernel
theorem dX9_lay_85 : decode cX9_lay 85 = .ok (.if_icmp .ge 69, 3) := by decide +kernel
theorem dX9_lay_88 : decode cX9_lay 88 = .ok (.aload_n 0, 1) := by decide +kernel
theorem dX9_lay_89 : decode cX9_lay 89 = .ok (.getfield 22, 3) := by decide +kernel
theorem dX9_lay_92 : decode cX9_lay 92 = .ok (.iload_n 1, 1) := by decide +kernel
theorem dX9_lay_93 : decode cX9_lay 93 = .ok (.aload_n 0, 1) := by decide +kernel
theorem dX9_lay_94 : decode cX9_lay 94 = .ok (.getfield 22, 3) := by decide +kernel
theorem dX9_lay_97 : decode cX9_lay 97 = .ok (.bipush 6, 2) := by decide +kernel
theorem dX9_lay_99 : decode cX9_lay 99 = .ok (.iload_n 1, 1) := by decide +kernel
theorem dX9_lay_100 : decode cX9_lay 100 = .ok (.iadd, 1) := by decide +kernel
theorem dX9_lay_101 : decode cX9_lay 101 = .ok (.iaload, 1) := by decide +kernel
theorem dX9_lay_102 : decode cX9_lay 102 = .ok (.iastore, 1) := by decide +kernel
theorem dX9_lay_103 : decode cX9_lay 103 = .ok (.aload_n 0, 1) := by decide +kernel
theorem dX9_lay_104 : decode cX9_lay 104 = .ok (.getfield 25, 3) := by decide +kernel
theorem dX9_lay_107 : decode cX9_lay 107 = .ok (.iload_n 1, 1) := by decide +kernel
theorem dX9_lay_108 : decode cX9_lay 108 = .ok (.aload_n 0, 1) := by decide +kernel
theorem dX9_lay_109 : decode cX9_lay 109 = .ok (.getfield 25, 3) := by decide +kernel
theorem dX9_lay_112 : decode cX9_lay 112 = .ok (.bipush 6, 2) := by decide +kernel
theorem dX9_lay_114 : decode cX9_lay 114 = .ok (.iload_n 1, 1) := by decide +kernel
theorem dX9_lay_115 : decode cX9_lay 115 = .ok (.iadd, 1) := by decide +kernel
theorem dX9_lay_116 : decode cX9_lay 116 = .ok (.iaload, 1) := by decide +kernel
theorem dX9_lay_117 : decode cX9_lay 117 = .ok (.iastore, 1) := by decide +kernel
theorem dX9_lay_118 : decode cX9_lay 118 = .ok (.aload_n 0, 1) := by decide +kernel
theorem dX9_lay_119 : decode cX9_lay 119 = .ok (.getfield 28, 3) := by decide +kernel
theorem dX9_lay_122 : decode cX9_lay 122 = .ok (.iload_n 1, 1) := by decide +kernel
theorem dX9_lay_123 : decode cX9_lay 123 = .ok (.aload_n 0, 1) := by decide +kernel
theorem dX9_lay_124 : decode cX9_lay 124 = .ok (.getfield 28, 3) := by decide +kernel
theorem dX9_lay_127 : decode cX9_lay 127 = .ok (.bipush 6, 2) := by decide +kernel
theorem dX9_lay_129 : decode cX9_lay 129 = .ok (.iload_n 1, 1) := by decide +kernel
theorem dX9_lay_130 : decode cX9_lay 130 = .ok (.iadd, 1) := by decide +kernel
theorem dX9_lay_131 : decode cX9_lay 131 = .ok (.iaload, 1) := by decide +kernel
theorem dX9_lay_132 : decode cX9_lay 132 = .ok (.iastore, 1) := by decide +kernel
theorem dX9_lay_133 : decode cX9_lay 133 = .ok (.aload_n 0, 1) := by decide +kernel
theorem dX9_lay_134 : decode cX9_lay 134 = .ok (.getfield 31, 3) := by decide +kernel
theorem dX9_lay_137 : decode cX9_lay 137 = .ok (.iload_n 1, 1) := by decide +kernel
theorem dX9_lay_138 : decode cX9_lay 138 = .ok (.aload_n 0, 1) := by decide +kernel
theorem dX9_lay_139 : decode cX9_lay 139 = .ok (.getfield 31, 3) := by decide +kernel
theorem dX9_lay_142 : decode cX9_lay 142 = .ok (.bipush 6, 2) := by decide +kernel
theorem dX9_lay_144 : decode cX9_lay 144 = .ok (.iload_n 1, 1) := by decide +kernel
theorem dX9_lay_145 : decode cX9_lay 145 = .ok (.iadd, 1) := by decide +kernel
theorem dX9_lay_146 : decode cX9_lay 146 = .ok (.iaload, 1) := by decide +kernel
theorem dX9_lay_147 : decode cX9_lay 147 = .ok (.iastore, 1) := by decide +kernel
theorem dX9_lay_148 : decode cX9_lay 148 = .ok (.iinc 1 1, 3) := by decide +kernel
theorem dX9_lay_151 : decode cX9_lay 151 = .ok (.goto (-68), 3) := by decide +kernel
theorem dX9_lay_154 : decode cX9_lay 154 = .ok (.aload_n 0, 1) := by decide +kernel
theorem dX9_lay_155 : decode cX9_lay 155 = .ok (.iconst 1, 1) := by decide +kernel
theorem dX9_lay_156 : decode cX9_lay 156 = .ok (.iconst 0, 1) := by decide +kernel
theorem dX9_lay_157 : decode cX9_lay 157 = .ok (.invokevirtual 131, 3) := by decide +kernel
theorem dX9_lay_160 : decode cX9_lay 160 = .ok (.aload_n 0, 1) := by decide +kernel
theorem dX9_lay_161 : decode cX9_lay 161 = .ok (.iconst 0, 1) := by decide +kernel
theorem dX9_lay_162 : decode cX9_lay 162 = .ok (.putfield 135, 3) := by decide +kernel
theorem dX9_lay_165 : decode cX9_lay 165 = .ok (.aload_n 0, 1) := by decide +kernel
theorem dX9_lay_166 : decode cX9_lay 166 = .ok (.iconst 0, 1) := by decide +kernel
theorem dX9_lay_167 : decode cX9_lay 167 = .ok (.putfield 138, 3) := by decide +kernel
theorem dX9_lay_170 : decode cX9_lay 170 = .ok (.aload_n 0, 1) := by decide +kernel
theorem dX9_lay_171 : decode cX9_lay 171 = .ok (.getfield 40, 3) := by decide +kernel
theorem dX9_lay_174 : decode cX9_lay 174 = .ok (.iconst 0, 1) := by decide +kernel
theorem dX9_lay_175 : decode cX9_lay 175 = .ok (.iaload, 1) := by decide +kernel
theorem dX9_lay_176 : decode cX9_lay 176 = .ok (.ireturn, 1) := by decide +kernel
theorem dX9_isThrow_0 : decode cX9_isThrow 0 = .ok (.iload_n 1, 1) := by decide +kernel
theorem dX9_isThrow_1 : decode cX9_isThrow 1 = .ok (.i2l, 1) := by decide +kernel
theorem dX9_isThrow_2 : decode cX9_isThrow 2 = .ok (.lconst 0, 1) := by decide +kernel
theorem dX9_isThrow_3 : decode cX9_isThrow 3 = .ok (.aload_n 0, 1) := by decide +kernel
theorem dX9_isThrow_4 : decode cX9_isThrow 4 = .ok (.getfield 40, 3) := by decide +kernel
theorem dX9_isThrow_7 : decode cX9_isThrow 7 = .ok (.iconst 0, 1) := by decide +kernel
theorem dX9_isThrow_8 : decode cX9_isThrow 8 = .ok (.iaload, 1) := by decide +kernel
theorem dX9_isThrow_9 : decode cX9_isThrow 9 = .ok (.iconst 1, 1) := by decide +kernel
theorem dX9_isThrow_10 : decode cX9_isThrow 10 = .ok (.isub, 1) := by decide +kernel
theorem dX9_isThrow_11 : decode cX9_isThrow 11 = .ok (.i2l, 1) := by decide +kernel
theorem dX9_isThrow_12 : decode cX9_isThrow 12 = .ok (.invokestatic 92, 3) := by decide +kernel
theorem dX9_isThrow_15 : decode cX9_isThrow 15 = .ok (.ireturn, 1) := by decide +kernel
theorem dX9_homeDay_0 : decode cX9_homeDay 0 = .ok (.iload_n 1, 1) := by decide +kernel
theorem dX9_homeDay_1 : decode cX9_homeDay 1 = .ok (.aload_n 0, 1) := by decide +kernel
theorem dX9_homeDay_2 : decode cX9_homeDay 2 = .ok (.getfield 16, 3) := by decide +kernel
theorem dX9_homeDay_5 : decode cX9_homeDay 5 = .ok (.iconst 0, 1) := by decide +kernel
theorem dX9_homeDay_6 : decode cX9_homeDay 6 = .ok (.iaload, 1) := by decide +kernel
theorem dX9_homeDay_7 : decode cX9_homeDay 7 = .ok (.iload_n 2, 1) := by decide +kernel
theorem dX9_homeDay_8 : decode cX9_homeDay 8 = .ok (.iadd, 1) := by decide +kernel
theorem dX9_homeDay_9 : decode cX9_homeDay 9 = .ok (.iconst 1, 1) := by decide +kernel
theorem dX9_homeDay_10 : decode cX9_homeDay 10 = .ok (.isub, 1) := by decide +kernel
theorem dX9_homeDay_11 : decode cX9_homeDay 11 = .ok (.iload_n 2, 1) := by decide +kernel
theorem dX9_homeDay_12 : decode cX9_homeDay 12 = .ok (.idiv, 1) := by decide +kernel
theorem dX9_homeDay_13 : decode cX9_homeDay 13 = .ok (.iadd, 1) := by decide +kernel
theorem dX9_homeDay_14 : decode cX9_homeDay 14 = .ok (.ireturn, 1) := by decide +kernel
theorem dX9_around_0 : decode cX9_around 0 = .ok (.iload_n 0, 1) := by decide +kernel
theorem dX9_around_1 : decode cX9_around 1 = .ok (.bipush 24, 2) := by decide +kernel
theorem dX9_around_3 : decode cX9_around 3 = .ok (.irem, 1) := by decide +kernel
theorem dX9_around_4 : decode cX9_around 4 = .ok (.bipush 24, 2) := by decide +kernel
theorem dX9_around_6 : decode cX9_around 6 = .ok (.iadd, 1) := by decide +kernel
theorem dX9_around_7 : decode cX9_around 7 = .ok (.bipush 24, 2) := by decide +kernel
theorem dX9_around_9 : decode cX9_around 9 = .ok (.irem, 1) := by decide +kernel
theorem dX9_around_10 : decode cX9_around 10 = .ok (.ireturn, 1) := by decide +kernel
theorem dX9_turnTo_0 : decode cX9_turnTo 0 = .ok (.aload_n 0, 1) := by decide +kernel
theorem dX9_turnTo_1 : decode cX9_turnTo 1 = .ok (.getfield 13, 3) := by decide +kernel
theorem dX9_turnTo_4 : decode cX9_turnTo 4 = .ok (.iconst 0, 1) := by decide +kernel
theorem dX9_turnTo_5 : decode cX9_turnTo 5 = .ok (.iaload, 1) := by decide +kernel
theorem dX9_turnTo_6 : decode cX9_turnTo 6 = .ok (.istore_n 2, 1) := by decide +kernel
theorem dX9_turnTo_7 : decode cX9_turnTo 7 = .ok (.iconst 0, 1) := by decide +kernel
theorem dX9_turnTo_8 : decode cX9_turnTo 8 = .ok (.istore_n 3, 1) := by decide +kernel
theorem dX9_turnTo_9 : decode cX9_turnTo 9 = .ok (.iload_n 3, 1) := by decide +kernel
theorem dX9_turnTo_10 : decode cX9_turnTo 10 = .ok (.iload_n 1, 1) := by decide +kernel
theorem dX9_turnTo_11 : decode cX9_turnTo 11 = .ok (.if_icmp .gt 124, 3) := by decide +kernel
theorem dX9_turnTo_14 : decode cX9_turnTo 14 = .ok (.iconst 0, 1) := by decide +kernel
theorem dX9_turnTo_15 : decode cX9_turnTo 15 = .ok (.istore 4, 2) := by decide +kernel
theorem dX9_turnTo_17 : decode cX9_turnTo 17 = .ok (.iload 4, 2) := by decide +kernel
theorem dX9_turnTo_19 : decode cX9_turnTo 19 = .ok (.aload_n 0, 1) := by decide +kernel
theorem dX9_turnTo_20 : decode cX9_turnTo 20 = .ok (.getfield 40, 3) := by decide +kernel
theorem dX9_turnTo_23 : decode cX9_turnTo 23 = .ok (.iconst 0, 1) := by decide +kernel
theorem dX9_turnTo_24 : decode cX9_turnTo 24 = .ok (.iaload, 1) := by decide +kernel
theorem dX9_turnTo_25 : decode cX9_turnTo 25 = .ok (.if_icmp .ge 104, 3) := by decide +kernel
theorem dX9_turnTo_28 : decode cX9_turnTo 28 = .ok (.aload_n 0, 1) := by decide +kernel
theorem dX9_turnTo_29 : decode cX9_turnTo 29 = .ok (.getfield 43, 3) := by decide +kernel
theorem dX9_turnTo_32 : decode cX9_turnTo 32 = .ok (.iload 4, 2) := by decide +kernel
theorem dX9_turnTo_34 : decode cX9_turnTo 34 = .ok (.iaload, 1) := by decide +kernel
theorem dX9_turnTo_35 : decode cX9_turnTo 35 = .ok (.iload_n 3, 1) := by decide +kernel
theorem dX9_turnTo_36 : decode cX9_turnTo 36 = .ok (.if_icmp .ne 87, 3) := by decide +kernel
theorem dX9_turnTo_39 : decode cX9_turnTo 39 = .ok (.aload_n 0, 1) := by decide +kernel
theorem dX9_turnTo_40 : decode cX9_turnTo 40 = .ok (.getfield 141, 3) := by decide +kernel
theorem dX9_turnTo_43 : decode cX9_turnTo 43 = .ok (.iload 4, 2) := by decide +kernel
theorem dX9_turnTo_45 : decode cX9_turnTo 45 = .ok (.invokestatic 144, 3) := by decide +kernel
theorem dX9_turnTo_48 : decode cX9_turnTo 48 = .ok (.ifCond .ne 75, 3) := by decide +kernel
theorem dX9_turnTo_51 : decode cX9_turnTo 51 = .ok (.aload_n 0, 1) := by decide +kernel
theorem dX9_turnTo_52 : decode cX9_turnTo 52 = .ok (.getfield 61, 3) := by decide +kernel
theorem dX9_turnTo_55 : decode cX9_turnTo 55 = .ok (.iload 4, 2) := by decide +kernel
theorem dX9_turnTo_57 : decode cX9_turnTo 57 = .ok (.iload_n 2, 1) := by decide +kernel
theorem dX9_turnTo_58 : decode cX9_turnTo 58 = .ok (.aload_n 0, 1) := by decide +kernel
theorem dX9_turnTo_59 : decode cX9_turnTo 59 = .ok (.getfield 46, 3) := by decide +kernel
theorem dX9_turnTo_62 : decode cX9_turnTo 62 = .ok (.iload 4, 2) := by decide +kernel
theorem dX9_turnTo_64 : decode cX9_turnTo 64 = .ok (.iaload, 1) := by decide +kernel
theorem dX9_turnTo_65 : decode cX9_turnTo 65 = .ok (.iadd, 1) := by decide +kernel
theorem dX9_turnTo_66 : decode cX9_turnTo 66 = .ok (.invokestatic 148, 3) := by decide +kernel
theorem dX9_turnTo_69 : decode cX9_turnTo 69 = .ok (.iastore, 1) := by decide +kernel
theorem dX9_turnTo_70 : decode cX9_turnTo 70 = .ok (.iload_n 2, 1) := by decide +kernel
theorem dX9_turnTo_71 : decode cX9_turnTo 71 = .ok (.aload_n 0, 1) := by decide +kernel
theorem dX9_turnTo_72 : decode cX9_turnTo 72 = .ok (.getfield 49, 3) := by decide +kernel
theorem dX9_turnTo_75 : decode cX9_turnTo 75 = .ok (.iload 4, 2) := by decide +kernel
theorem dX9_turnTo_77 : decode cX9_turnTo 77 = .ok (.iaload, 1) := by decide +kernel
theorem dX9_turnTo_78 : decode cX9_turnTo 78 = .ok (.aload_n 0, 1) := by decide +kernel
theorem dX9_turnTo_79 : decode cX9_turnTo 79 = .ok (.getfield 52, 3) := by decide +kernel
theorem dX9_turnTo_82 : decode cX9_turnTo 82 = .ok (.iload 4, 2) := by decide +kernel
theorem dX9_turnTo_84 : decode cX9_turnTo 84 = .ok (.iaload, 1) := by decide +kernel
theorem dX9_turnTo_85 : decode cX9_turnTo 85 = .ok (.iconst 1, 1) := by decide +kernel
theorem dX9_turnTo_86 : decode cX9_turnTo 86 = .ok (.if_icmp .ne 7, 3) := by decide +kernel
theorem dX9_turnTo_89 : decode cX9_turnTo 89 = .ok (.iconst 2, 1) := by decide +kernel
theorem dX9_turnTo_90 : decode cX9_turnTo 90 = .ok (.goto 19, 3) := by decide +kernel
theorem dX9_turnTo_93 : decode cX9_turnTo 93 = .ok (.aload_n 0, 1) := by decide +kernel
theorem dX9_turnTo_94 : decode cX9_turnTo 94 = .ok (.getfield 52, 3) := by decide +kernel
theorem dX9_turnTo_97 : decode cX9_turnTo 97 = .ok (.iload 4, 2) := by decide +kernel
theorem dX9_turnTo_99 : decode cX9_turnTo 99 = .ok (.iaload, 1) := by decide +kernel
theorem dX9_turnTo_100 : decode cX9_turnTo 100 = .ok (.iconst 2, 1) := by decide +kernel
theorem dX9_turnTo_101 : decode cX9_turnTo 101 = .ok (.if_icmp .ne 7, 3) := by decide +kernel
theorem dX9_turnTo_104 : decode cX9_turnTo 104 = .ok (.iconst 0, 1) := by decide +kernel
theorem dX9_turnTo_105 : decode cX9_turnTo 105 = .ok (.goto 4, 3) := by decide +kernel
theorem dX9_turnTo_108 : decode cX9_turnTo 108 = .ok (.iconst 1, 1) := by decide +kernel
theorem dX9_turnTo_109 : decode cX9_turnTo 109 = .ok (.imul, 1) := by decide +kernel
theorem dX9_turnTo_110 : decode cX9_turnTo 110 = .ok (.isub, 1) := by decide +kernel
theorem dX9_turnTo_111 : decode cX9_turnTo 111 = .ok (.invokestatic 148, 3) := by decide +kernel
theorem dX9_turnTo_114 : decode cX9_turnTo 114 = .ok (.istore_n 2, 1) := by decide +kernel
theorem dX9_turnTo_115 : decode cX9_turnTo 115 = .ok (.aload_n 0, 1) := by decide +kernel
theorem dX9_turnTo_116 : decode cX9_turnTo 116 = .ok (.getfield 64, 3) := by decide +kernel
theorem dX9_turnTo_119 : decode cX9_turnTo 119 = .ok (.iload 4, 2) := by decide +kernel
theorem dX9_turnTo_121 : decode cX9_turnTo 121 = .ok (.iload_n 2, 1) := by decide +kernel
theorem dX9_turnTo_122 : decode cX9_turnTo 122 = .ok (.iastore, 1) := by decide +kernel
theorem dX9_turnTo_123 : decode cX9_turnTo 123 = .ok (.iinc 4 1, 3) := by decide +kernel
theorem dX9_turnTo_126 : decode cX9_turnTo 126 = .ok (.goto (-109), 3) := by decide +kernel
theorem dX9_turnTo_129 : decode cX9_turnTo 129 = .ok (.iinc 3 1, 3) := by decide +kernel
theorem dX9_turnTo_132 : decode cX9_turnTo 132 = .ok (.goto (-123), 3) := by decide +kernel
theorem dX9_turnTo_135 : decode cX9_turnTo 135 = .ok (.iload_n 2, 1) := by decide +kernel
theorem dX9_turnTo_136 : decode cX9_turnTo 136 = .ok (.ireturn, 1) := by decide +kernel
theorem dX9_isOnWay_0 : decode cX9_isOnWay 0 = .ok (.aload_n 0, 1) := by decide +kernel
theorem dX9_isOnWay_1 : decode cX9_isOnWay 1 = .ok (.getfield 141, 3) := by decide +kernel
theorem dX9_isOnWay_4 : decode cX9_isOnWay 4 = .ok (.iload_n 1, 1) := by decide +kernel
theorem dX9_isOnWay_5 : decode cX9_isOnWay 5 = .ok (.invokestatic 144, 3) := by decide +kernel
theorem dX9_isOnWay_8 : decode cX9_isOnWay 8 = .ok (.ifCond .ne 37, 3) := by decide +kernel
theorem dX9_isOnWay_11 : decode cX9_isOnWay 11 = .ok (.iload_n 2, 1) := by decide +kernel
theorem dX9_isOnWay_12 : decode cX9_isOnWay 12 = .ok (.aload_n 0, 1) := by decide +kernel
theorem dX9_isOnWay_13 : decode cX9_isOnWay 13 = .ok (.getfield 43, 3) := by decide +kernel
theorem dX9_isOnWay_16 : decode cX9_isOnWay 16 = .ok (.iload_n 1, 1) := by decide +kernel
theorem dX9_isOnWay_17 : decode cX9_isOnWay 17 = .ok (.iaload, 1) := by decide +kernel
theorem dX9_isOnWay_18 : decode cX9_isOnWay 18 = .ok (.if_icmp .lt 27, 3) := by decide +kernel
theorem dX9_isOnWay_21 : decode cX9_isOnWay 21 = .ok (.iload_n 2, 1) := by decide +kernel
theorem dX9_isOnWay_22 : decode cX9_isOnWay 22 = .ok (.aload_n 0, 1) := by decide +kernel
theorem dX9_isOnWay_23 : decode cX9_isOnWay 23 = .ok (.getfield 67, 3) := by decide +kernel
theorem dX9_isOnWay_26 : decode cX9_isOnWay 26 = .ok (.iload_n 1, 1) := by decide +kernel
theorem dX9_isOnWay_27 : decode cX9_isOnWay 27 = .ok (.iaload, 1) := by decide +kernel
theorem dX9_isOnWay_28 : decode cX9_isOnWay 28 = .ok (.if_icmp .ge 17, 3) := by decide +kernel
theorem dX9_isOnWay_31 : decode cX9_isOnWay 31 = .ok (.aload_n 0, 1) := by decide +kernel
theorem dX9_isOnWay_32 : decode cX9_isOnWay 32 = .ok (.getfield 70, 3) := by decide +kernel
theorem dX9_isOnWay_35 : decode cX9_isOnWay 35 = .ok (.iload_n 1, 1) := by decide +kernel
theorem dX9_isOnWay_36 : decode cX9_isOnWay 36 = .ok (.iaload, 1) := by decide +kernel
theorem dX9_isOnWay_37 : decode cX9_isOnWay 37 = .ok (.iload_n 2, 1) := by decide +kernel
theorem dX9_isOnWay_38 : decode cX9_isOnWay 38 = .ok (.if_icmp .lt 7, 3) := by decide +kernel
theorem dX9_isOnWay_41 : decode cX9_isOnWay 41 = .ok (.iconst 1, 1) := by decide +kernel
theorem dX9_isOnWay_42 : decode cX9_isOnWay 42 = .ok (.goto 4, 3) := by decide +kernel
theorem dX9_isOnWay_45 : decode cX9_isOnWay 45 = .ok (.iconst 0, 1) := by decide +kernel
theorem dX9_isOnWay_46 : decode cX9_isOnWay 46 = .ok (.ireturn, 1) := by decide +kernel
theorem dX9_farOf_0 : decode cX9_farOf 0 = .ok (.aload_n 0, 1) := by decide +kernel
theorem dX9_farOf_1 : decode cX9_farOf 1 = .ok (.getfield 49, 3) := by decide +kernel
theorem dX9_farOf_4 : decode cX9_farOf 4 = .ok (.iload_n 1, 1) := by decide +kernel
theorem dX9_farOf_5 : decode cX9_farOf 5 = .ok (.iaload, 1) := by decide +kernel
theorem dX9_farOf_6 : decode cX9_farOf 6 = .ok (.iload_n 2, 1) := by decide +kernel
theorem dX9_farOf_7 : decode cX9_farOf 7 = .ok (.aload_n 0, 1) := by decide +kernel
theorem dX9_farOf_8 : decode cX9_farOf 8 = .ok (.getfield 43, 3) := by decide +kernel
theorem dX9_farOf_11 : decode cX9_farOf 11 = .ok (.iload_n 1, 1) := by decide +kernel
theorem dX9_farOf_12 : decode cX9_farOf 12 = .ok (.iaload, 1) := by decide +kernel
theorem dX9_farOf_13 : decode cX9_farOf 13 = .ok (.isub, 1) := by decide +kernel
theorem dX9_farOf_14 : decode cX9_farOf 14 = .ok (.imul, 1) := by decide +kernel
theorem dX9_farOf_15 : decode cX9_farOf 15 = .ok (.ireturn, 1) := by decide +kernel
theorem dX9_meetOn_0 : decode cX9_meetOn 0 = .ok (.iconst 0, 1) := by decide +kernel
theorem dX9_meetOn_1 : decode cX9_meetOn 1 = .ok (.istore_n 2, 1) := by decide +kernel
theorem dX9_meetOn_2 : decode cX9_meetOn 2 = .ok (.iconst 0, 1) := by decide +kernel
theorem dX9_meetOn_3 : decode cX9_meetOn 3 = .ok (.istore_n 3, 1) := by decide +kernel
theorem dX9_meetOn_4 : decode cX9_meetOn 4 = .ok (.iload_n 3, 1) := by decide +kernel
theorem dX9_meetOn_5 : decode cX9_meetOn 5 = .ok (.aload_n 0, 1) := by decide +kernel
theorem dX9_meetOn_6 : decode cX9_meetOn 6 = .ok (.getfield 40, 3) := by decide +kernel
theorem dX9_meetOn_9 : decode cX9_meetOn 9 = .ok (.iconst 0, 1) := by decide +kernel
theorem dX9_meetOn_10 : decode cX9_meetOn 10 = .ok (.iaload, 1) := by decide +kernel
theorem dX9_meetOn_11 : decode cX9_meetOn 11 = .ok (.if_icmp .ge 102, 3) := by decide +kernel
theorem dX9_meetOn_14 : decode cX9_meetOn 14 = .ok (.iconst 0, 1) := by decide +kernel
theorem dX9_meetOn_15 : decode cX9_meetOn 15 = .ok (.istore 4, 2) := by decide +kernel
theorem dX9_meetOn_17 : decode cX9_meetOn 17 = .ok (.iload 4, 2) := by decide +kernel
theorem dX9_meetOn_19 : decode cX9_meetOn 19 = .ok (.iload_n 3, 1) := by decide +kernel
theorem dX9_meetOn_20 : decode cX9_meetOn 20 = .ok (.if_icmp .ge 87, 3) := by decide +kernel
theorem dX9_meetOn_23 : decode cX9_meetOn 23 = .ok (.aload_n 0, 1) := by decide +kernel
theorem dX9_meetOn_24 : decode cX9_meetOn 24 = .ok (.iload_n 3, 1) := by decide +kernel
theorem dX9_meetOn_25 : decode cX9_meetOn 25 = .ok (.iload_n 1, 1) := by decide +kernel
theorem dX9_meetOn_26 : decode cX9_meetOn 26 = .ok (.invokevirtual 151, 3) := by decide +kernel
theorem dX9_meetOn_29 : decode cX9_meetOn 29 = .ok (.ifCond .eq 49, 3) := by decide +kernel
theorem dX9_meetOn_32 : decode cX9_meetOn 32 = .ok (.aload_n 0, 1) := by decide +kernel
theorem dX9_meetOn_33 : decode cX9_meetOn 33 = .ok (.iload 4, 2) := by decide +kernel
theorem dX9_meetOn_35 : decode cX9_meetOn 35 = .ok (.iload_n 1, 1) := by decide +kernel
theorem dX9_meetOn_36 : decode cX9_meetOn 36 = .ok (.invokevirtual 151, 3) := by decide +kernel
theorem dX9_meetOn_39 : decode cX9_meetOn 39 = .ok (.ifCond .eq 39, 3) := by decide +kernel
theorem dX9_meetOn_42 : decode cX9_meetOn 42 = .ok (.aload_n 0, 1) := by decide +kernel
theorem dX9_meetOn_43 : decode cX9_meetOn 43 = .ok (.getfield 61, 3) := by decide +kernel
theorem dX9_meetOn_46 : decode cX9_meetOn 46 = .ok (.iload_n 3, 1) := by decide +kernel
theorem dX9_meetOn_47 : decode cX9_meetOn 47 = .ok (.iaload, 1) := by decide +kernel
theorem dX9_meetOn_48 : decode cX9_meetOn 48 = .ok (.aload_n 0, 1) := by decide +kernel
theorem dX9_meetOn_49 : decode cX9_meetOn 49 = .ok (.getfield 61, 3) := by decide +kernel
theorem dX9_meetOn_52 : decode cX9_meetOn 52 = .ok (.iload 4, 2) := by decide +kernel
theorem dX9_meetOn_54 : decode cX9_meetOn 54 = .ok (.iaload, 1) := by decide +kernel
theorem dX9_meetOn_55 : decode cX9_meetOn 55 = .ok (.if_icmp .ne 23, 3) := by decide +kernel
theorem dX9_meetOn_58 : decode cX9_meetOn 58 = .ok (.aload_n 0, 1) := by decide +kernel
theorem dX9_meetOn_59 : decode cX9_meetOn 59 = .ok (.iload_n 3, 1) := by decide +kernel
theorem dX9_meetOn_60 : decode cX9_meetOn 60 = .ok (.iload_n 1, 1) := by decide +kernel
theorem dX9_meetOn_61 : decode cX9_meetOn 61 = .ok (.invokevirtual 154, 3) := by decide +kernel
theorem dX9_meetOn_64 : decode cX9_meetOn 64 = .ok (.aload_n 0, 1) := by decide +kernel
theorem dX9_meetOn_65 : decode cX9_meetOn 65 = .ok (.iload 4, 2) := by decide +kernel
theorem dX9_meetOn_67 : decode cX9_meetOn 67 = .ok (.iload_n 1, 1) := by decide +kernel
theorem dX9_meetOn_68 : decode cX9_meetOn 68 = .ok (.invokevirtual 154, 3) := by decide +kernel
theorem dX9_meetOn_71 : decode cX9_meetOn 71 = .ok (.if_icmp .ne 7, 3) := by decide +kernel
theorem dX9_meetOn_74 : decode cX9_meetOn 74 = .ok (.iconst 1, 1) := by decide +kernel
theorem dX9_meetOn_75 : decode cX9_meetOn 75 = .ok (.goto 4, 3) := by decide +kernel
theorem dX9_meetOn_78 : decode cX9_meetOn 78 = .ok (.iconst 0, 1) := by decide +kernel
theorem dX9_meetOn_79 : decode cX9_meetOn 79 = .ok (.istore 5, 2) := by decide +kernel
theorem dX9_meetOn_81 : decode cX9_meetOn 81 = .ok (.iload_n 2, 1) := by decide +kernel
theorem dX9_meetOn_82 : decode cX9_meetOn 82 = .ok (.iload 5, 2) := by decide +kernel
theorem dX9_meetOn_84 : decode cX9_meetOn 84 = .ok (.ifCond .eq 14, 3) := by decide +kernel
theorem dX9_meetOn_87 : decode cX9_meetOn 87 = .ok (.iconst 1, 1) := by decide +kernel
theorem dX9_meetOn_88 : decode cX9_meetOn 88 = .ok (.iload_n 3, 1) := by decide +kernel
theorem dX9_meetOn_89 : decode cX9_meetOn 89 = .ok (.ishl, 1) := by decide +kernel
theorem dX9_meetOn_90 : decode cX9_meetOn 90 = .ok (.iconst 1, 1) := by decide +kernel
theorem dX9_meetOn_91 : decode cX9_meetOn 91 = .ok (.iload 4, 2) := by decide +kernel
theorem dX9_meetOn_93 : decode cX9_meetOn 93 = .ok (.ishl, 1) := by decide +kernel
theorem dX9_meetOn_94 : decode cX9_meetOn 94 = .ok (.ior, 1) := by decide +kernel
theorem dX9_meetOn_95 : decode cX9_meetOn 95 = .ok (.goto 4, 3) := by decide +kernel
theorem dX9_meetOn_98 : decode cX9_meetOn 98 = .ok (.iconst 0, 1) := by decide +kernel
theorem dX9_meetOn_99 : decode cX9_meetOn 99 = .ok (.ior, 1) := by decide +kernel
theorem dX9_meetOn_100 : decode cX9_meetOn 100 = .ok (.istore_n 2, 1) := by decide +kernel
theorem dX9_meetOn_101 : decode cX9_meetOn 101 = .ok (.iinc 4 1, 3) := by decide +kernel
theorem dX9_meetOn_104 : decode cX9_meetOn 104 = .ok (.goto (-87), 3) := by decide +kernel
theorem dX9_meetOn_107 : decode cX9_meetOn 107 = .ok (.iinc 3 1, 3) := by decide +kernel
theorem dX9_meetOn_110 : decode cX9_meetOn 110 = .ok (.goto (-106), 3) := by decide +kernel
theorem dX9_meetOn_113 : decode cX9_meetOn 113 = .ok (.iconst 0, 1) := by decide +kernel
theorem dX9_meetOn_114 : decode cX9_meetOn 114 = .ok (.istore_n 3, 1) := by decide +kernel
theorem dX9_meetOn_115 : decode cX9_meetOn 115 = .ok (.iload_n 3, 1) := by decide +kernel
theorem dX9_meetOn_116 : decode cX9_meetOn 116 = .ok (.aload_n 0, 1) := by decide +kernel
theorem dX9_meetOn_117 : decode cX9_meetOn 117 = .ok (.getfield 40, 3) := by decide +kernel
theorem dX9_meetOn_120 : decode cX9_meetOn 120 = .ok (.iconst 0, 1) := by decide +kernel
theorem dX9_meetOn_121 : decode cX9_meetOn 121 = .ok (.iaload, 1) := by decide +kernel
theorem dX9_meetOn_122 : decode cX9_meetOn 122 = .ok (.if_icmp .ge 33, 3) := by decide +kernel
theorem dX9_meetOn_125 : decode cX9_meetOn 125 = .ok (.aload_n 0, 1) := by decide +kernel
theorem dX9_meetOn_126 : decode cX9_meetOn 126 = .ok (.getfield 70, 3) := by decide +kernel
theorem dX9_meetOn_129 : decode cX9_meetOn 129 = .ok (.iload_n 3, 1) := by decide +kernel
theorem dX9_meetOn_130 : decode cX9_meetOn 130 = .ok (.iload_n 2, 1) := by decide +kernel
theorem dX9_meetOn_131 : decode cX9_meetOn 131 = .ok (.iload_n 3, 1) := by decide +kernel
theorem dX9_meetOn_132 : decode cX9_meetOn 132 = .ok (.invokestatic 144, 3) := by decide +kernel
theorem dX9_meetOn_135 : decode cX9_meetOn 135 = .ok (.ifCond .eq 7, 3) := by decide +kernel
theorem dX9_meetOn_138 : decode cX9_meetOn 138 = .ok (.iload_n 1, 1) := by decide +kernel
theorem dX9_meetOn_139 : decode cX9_meetOn 139 = .ok (.goto 9, 3) := by decide +kernel
theorem dX9_meetOn_142 : decode cX9_meetOn 142 = .ok (.aload_n 0, 1) := by decide +kernel
theorem dX9_meetOn_143 : decode cX9_meetOn 143 = .ok (.getfield 70, 3) := by decide +kernel
theorem dX9_meetOn_146 : decode cX9_meetOn 146 = .ok (.iload_n 3, 1) := by decide +kernel
theorem dX9_meetOn_147 : decode cX9_meetOn 147 = .ok (.iaload, 1) := by decide +kernel
theorem dX9_meetOn_148 : decode cX9_meetOn 148 = .ok (.iastore, 1) := by decide +kernel
theorem dX9_meetOn_149 : decode cX9_meetOn 149 = .ok (.iinc 3 1, 3) := by decide +kernel
theorem dX9_meetOn_152 : decode cX9_meetOn 152 = .ok (.goto (-37), 3) := by decide +kernel
theorem dX9_meetOn_155 : decode cX9_meetOn 155 = .ok (.return_, 1) := by decide +kernel
theorem dX9_go_0 : decode cX9_go 0 = .ok (.aload_n 0, 1) := by decide +kernel
theorem dX9_go_1 : decode cX9_go 1 = .ok (.iload_n 1, 1) := by decide +kernel
theorem dX9_go_2 : decode cX9_go 2 = .ok (.putfield 141, 3) := by decide +kernel
theorem dX9_go_5 : decode cX9_go 5 = .ok (.aload_n 0, 1) := by decide +kernel
theorem dX9_go_6 : decode cX9_go 6 = .ok (.bipush 40, 2) := by decide +kernel
theorem dX9_go_8 : decode cX9_go 8 = .ok (.invokevirtual 158, 3) := by decide +kernel
theorem dX9_go_11 : decode cX9_go 11 = .ok (.pop, 1) := by decide +kernel
theorem dX9_go_12 : decode cX9_go 12 = .ok (.iconst 0, 1) := by decide +kernel
theorem dX9_go_13 : decode cX9_go 13 = .ok (.istore_n 2, 1) := by decide +kernel
theorem dX9_go_14 : decode cX9_go 14 = .ok (.iload_n 2, 1) := by decide +kernel
theorem dX9_go_15 : decode cX9_go 15 = .ok (.aload_n 0, 1) := by decide +kernel
theorem dX9_go_16 : decode cX9_go 16 = .ok (.getfield 40, 3) := by decide +kernel
theorem dX9_go_19 : decode cX9_go 19 = .ok (.iconst 0, 1) := by decide +kernel
theorem dX9_go_20 : decode cX9_go 20 = .ok (.iaload, 1) := by decide +kernel
theorem dX9_go_21 : decode cX9_go 21 = .ok (.if_icmp .ge 40, 3) := by decide +kernel
theorem dX9_go_24 : decode cX9_go 24 = .ok (.aload_n 0, 1) := by decide +kernel
theorem dX9_go_25 : decode cX9_go 25 = .ok (.getfield 67, 3) := by decide +kernel
theorem dX9_go_28 : decode cX9_go 28 = .ok (.iload_n 2, 1) := by decide +kernel
theorem dX9_go_29 : decode cX9_go 29 = .ok (.aload_n 0, 1) := by decide +kernel
theorem dX9_go_30 : decode cX9_go 30 = .ok (.aload_n 0, 1) := by decide +kernel
theorem dX9_go_31 : decode cX9_go 31 = .ok (.getfield 43, 3) := by decide +kernel
theorem dX9_go_34 : decode cX9_go 34 = .ok (.iload_n 2, 1) := by decide +kernel
theorem dX9_go_35 : decode cX9_go 35 = .ok (.iaload, 1) := by decide +kernel
theorem dX9_go_36 : decode cX9_go 36 = .ok (.aload_n 0, 1) := by decide +kernel
theorem dX9_go_37 : decode cX9_go 37 = .ok (.getfield 49, 3) := by decide +kernel
theorem dX9_go_40 : decode cX9_go 40 = .ok (.iload_n 2, 1) := by decide +kernel
theorem dX9_go_41 : decode cX9_go 41 = .ok (.iaload, 1) := by decide +kernel
theorem dX9_go_42 : decode cX9_go 42 = .ok (.invokevirtual 161, 3) := by decide +kernel
theorem dX9_go_45 : decode cX9_go 45 = .ok (.iastore, 1) := by decide +kernel
theorem dX9_go_46 : decode cX9_go 46 = .ok (.aload_n 0, 1) := by decide +kernel
theorem dX9_go_47 : decode cX9_go 47 = .ok (.getfield 70, 3) := by decide +kernel
theorem dX9_go_50 : decode cX9_go 50 = .ok (.iload_n 2, 1) := by decide +kernel
theorem dX9_go_51 : decode cX9_go 51 = .ok (.sipush 10000, 3) := by decide +kernel
theorem dX9_go_54 : decode cX9_go 54 = .ok (.iastore, 1) := by decide +kernel
theorem dX9_go_55 : decode cX9_go 55 = .ok (.iinc 2 1, 3) := by decide +kernel
theorem dX9_go_58 : decode cX9_go 58 = .ok (.goto (-44), 3) := by decide +kernel
theorem dX9_go_61 : decode cX9_go 61 = .ok (.iconst 0, 1) := by decide +kernel
theorem dX9_go_62 : decode cX9_go 62 = .ok (.istore_n 2, 1) := by decide +kernel
theorem dX9_go_63 : decode cX9_go 63 = .ok (.iload_n 2, 1) := by decide +kernel
theorem dX9_go_64 : decode cX9_go 64 = .ok (.bipush 100, 2) := by decide +kernel
theorem dX9_go_66 : decode cX9_go 66 = .ok (.if_icmp .gt 58, 3) := by decide +kernel
theorem dX9_go_69 : decode cX9_go 69 = .ok (.aload_n 0, 1) := by decide +kernel
theorem dX9_go_70 : decode cX9_go 70 = .ok (.iload_n 2, 1) := by decide +kernel
theorem dX9_go_71 : decode cX9_go 71 = .ok (.invokevirtual 164, 3) := by decide +kernel
theorem dX9_go_74 : decode cX9_go 74 = .ok (.iconst 0, 1) := by decide +kernel
theorem dX9_go_75 : decode cX9_go 75 = .ok (.istore_n 3, 1) := by decide +kernel
theorem dX9_go_76 : decode cX9_go 76 = .ok (.iload_n 3, 1) := by decide +kernel
theorem dX9_go_77 : decode cX9_go 77 = .ok (.aload_n 0, 1) := by decide +kernel
theorem dX9_go_78 : decode cX9_go 78 = .ok (.getfield 40, 3) := by decide +kernel
theorem dX9_go_81 : decode cX9_go 81 = .ok (.iconst 0, 1) := by decide +kernel
theorem dX9_go_82 : decode cX9_go 82 = .ok (.iaload, 1) := by decide +kernel
theorem dX9_go_83 : decode cX9_go 83 = .ok (.if_icmp .ge 35, 3) := by decide +kernel
theorem dX9_go_86 : decode cX9_go 86 = .ok (.aload_n 0, 1) := by decide +kernel
theorem dX9_go_87 : decode cX9_go 87 = .ok (.getfield 67, 3) := by decide +kernel
theorem dX9_go_90 : decode cX9_go 90 = .ok (.iload_n 3, 1) := by decide +kernel
theorem dX9_go_91 : decode cX9_go 91 = .ok (.aload_n 0, 1) := by decide +kernel
theorem dX9_go_92 : decode cX9_go 92 = .ok (.getfield 70, 3) := by decide +kernel
theorem dX9_go_95 : decode cX9_go 95 = .ok (.iload_n 3, 1) := by decide +kernel
theorem dX9_go_96 : decode cX9_go 96 = .ok (.iaload, 1) := by decide +kernel
theorem dX9_go_97 : decode cX9_go 97 = .ok (.iload_n 2, 1) := by decide +kernel
theorem dX9_go_98 : decode cX9_go 98 = .ok (.if_icmp .ne 7, 3) := by decide +kernel
theorem dX9_go_101 : decode cX9_go 101 = .ok (.iload_n 2, 1) := by decide +kernel
theorem dX9_go_102 : decode cX9_go 102 = .ok (.goto 9, 3) := by decide +kernel
theorem dX9_go_105 : decode cX9_go 105 = .ok (.aload_n 0, 1) := by decide +kernel
theorem dX9_go_106 : decode cX9_go 106 = .ok (.getfield 67, 3) := by decide +kernel
theorem dX9_go_109 : decode cX9_go 109 = .ok (.iload_n 3, 1) := by decide +kernel
theorem dX9_go_110 : decode cX9_go 110 = .ok (.iaload, 1) := by decide +kernel
theorem dX9_go_111 : decode cX9_go 111 = .ok (.iastore, 1) := by decide +kernel
theorem dX9_go_112 : decode cX9_go 112 = .ok (.iinc 3 1, 3) := by decide +kernel
theorem dX9_go_115 : decode cX9_go 115 = .ok (.goto (-39), 3) := by decide +kernel
theorem dX9_go_118 : decode cX9_go 118 = .ok (.iinc 2 1, 3) := by decide +kernel
theorem dX9_go_121 : decode cX9_go 121 = .ok (.goto (-58), 3) := by decide +kernel
theorem dX9_go_124 : decode cX9_go 124 = .ok (.return_, 1) := by decide +kernel
theorem dX9_apart_0 : decode cX9_apart 0 = .ok (.iload_n 0, 1) := by decide +kernel
theorem dX9_apart_1 : decode cX9_apart 1 = .ok (.iload_n 1, 1) := by decide +kernel
theorem dX9_apart_2 : decode cX9_apart 2 = .ok (.isub, 1) := by decide +kernel
theorem dX9_apart_3 : decode cX9_apart 3 = .ok (.invokestatic 148, 3) := by decide +kernel
theorem dX9_apart_6 : decode cX9_apart 6 = .ok (.istore_n 2, 1) := by decide +kernel
theorem dX9_apart_7 : decode cX9_apart 7 = .ok (.iload_n 2, 1) := by decide +kernel
theorem dX9_apart_8 : decode cX9_apart 8 = .ok (.bipush 12, 2) := by decide +kernel
theorem dX9_apart_10 : decode cX9_apart 10 = .ok (.if_icmp .le 10, 3) := by decide +kernel
theorem dX9_apart_13 : decode cX9_apart 13 = .ok (.bipush 24, 2) := by decide +kernel
theorem dX9_apart_15 : decode cX9_apart 15 = .ok (.iload_n 2, 1) := by decide +kernel
theorem dX9_apart_16 : decode cX9_apart 16 = .ok (.isub, 1) := by decide +kernel
theorem dX9_apart_17 : decode cX9_apart 17 = .ok (.goto 4, 3) := by decide +kernel
theorem dX9_apart_20 : decode cX9_apart 20 = .ok (.iload_n 2, 1) := by decide +kernel
theorem dX9_apart_21 : decode cX9_apart 21 = .ok (.ireturn, 1) := by decide +kernel
theorem dX9_placeOf_0 : decode cX9_placeOf 0 = .ok (.aload_n 0, 1) := by decide +kernel
theorem dX9_placeOf_1 : decode cX9_placeOf 1 = .ok (.getfield 61, 3) := by decide +kernel
theorem dX9_placeOf_4 : decode cX9_placeOf 4 = .ok (.iload_n 1, 1) := by decide +kernel
theorem dX9_placeOf_5 : decode cX9_placeOf 5 = .ok (.iaload, 1) := by decide +kernel
theorem dX9_placeOf_6 : decode cX9_placeOf 6 = .ok (.aload_n 0, 1) := by decide +kernel
theorem dX9_placeOf_7 : decode cX9_placeOf 7 = .ok (.getfield 52, 3) := by decide +kernel
theorem dX9_placeOf_10 : decode cX9_placeOf 10 = .ok (.iload_n 1, 1) := by decide +kernel
theorem dX9_placeOf_11 : decode cX9_placeOf 11 = .ok (.iaload, 1) := by decide +kernel
theorem dX9_placeOf_12 : decode cX9_placeOf 12 = .ok (.iconst 3, 1) := by decide +kernel
theorem dX9_placeOf_13 : decode cX9_placeOf 13 = .ok (.if_icmp .ne 21, 3) := by decide +kernel
theorem dX9_placeOf_16 : decode cX9_placeOf 16 = .ok (.aload_n 0, 1) := by decide +kernel
theorem dX9_placeOf_17 : decode cX9_placeOf 17 = .ok (.getfield 67, 3) := by decide +kernel
theorem dX9_placeOf_20 : decode cX9_placeOf 20 = .ok (.iload_n 1, 1) := by decide +kernel
theorem dX9_placeOf_21 : decode cX9_placeOf 21 = .ok (.iaload, 1) := by decide +kernel
theorem dX9_placeOf_22 : decode cX9_placeOf 22 = .ok (.aload_n 0, 1) := by decide +kernel
theorem dX9_placeOf_23 : decode cX9_placeOf 23 = .ok (.getfield 43, 3) := by decide +kernel
theorem dX9_placeOf_26 : decode cX9_placeOf 26 = .ok (.iload_n 1, 1) := by decide +kernel
theorem dX9_placeOf_27 : decode cX9_placeOf 27 = .ok (.iaload, 1) := by decide +kernel
theorem dX9_placeOf_28 : decode cX9_placeOf 28 = .ok (.isub, 1) := by decide +kernel
theorem dX9_placeOf_29 : decode cX9_placeOf 29 = .ok (.iconst 4, 1) := by decide +kernel
theorem dX9_placeOf_30 : decode cX9_placeOf 30 = .ok (.idiv, 1) := by decide +kernel
theorem dX9_placeOf_31 : decode cX9_placeOf 31 = .ok (.goto 4, 3) := by decide +kernel
theorem dX9_placeOf_34 : decode cX9_placeOf 34 = .ok (.iconst 0, 1) := by decide +kernel
theorem dX9_placeOf_35 : decode cX9_placeOf 35 = .ok (.iadd, 1) := by decide +kernel
theorem dX9_placeOf_36 : decode cX9_placeOf 36 = .ok (.invokestatic 148, 3) := by decide +kernel
theorem dX9_placeOf_39 : decode cX9_placeOf 39 = .ok (.ireturn, 1) := by decide +kernel
theorem dX9_isCaught_0 : decode cX9_isCaught 0 = .ok (.iconst 0, 1) := by decide +kernel
theorem dX9_isCaught_1 : decode cX9_isCaught 1 = .ok (.istore_n 2, 1) := by decide +kernel
theorem dX9_isCaught_2 : decode cX9_isCaught 2 = .ok (.iconst 0, 1) := by decide +kernel
theorem dX9_isCaught_3 : decode cX9_isCaught 3 = .ok (.istore_n 3, 1) := by decide +kernel
theorem dX9_isCaught_4 : decode cX9_isCaught 4 = .ok (.iload_n 3, 1) := by decide +kernel
theorem dX9_isCaught_5 : decode cX9_isCaught 5 = .ok (.aload_n 0, 1) := by decide +kernel
theorem dX9_isCaught_6 : decode cX9_isCaught 6 = .ok (.getfield 19, 3) := by decide +kernel
theorem dX9_isCaught_9 : decode cX9_isCaught 9 = .ok (.iconst 0, 1) := by decide +kernel
theorem dX9_isCaught_10 : decode cX9_isCaught 10 = .ok (.iaload, 1) := by decide +kernel
theorem dX9_isCaught_11 : decode cX9_isCaught 11 = .ok (.if_icmp .ge 69, 3) := by decide +kernel
theorem dX9_isCaught_14 : decode cX9_isCaught 14 = .ok (.iload_n 2, 1) := by decide +kernel
theorem dX9_isCaught_15 : decode cX9_isCaught 15 = .ok (.ifCond .ne 53, 3) := by decide +kernel
theorem dX9_isCaught_18 : decode cX9_isCaught 18 = .ok (.aload_n 0, 1) := by decide +kernel
theorem dX9_isCaught_19 : decode cX9_isCaught 19 = .ok (.getfield 67, 3) := by decide +kernel
theorem dX9_isCaught_22 : decode cX9_isCaught 22 = .ok (.iload_n 1, 1) := by decide +kernel
theorem dX9_isCaught_23 : decode cX9_isCaught 23 = .ok (.iaload, 1) := by decide +kernel
theorem dX9_isCaught_24 : decode cX9_isCaught 24 = .ok (.i2l, 1) := by decide +kernel
theorem dX9_isCaught_25 : decode cX9_isCaught 25 = .ok (.aload_n 0, 1) := by decide +kernel
theorem dX9_isCaught_26 : decode cX9_isCaught 26 = .ok (.getfield 28, 3) := by decide +kernel
theorem dX9_isCaught_29 : decode cX9_isCaught 29 = .ok (.iload_n 3, 1) := by decide +kernel
theorem dX9_isCaught_30 : decode cX9_isCaught 30 = .ok (.iaload, 1) := by decide +kernel
theorem dX9_isCaught_31 : decode cX9_isCaught 31 = .ok (.i2l, 1) := by decide +kernel
theorem dX9_isCaught_32 : decode cX9_isCaught 32 = .ok (.aload_n 0, 1) := by decide +kernel
theorem dX9_isCaught_33 : decode cX9_isCaught 33 = .ok (.getfield 31, 3) := by decide +kernel
theorem dX9_isCaught_36 : decode cX9_isCaught 36 = .ok (.iload_n 3, 1) := by decide +kernel
theorem dX9_isCaught_37 : decode cX9_isCaught 37 = .ok (.iaload, 1) := by decide +kernel
theorem dX9_isCaught_38 : decode cX9_isCaught 38 = .ok (.i2l, 1) := by decide +kernel
theorem dX9_isCaught_39 : decode cX9_isCaught 39 = .ok (.invokestatic 92, 3) := by decide +kernel
theorem dX9_isCaught_42 : decode cX9_isCaught 42 = .ok (.ifCond .eq 30, 3) := by decide +kernel
theorem dX9_isCaught_45 : decode cX9_isCaught 45 = .ok (.aload_n 0, 1) := by decide +kernel
theorem dX9_isCaught_46 : decode cX9_isCaught 46 = .ok (.iload_n 1, 1) := by decide +kernel
theorem dX9_isCaught_47 : decode cX9_isCaught 47 = .ok (.invokevirtual 167, 3) := by decide +kernel
theorem dX9_isCaught_50 : decode cX9_isCaught 50 = .ok (.aload_n 0, 1) := by decide +kernel
theorem dX9_isCaught_51 : decode cX9_isCaught 51 = .ok (.getfield 22, 3) := by decide +kernel
theorem dX9_isCaught_54 : decode cX9_isCaught 54 = .ok (.iload_n 3, 1) := by decide +kernel
theorem dX9_isCaught_55 : decode cX9_isCaught 55 = .ok (.iaload, 1) := by decide +kernel
theorem dX9_isCaught_56 : decode cX9_isCaught 56 = .ok (.invokestatic 170, 3) := by decide +kernel
theorem dX9_isCaught_59 : decode cX9_isCaught 59 = .ok (.aload_n 0, 1) := by decide +kernel
theorem dX9_isCaught_60 : decode cX9_isCaught 60 = .ok (.getfield 25, 3) := by decide +kernel
theorem dX9_isCaught_63 : decode cX9_isCaught 63 = .ok (.iload_n 3, 1) := by decide +kernel
theorem dX9_isCaught_64 : decode cX9_isCaught 64 = .ok (.iaload, 1) := by decide +kernel
theorem dX9_isCaught_65 : decode cX9_isCaught 65 = .ok (.if_icmp .gt 7, 3) := by decide +kernel
theorem dX9_isCaught_68 : decode cX9_isCaught 68 = .ok (.iconst 1, 1) := by decide +kernel
theorem dX9_isCaught_69 : decode cX9_isCaught 69 = .ok (.goto 4, 3) := by decide +kernel
theorem dX9_isCaught_72 : decode cX9_isCaught 72 = .ok (.iconst 0, 1) := by decide +kernel
theorem dX9_isCaught_73 : decode cX9_isCaught 73 = .ok (.istore_n 2, 1) := by decide +kernel
theorem dX9_isCaught_74 : decode cX9_isCaught 74 = .ok (.iinc 3 1, 3) := by decide +kernel
theorem dX9_isCaught_77 : decode cX9_isCaught 77 = .ok (.goto (-73), 3) := by decide +kernel
theorem dX9_isCaught_80 : decode cX9_isCaught 80 = .ok (.iload_n 2, 1) := by decide +kernel
theorem dX9_isCaught_81 : decode cX9_isCaught 81 = .ok (.ireturn, 1) := by decide +kernel
theorem dX9_howOf_0 : decode cX9_howOf 0 = .ok (.aload_n 0, 1) := by decide +kernel
theorem dX9_howOf_1 : decode cX9_howOf 1 = .ok (.getfield 70, 3) := by decide +kernel
theorem dX9_howOf_4 : decode cX9_howOf 4 = .ok (.iload_n 1, 1) := by decide +kernel
theorem dX9_howOf_5 : decode cX9_howOf 5 = .ok (.iaload, 1) := by decide +kernel
theorem dX9_howOf_6 : decode cX9_howOf 6 = .ok (.sipush 10000, 3) := by decide +kernel
theorem dX9_howOf_9 : decode cX9_howOf 9 = .ok (.if_icmp .ge 7, 3) := by decide +kernel
theorem dX9_howOf_12 : decode cX9_howOf 12 = .ok (.iconst 2, 1) := by decide +kernel
theorem dX9_howOf_13 : decode cX9_howOf 13 = .ok (.goto 16, 3) := by decide +kernel
theorem dX9_howOf_16 : decode cX9_howOf 16 = .ok (.aload_n 0, 1) := by decide +kernel
theorem dX9_howOf_17 : decode cX9_howOf 17 = .ok (.iload_n 1, 1) := by decide +kernel
theorem dX9_howOf_18 : decode cX9_howOf 18 = .ok (.invokevirtual 173, 3) := by decide +kernel
theorem dX9_howOf_21 : decode cX9_howOf 21 = .ok (.ifCond .eq 7, 3) := by decide +kernel
theorem dX9_howOf_24 : decode cX9_howOf 24 = .ok (.iconst 0, 1) := by decide +kernel
theorem dX9_howOf_25 : decode cX9_howOf 25 = .ok (.goto 4, 3) := by decide +kernel
theorem dX9_howOf_28 : decode cX9_howOf 28 = .ok (.iconst 1, 1) := by decide +kernel
theorem dX9_howOf_29 : decode cX9_howOf 29 = .ok (.ireturn, 1) := by decide +kernel
theorem dX9_priceOf_0 : decode cX9_priceOf 0 = .ok (.aload_n 0, 1) := by decide +kernel
theorem dX9_priceOf_1 : decode cX9_priceOf 1 = .ok (.getfield 34, 3) := by decide +kernel
theorem dX9_priceOf_4 : decode cX9_priceOf 4 = .ok (.iconst 0, 1) := by decide +kernel
theorem dX9_priceOf_5 : decode cX9_priceOf 5 = .ok (.iaload, 1) := by decide +kernel
theorem dX9_priceOf_6 : decode cX9_priceOf 6 = .ok (.aload_n 0, 1) := by decide +kernel
theorem dX9_priceOf_7 : decode cX9_priceOf 7 = .ok (.getfield 37, 3) := by decide +kernel
theorem dX9_priceOf_10 : decode cX9_priceOf 10 = .ok (.iconst 0, 1) := by decide +kernel
theorem dX9_priceOf_11 : decode cX9_priceOf 11 = .ok (.iaload, 1) := by decide +kernel
theorem dX9_priceOf_12 : decode cX9_priceOf 12 = .ok (.iload_n 1, 1) := by decide +kernel
theorem dX9_priceOf_13 : decode cX9_priceOf 13 = .ok (.imul, 1) := by decide +kernel
theorem dX9_priceOf_14 : decode cX9_priceOf 14 = .ok (.iadd, 1) := by decide +kernel
theorem dX9_priceOf_15 : decode cX9_priceOf 15 = .ok (.bipush 50, 2) := by decide +kernel
theorem dX9_priceOf_17 : decode cX9_priceOf 17 = .ok (.irem, 1) := by decide +kernel
theorem dX9_priceOf_18 : decode cX9_priceOf 18 = .ok (.iconst 1, 1) := by decide +kernel
theorem dX9_priceOf_19 : decode cX9_priceOf 19 = .ok (.iadd, 1) := by decide +kernel
theorem dX9_priceOf_20 : decode cX9_priceOf 20 = .ok (.ireturn, 1) := by decide +kernel
theorem dX9_paidOf_0 : decode cX9_paidOf 0 = .ok (.aload_n 0, 1) := by decide +kernel
theorem dX9_paidOf_1 : decode cX9_paidOf 1 = .ok (.iload_n 1, 1) := by decide +kernel
theorem dX9_paidOf_2 : decode cX9_paidOf 2 = .ok (.invokevirtual 176, 3) := by decide +kernel
theorem dX9_paidOf_5 : decode cX9_paidOf 5 = .ok (.ifCond .ne 16, 3) := by decide +kernel
theorem dX9_paidOf_8 : decode cX9_paidOf 8 = .ok (.aload_n 0, 1) := by decide +kernel
theorem dX9_paidOf_9 : decode cX9_paidOf 9 = .ok (.aload_n 0, 1) := by decide +kernel
theorem dX9_paidOf_10 : decode cX9_paidOf 10 = .ok (.getfield 67, 3) := by decide +kernel
theorem dX9_paidOf_13 : decode cX9_paidOf 13 = .ok (.iload_n 1, 1) := by decide +kernel
theorem dX9_paidOf_14 : decode cX9_paidOf 14 = .ok (.iaload, 1) := by decide +kernel
theorem dX9_paidOf_15 : decode cX9_paidOf 15 = .ok (.invokevirtual 179, 3) := by decide +kernel
theorem dX9_paidOf_18 : decode cX9_paidOf 18 = .ok (.goto 4, 3) := by decide +kernel
theorem dX9_paidOf_21 : decode cX9_paidOf 21 = .ok (.iconst 0, 1) := by decide +kernel
theorem dX9_paidOf_22 : decode cX9_paidOf 22 = .ok (.ireturn, 1) := by decide +kernel
theorem dX9_load_0 : decode cX9_load 0 = .ok (.aload_n 0, 1) := by decide +kernel
theorem dX9_load_1 : decode cX9_load 1 = .ok (.iload_n 1, 1) := by decide +kernel
theorem dX9_load_2 : decode cX9_load 2 = .ok (.invokevirtual 182, 3) := by decide +kernel
theorem dX9_load_5 : decode cX9_load 5 = .ok (.ifCond .eq 15, 3) := by decide +kernel
theorem dX9_load_8 : decode cX9_load 8 = .ok (.iload_n 2, 1) := by decide +kernel
theorem dX9_load_9 : decode cX9_load 9 = .ok (.i2l, 1) := by decide +kernel
theorem dX9_load_10 : decode cX9_load 10 = .ok (.lconst 0, 1) := by decide +kernel
theorem dX9_load_11 : decode cX9_load 11 = .ok (.ldc2_w 90, 3) := by decide +kernel
theorem dX9_load_14 : decode cX9_load 14 = .ok (.invokestatic 92, 3) := by decide +kernel
theorem dX9_load_17 : decode cX9_load 17 = .ok (.ifCond .ne 5, 3) := by decide +kernel
theorem dX9_load_20 : decode cX9_load 20 = .ok (.iconst (-1), 1) := by decide +kernel
theorem dX9_load_21 : decode cX9_load 21 = .ok (.ireturn, 1) := by decide +kernel
theorem dX9_load_22 : decode cX9_load 22 = .ok (.aload_n 0, 1) := by decide +kernel
theorem dX9_load_23 : decode cX9_load 23 = .ok (.iconst 0, 1) := by decide +kernel
theorem dX9_load_24 : decode cX9_load 24 = .ok (.invokevirtual 185, 3) := by decide +kernel
theorem dX9_load_27 : decode cX9_load 27 = .ok (.iload_n 2, 1) := by decide +kernel
theorem dX9_load_28 : decode cX9_load 28 = .ok (.tableswitch 103 0 7 #[48, 55, 62, 69, 76, 83, 90, 96], 48) := by decide +kernel
theorem dX9_load_76 : decode cX9_load 76 = .ok (.aload_n 0, 1) := by decide +kernel
theorem dX9_load_77 : decode cX9_load 77 = .ok (.getfield 43, 3) := by decide +kernel
theorem dX9_load_80 : decode cX9_load 80 = .ok (.iload_n 1, 1) := by decide +kernel
theorem dX9_load_81 : decode cX9_load 81 = .ok (.iaload, 1) := by decide +kernel
theorem dX9_load_82 : decode cX9_load 82 = .ok (.ireturn, 1) := by decide +kernel
theorem dX9_load_83 : decode cX9_load 83 = .ok (.aload_n 0, 1) := by decide +kernel
theorem dX9_load_84 : decode cX9_load 84 = .ok (.getfield 46, 3) := by decide +kernel
theorem dX9_load_87 : decode cX9_load 87 = .ok (.iload_n 1, 1) := by decide +kernel
theorem dX9_load_88 : decode cX9_load 88 = .ok (.iaload, 1) := by decide +kernel
theorem dX9_load_89 : decode cX9_load 89 = .ok (.ireturn, 1) := by decide +kernel
theorem dX9_load_90 : decode cX9_load 90 = .ok (.aload_n 0, 1) := by decide +kernel
theorem dX9_load_91 : decode cX9_load 91 = .ok (.getfield 49, 3) := by decide +kernel
theorem dX9_load_94 : decode cX9_load 94 = .ok (.iload_n 1, 1) := by decide +kernel
theorem dX9_load_95 : decode cX9_load 95 = .ok (.iaload, 1) := by decide +kernel
theorem dX9_load_96 : decode cX9_load 96 = .ok (.ireturn, 1) := by decide +kernel
theorem dX9_load_97 : decode cX9_load 97 = .ok (.aload_n 0, 1) := by decide +kernel
theorem dX9_load_98 : decode cX9_load 98 = .ok (.getfield 52, 3) := by decide +kernel
theorem dX9_load_101 : decode cX9_load 101 = .ok (.iload_n 1, 1) := by decide +kernel
theorem dX9_load_102 : decode cX9_load 102 = .ok (.iaload, 1) := by decide +kernel
theorem dX9_load_103 : decode cX9_load 103 = .ok (.ireturn, 1) := by decide +kernel
theorem dX9_load_104 : decode cX9_load 104 = .ok (.aload_n 0, 1) := by decide +kernel
theorem dX9_load_105 : decode cX9_load 105 = .ok (.getfield 61, 3) := by decide +kernel
theorem dX9_load_108 : decode cX9_load 108 = .ok (.iload_n 1, 1) := by decide +kernel
theorem dX9_load_109 : decode cX9_load 109 = .ok (.iaload, 1) := by decide +kernel
theorem dX9_load_110 : decode cX9_load 110 = .ok (.ireturn, 1) := by decide +kernel
theorem dX9_load_111 : decode cX9_load 111 = .ok (.aload_n 0, 1) := by decide +kernel
theorem dX9_load_112 : decode cX9_load 112 = .ok (.getfield 64, 3) := by decide +kernel
theorem dX9_load_115 : decode cX9_load 115 = .ok (.iload_n 1, 1) := by decide +kernel
theorem dX9_load_116 : decode cX9_load 116 = .ok (.iaload, 1) := by decide +kernel
theorem dX9_load_117 : decode cX9_load 117 = .ok (.ireturn, 1) := by decide +kernel
theorem dX9_load_118 : decode cX9_load 118 = .ok (.aload_n 0, 1) := by decide +kernel
theorem dX9_load_119 : decode cX9_load 119 = .ok (.iload_n 1, 1) := by decide +kernel
theorem dX9_load_120 : decode cX9_load 120 = .ok (.invokevirtual 176, 3) := by decide +kernel
theorem dX9_load_123 : decode cX9_load 123 = .ok (.ireturn, 1) := by decide +kernel
theorem dX9_load_124 : decode cX9_load 124 = .ok (.aload_n 0, 1) := by decide +kernel
theorem dX9_load_125 : decode cX9_load 125 = .ok (.getfield 67, 3) := by decide +kernel
theorem dX9_load_128 : decode cX9_load 128 = .ok (.iload_n 1, 1) := by decide +kernel
theorem dX9_load_129 : decode cX9_load 129 = .ok (.iaload, 1) := by decide +kernel
theorem dX9_load_130 : decode cX9_load 130 = .ok (.ireturn, 1) := by decide +kernel
theorem dX9_load_131 : decode cX9_load 131 = .ok (.aload_n 0, 1) := by decide +kernel
theorem dX9_load_132 : decode cX9_load 132 = .ok (.iload_n 1, 1) := by decide +kernel
theorem dX9_load_133 : decode cX9_load 133 = .ok (.invokevirtual 188, 3) := by decide +kernel
theorem dX9_load_136 : decode cX9_load 136 = .ok (.ireturn, 1) := by decide +kernel
theorem dX9_isDay_0 : decode cX9_isDay 0 = .ok (.iload_n 0, 1) := by decide +kernel
theorem dX9_isDay_1 : decode cX9_isDay 1 = .ok (.i2l, 1) := by decide +kernel
theorem dX9_isDay_2 : decode cX9_isDay 2 = .ok (.lconst 0, 1) := by decide +kernel
theorem dX9_isDay_3 : decode cX9_isDay 3 = .ok (.ldc2_w 191, 3) := by decide +kernel
theorem dX9_isDay_6 : decode cX9_isDay 6 = .ok (.invokestatic 92, 3) := by decide +kernel
theorem dX9_isDay_9 : decode cX9_isDay 9 = .ok (.ireturn, 1) := by decide +kernel
theorem dX9_far_0 : decode cX9_far 0 = .ok (.aload_n 0, 1) := by decide +kernel
theorem dX9_far_1 : decode cX9_far 1 = .ok (.iload_n 1, 1) := by decide +kernel
theorem dX9_far_2 : decode cX9_far 2 = .ok (.invokevirtual 182, 3) := by decide +kernel
theorem dX9_far_5 : decode cX9_far 5 = .ok (.ifCond .eq 10, 3) := by decide +kernel
theorem dX9_far_8 : decode cX9_far 8 = .ok (.iload_n 2, 1) := by decide +kernel
theorem dX9_far_9 : decode cX9_far 9 = .ok (.invokestatic 193, 3) := by decide +kernel
theorem dX9_far_12 : decode cX9_far 12 = .ok (.ifCond .ne 5, 3) := by decide +kernel
theorem dX9_far_15 : decode cX9_far 15 = .ok (.iconst (-1), 1) := by decide +kernel
theorem dX9_far_16 : decode cX9_far 16 = .ok (.ireturn, 1) := by decide +kernel
theorem dX9_far_17 : decode cX9_far 17 = .ok (.aload_n 0, 1) := by decide +kernel
theorem dX9_far_18 : decode cX9_far 18 = .ok (.iconst 0, 1) := by decide +kernel
theorem dX9_far_19 : decode cX9_far 19 = .ok (.invokevirtual 185, 3) := by decide +kernel
theorem dX9_far_22 : decode cX9_far 22 = .ok (.iload_n 2, 1) := by decide +kernel
theorem dX9_far_23 : decode cX9_far 23 = .ok (.aload_n 0, 1) := by decide +kernel
theorem dX9_far_24 : decode cX9_far 24 = .ok (.getfield 43, 3) := by decide +kernel
theorem dX9_far_27 : decode cX9_far 27 = .ok (.iload_n 1, 1) := by decide +kernel
theorem dX9_far_28 : decode cX9_far 28 = .ok (.iaload, 1) := by decide +kernel
theorem dX9_far_29 : decode cX9_far 29 = .ok (.if_icmp .lt 22, 3) := by decide +kernel
theorem dX9_far_32 : decode cX9_far 32 = .ok (.iload_n 2, 1) := by decide +kernel
theorem dX9_far_33 : decode cX9_far 33 = .ok (.aload_n 0, 1) := by decide +kernel
theorem dX9_far_34 : decode cX9_far 34 = .ok (.getfield 67, 3) := by decide +kernel
theorem dX9_far_37 : decode cX9_far 37 = .ok (.iload_n 1, 1) := by decide +kernel
theorem dX9_far_38 : decode cX9_far 38 = .ok (.iaload, 1) := by decide +kernel
theorem dX9_far_39 : decode cX9_far 39 = .ok (.if_icmp .ge 12, 3) := by decide +kernel
theorem dX9_far_42 : decode cX9_far 42 = .ok (.aload_n 0, 1) := by decide +kernel
theorem dX9_far_43 : decode cX9_far 43 = .ok (.iload_n 1, 1) := by decide +kernel
theorem dX9_far_44 : decode cX9_far 44 = .ok (.iload_n 2, 1) := by decide +kernel
theorem dX9_far_45 : decode cX9_far 45 = .ok (.invokevirtual 154, 3) := by decide +kernel
theorem dX9_far_48 : decode cX9_far 48 = .ok (.goto 5, 3) := by decide +kernel
theorem dX9_far_51 : decode cX9_far 51 = .ok (.bipush (-4), 2) := by decide +kernel
theorem dX9_far_53 : decode cX9_far 53 = .ok (.ireturn, 1) := by decide +kernel
theorem dX9_rock_0 : decode cX9_rock 0 = .ok (.iload_n 1, 1) := by decide +kernel
theorem dX9_rock_1 : decode cX9_rock 1 = .ok (.invokestatic 193, 3) := by decide +kernel
theorem dX9_rock_4 : decode cX9_rock 4 = .ok (.ifCond .ne 5, 3) := by decide +kernel
theorem dX9_rock_7 : decode cX9_rock 7 = .ok (.iconst (-1), 1) := by decide +kernel
theorem dX9_rock_8 : decode cX9_rock 8 = .ok (.ireturn, 1) := by decide +kernel
theorem dX9_rock_9 : decode cX9_rock 9 = .ok (.aload_n 0, 1) := by decide +kernel
theorem dX9_rock_10 : decode cX9_rock 10 = .ok (.iconst 0, 1) := by decide +kernel
theorem dX9_rock_11 : decode cX9_rock 11 = .ok (.putfield 141, 3) := by decide +kernel
theorem dX9_rock_14 : decode cX9_rock 14 = .ok (.aload_n 0, 1) := by decide +kernel
theorem dX9_rock_15 : decode cX9_rock 15 = .ok (.iload_n 1, 1) := by decide +kernel
theorem dX9_rock_16 : decode cX9_rock 16 = .ok (.invokevirtual 158, 3) := by decide +kernel
theorem dX9_rock_19 : decode cX9_rock 19 = .ok (.ireturn, 1) := by decide +kernel
theorem dX9_price_0 : decode cX9_price 0 = .ok (.iload_n 1, 1) := by decide +kernel
theorem dX9_price_1 : decode cX9_price 1 = .ok (.invokestatic 193, 3) := by decide +kernel
theorem dX9_price_4 : decode cX9_price 4 = .ok (.ifCond .eq 11, 3) := by decide +kernel
theorem dX9_price_7 : decode cX9_price 7 = .ok (.aload_n 0, 1) := by decide +kernel
theorem dX9_price_8 : decode cX9_price 8 = .ok (.iload_n 1, 1) := by decide +kernel
theorem dX9_price_9 : decode cX9_price 9 = .ok (.invokevirtual 179, 3) := by decide +kernel
theorem dX9_price_12 : decode cX9_price 12 = .ok (.goto 4, 3) := by decide +kernel
theorem dX9_price_15 : decode cX9_price 15 = .ok (.iconst (-1), 1) := by decide +kernel
theorem dX9_price_16 : decode cX9_price 16 = .ok (.ireturn, 1) := by decide +kernel
theorem dX9_howMany_0 : decode cX9_howMany 0 = .ok (.iconst 0, 1) := by decide +kernel
theorem dX9_howMany_1 : decode cX9_howMany 1 = .ok (.istore_n 2, 1) := by decide +kernel
theorem dX9_howMany_2 : decode cX9_howMany 2 = .ok (.iconst 0, 1) := by decide +kernel
theorem dX9_howMany_3 : decode cX9_howMany 3 = .ok (.istore_n 3, 1) := by decide +kernel
theorem dX9_howMany_4 : decode cX9_howMany 4 = .ok (.iload_n 3, 1) := by decide +kernel
theorem dX9_howMany_5 : decode cX9_howMany 5 = .ok (.aload_n 0, 1) := by decide +kernel
theorem dX9_howMany_6 : decode cX9_howMany 6 = .ok (.getfield 40, 3) := by decide +kernel
theorem dX9_howMany_9 : decode cX9_howMany 9 = .ok (.iconst 0, 1) := by decide +kernel
theorem dX9_howMany_10 : decode cX9_howMany 10 = .ok (.iaload, 1) := by decide +kernel
theorem dX9_howMany_11 : decode cX9_howMany 11 = .ok (.if_icmp .ge 26, 3) := by decide +kernel
theorem dX9_howMany_14 : decode cX9_howMany 14 = .ok (.iload_n 2, 1) := by decide +kernel
theorem dX9_howMany_15 : decode cX9_howMany 15 = .ok (.aload_n 0, 1) := by decide +kernel
theorem dX9_howMany_16 : decode cX9_howMany 16 = .ok (.iload_n 3, 1) := by decide +kernel
theorem dX9_howMany_17 : decode cX9_howMany 17 = .ok (.invokevirtual 176, 3) := by decide +kernel
theorem dX9_howMany_20 : decode cX9_howMany 20 = .ok (.iload_n 1, 1) := by decide +kernel
theorem dX9_howMany_21 : decode cX9_howMany 21 = .ok (.if_icmp .ne 7, 3) := by decide +kernel
theorem dX9_howMany_24 : decode cX9_howMany 24 = .ok (.iconst 1, 1) := by decide +kernel
theorem dX9_howMany_25 : decode cX9_howMany 25 = .ok (.goto 4, 3) := by decide +kernel
theorem dX9_howMany_28 : decode cX9_howMany 28 = .ok (.iconst 0, 1) := by decide +kernel
theorem dX9_howMany_29 : decode cX9_howMany 29 = .ok (.iadd, 1) := by decide +kernel
theorem dX9_howMany_30 : decode cX9_howMany 30 = .ok (.istore_n 2, 1) := by decide +kernel
theorem dX9_howMany_31 : decode cX9_howMany 31 = .ok (.iinc 3 1, 3) := by decide +kernel
theorem dX9_howMany_34 : decode cX9_howMany 34 = .ok (.goto (-30), 3) := by decide +kernel
theorem dX9_howMany_37 : decode cX9_howMany 37 = .ok (.iload_n 2, 1) := by decide +kernel
theorem dX9_howMany_38 : decode cX9_howMany 38 = .ok (.ireturn, 1) := by decide +kernel
theorem dX9_paidAll_0 : decode cX9_paidAll 0 = .ok (.iconst 0, 1) := by decide +kernel
theorem dX9_paidAll_1 : decode cX9_paidAll 1 = .ok (.istore_n 1, 1) := by decide +kernel
theorem dX9_paidAll_2 : decode cX9_paidAll 2 = .ok (.iconst 0, 1) := by decide +kernel
theorem dX9_paidAll_3 : decode cX9_paidAll 3 = .ok (.istore_n 2, 1) := by decide +kernel
theorem dX9_paidAll_4 : decode cX9_paidAll 4 = .ok (.iload_n 2, 1) := by decide +kernel
theorem dX9_paidAll_5 : decode cX9_paidAll 5 = .ok (.aload_n 0, 1) := by decide +kernel
theorem dX9_paidAll_6 : decode cX9_paidAll 6 = .ok (.getfield 40, 3) := by decide +kernel
theorem dX9_paidAll_9 : decode cX9_paidAll 9 = .ok (.iconst 0, 1) := by decide +kernel
theorem dX9_paidAll_10 : decode cX9_paidAll 10 = .ok (.iaload, 1) := by decide +kernel
theorem dX9_paidAll_11 : decode cX9_paidAll 11 = .ok (.if_icmp .ge 17, 3) := by decide +kernel
theorem dX9_paidAll_14 : decode cX9_paidAll 14 = .ok (.iload_n 1, 1) := by decide +kernel
theorem dX9_paidAll_15 : decode cX9_paidAll 15 = .ok (.aload_n 0, 1) := by decide +kernel
theorem dX9_paidAll_16 : decode cX9_paidAll 16 = .ok (.iload_n 2, 1) := by decide +kernel
theorem dX9_paidAll_17 : decode cX9_paidAll 17 = .ok (.invokevirtual 188, 3) := by decide +kernel
theorem dX9_paidAll_20 : decode cX9_paidAll 20 = .ok (.iadd, 1) := by decide +kernel
theorem dX9_paidAll_21 : decode cX9_paidAll 21 = .ok (.istore_n 1, 1) := by decide +kernel
theorem dX9_paidAll_22 : decode cX9_paidAll 22 = .ok (.iinc 2 1, 3) := by decide +kernel
theorem dX9_paidAll_25 : decode cX9_paidAll 25 = .ok (.goto (-21), 3) := by decide +kernel
theorem dX9_paidAll_28 : decode cX9_paidAll 28 = .ok (.iload_n 1, 1) := by decide +kernel
theorem dX9_paidAll_29 : decode cX9_paidAll 29 = .ok (.ireturn, 1) := by decide +kernel
theorem dX9_all_0 : decode cX9_all 0 = .ok (.iload_n 1, 1) := by decide +kernel
theorem dX9_all_1 : decode cX9_all 1 = .ok (.i2l, 1) := by decide +kernel
theorem dX9_all_2 : decode cX9_all 2 = .ok (.lconst 0, 1) := by decide +kernel
theorem dX9_all_3 : decode cX9_all 3 = .ok (.ldc2_w 196, 3) := by decide +kernel
theorem dX9_all_6 : decode cX9_all 6 = .ok (.invokestatic 92, 3) := by decide +kernel
theorem dX9_all_9 : decode cX9_all 9 = .ok (.ifCond .ne 5, 3) := by decide +kernel
theorem dX9_all_12 : decode cX9_all 12 = .ok (.iconst (-1), 1) := by decide +kernel
theorem dX9_all_13 : decode cX9_all 13 = .ok (.ireturn, 1) := by decide +kernel
theorem dX9_all_14 : decode cX9_all 14 = .ok (.aload_n 0, 1) := by decide +kernel
theorem dX9_all_15 : decode cX9_all 15 = .ok (.iconst 0, 1) := by decide +kernel
theorem dX9_all_16 : decode cX9_all 16 = .ok (.invokevirtual 185, 3) := by decide +kernel
theorem dX9_all_19 : decode cX9_all 19 = .ok (.iload_n 1, 1) := by decide +kernel
theorem dX9_all_20 : decode cX9_all 20 = .ok (.iconst 3, 1) := by decide +kernel
theorem dX9_all_21 : decode cX9_all 21 = .ok (.if_icmp .ge 11, 3) := by decide +kernel
theorem dX9_all_24 : decode cX9_all 24 = .ok (.aload_n 0, 1) := by decide +kernel
theorem dX9_all_25 : decode cX9_all 25 = .ok (.iload_n 1, 1) := by decide +kernel
theorem dX9_all_26 : decode cX9_all 26 = .ok (.invokevirtual 198, 3) := by decide +kernel
theorem dX9_all_29 : decode cX9_all 29 = .ok (.goto 7, 3) := by decide +kernel
theorem dX9_all_32 : decode cX9_all 32 = .ok (.aload_n 0, 1) := by decide +kernel
theorem dX9_all_33 : decode cX9_all 33 = .ok (.invokevirtual 201, 3) := by decide +kernel
theorem dX9_all_36 : decode cX9_all 36 = .ok (.ireturn, 1) := by decide +kernel
theorem dX9_note_0 : decode cX9_note 0 = .ok (.aload_n 0, 1) := by decide +kernel
theorem dX9_note_1 : decode cX9_note 1 = .ok (.getfield 138, 3) := by decide +kernel
theorem dX9_note_4 : decode cX9_note 4 = .ok (.bipush 8, 2) := by decide +kernel
theorem dX9_note_6 : decode cX9_note 6 = .ok (.if_icmp .ne 45, 3) := by decide +kernel
theorem dX9_note_9 : decode cX9_note 9 = .ok (.iconst 0, 1) := by decide +kernel
theorem dX9_note_10 : decode cX9_note 10 = .ok (.istore 4, 2) := by decide +kernel
theorem dX9_note_12 : decode cX9_note 12 = .ok (.iload 4, 2) := by decide +kernel
theorem dX9_note_14 : decode cX9_note 14 = .ok (.bipush 21, 2) := by decide +kernel
theorem dX9_note_16 : decode cX9_note 16 = .ok (.if_icmp .ge 25, 3) := by decide +kernel
theorem dX9_note_19 : decode cX9_note 19 = .ok (.aload_n 0, 1) := by decide +kernel
theorem dX9_note_20 : decode cX9_note 20 = .ok (.getfield 55, 3) := by decide +kernel
theorem dX9_note_23 : decode cX9_note 23 = .ok (.iload 4, 2) := by decide +kernel
theorem dX9_note_25 : decode cX9_note 25 = .ok (.aload_n 0, 1) := by decide +kernel
theorem dX9_note_26 : decode cX9_note 26 = .ok (.getfield 55, 3) := by decide +kernel
theorem dX9_note_29 : decode cX9_note 29 = .ok (.iload 4, 2) := by decide +kernel
theorem dX9_note_31 : decode cX9_note 31 = .ok (.iconst 3, 1) := by decide +kernel
theorem dX9_note_32 : decode cX9_note 32 = .ok (.iadd, 1) := by decide +kernel
theorem dX9_note_33 : decode cX9_note 33 = .ok (.iaload, 1) := by decide +kernel
theorem dX9_note_34 : decode cX9_note 34 = .ok (.iastore, 1) := by decide +kernel
theorem dX9_note_35 : decode cX9_note 35 = .ok (.iinc 4 1, 3) := by decide +kernel
theorem dX9_note_38 : decode cX9_note 38 = .ok (.goto (-26), 3) := by decide +kernel
theorem dX9_note_41 : decode cX9_note 41 = .ok (.aload_n 0, 1) := by decide +kernel
theorem dX9_note_42 : decode cX9_note 42 = .ok (.dup, 1) := by decide +kernel
theorem dX9_note_43 : decode cX9_note 43 = .ok (.getfield 138, 3) := by decide +kernel
theorem dX9_note_46 : decode cX9_note 46 = .ok (.iconst 1, 1) := by decide +kernel
theorem dX9_note_47 : decode cX9_note 47 = .ok (.isub, 1) := by decide +kernel
theorem dX9_note_48 : decode cX9_note 48 = .ok (.putfield 138, 3) := by decide +kernel
theorem dX9_note_51 : decode cX9_note 51 = .ok (.aload_n 0, 1) := by decide +kernel
theorem dX9_note_52 : decode cX9_note 52 = .ok (.getfield 55, 3) := by decide +kernel
theorem dX9_note_55 : decode cX9_note 55 = .ok (.iconst 3, 1) := by decide +kernel
theorem dX9_note_56 : decode cX9_note 56 = .ok (.aload_n 0, 1) := by decide +kernel
theorem dX9_note_57 : decode cX9_note 57 = .ok (.getfield 138, 3) := by decide +kernel
theorem dX9_note_60 : decode cX9_note 60 = .ok (.imul, 1) := by decide +kernel
theorem dX9_note_61 : decode cX9_note 61 = .ok (.iload_n 1, 1) := by decide +kernel
theorem dX9_note_62 : decode cX9_note 62 = .ok (.iastore, 1) := by decide +kernel
theorem dX9_note_63 : decode cX9_note 63 = .ok (.aload_n 0, 1) := by decide +kernel
theorem dX9_note_64 : decode cX9_note 64 = .ok (.getfield 55, 3) := by decide +kernel
theorem dX9_note_67 : decode cX9_note 67 = .ok (.iconst 3, 1) := by decide +kernel
theorem dX9_note_68 : decode cX9_note 68 = .ok (.aload_n 0, 1) := by decide +kernel
theorem dX9_note_69 : decode cX9_note 69 = .ok (.getfield 138, 3) := by decide +kernel
theorem dX9_note_72 : decode cX9_note 72 = .ok (.imul, 1) := by decide +kernel
theorem dX9_note_73 : decode cX9_note 73 = .ok (.iconst 1, 1) := by decide +kernel
theorem dX9_note_74 : decode cX9_note 74 = .ok (.iadd, 1) := by decide +kernel
theorem dX9_note_75 : decode cX9_note 75 = .ok (.iload_n 2, 1) := by decide +kernel
theorem dX9_note_76 : decode cX9_note 76 = .ok (.iastore, 1) := by decide +kernel
theorem dX9_note_77 : decode cX9_note 77 = .ok (.aload_n 0, 1) := by decide +kernel
theorem dX9_note_78 : decode cX9_note 78 = .ok (.getfield 55, 3) := by decide +kernel
theorem dX9_note_81 : decode cX9_note 81 = .ok (.iconst 3, 1) := by decide +kernel
theorem dX9_note_82 : decode cX9_note 82 = .ok (.aload_n 0, 1) := by decide +kernel
theorem dX9_note_83 : decode cX9_note 83 = .ok (.getfield 138, 3) := by decide +kernel
theorem dX9_note_86 : decode cX9_note 86 = .ok (.imul, 1) := by decide +kernel
theorem dX9_note_87 : decode cX9_note 87 = .ok (.iconst 2, 1) := by decide +kernel
theorem dX9_note_88 : decode cX9_note 88 = .ok (.iadd, 1) := by decide +kernel
theorem dX9_note_89 : decode cX9_note 89 = .ok (.iload_n 3, 1) := by decide +kernel
theorem dX9_note_90 : decode cX9_note 90 = .ok (.iastore, 1) := by decide +kernel
theorem dX9_note_91 : decode cX9_note 91 = .ok (.aload_n 0, 1) := by decide +kernel
theorem dX9_note_92 : decode cX9_note 92 = .ok (.dup, 1) := by decide +kernel
theorem dX9_note_93 : decode cX9_note 93 = .ok (.getfield 138, 3) := by decide +kernel
theorem dX9_note_96 : decode cX9_note 96 = .ok (.iconst 1, 1) := by decide +kernel
theorem dX9_note_97 : decode cX9_note 97 = .ok (.iadd, 1) := by decide +kernel
theorem dX9_note_98 : decode cX9_note 98 = .ok (.putfield 138, 3) := by decide +kernel
theorem dX9_note_101 : decode cX9_note 101 = .ok (.iload_n 3, 1) := by decide +kernel
theorem dX9_note_102 : decode cX9_note 102 = .ok (.ireturn, 1) := by decide +kernel
theorem dX9_aim_0 : decode cX9_aim 0 = .ok (.aload_n 0, 1) := by decide +kernel
theorem dX9_aim_1 : decode cX9_aim 1 = .ok (.iload_n 1, 1) := by decide +kernel
theorem dX9_aim_2 : decode cX9_aim 2 = .ok (.invokevirtual 182, 3) := by decide +kernel
theorem dX9_aim_5 : decode cX9_aim 5 = .ok (.ifCond .eq 15, 3) := by decide +kernel
theorem dX9_aim_8 : decode cX9_aim 8 = .ok (.iload_n 2, 1) := by decide +kernel
theorem dX9_aim_9 : decode cX9_aim 9 = .ok (.i2l, 1) := by decide +kernel
theorem dX9_aim_10 : decode cX9_aim 10 = .ok (.lconst 0, 1) := by decide +kernel
theorem dX9_aim_11 : decode cX9_aim 11 = .ok (.ldc2_w 204, 3) := by decide +kernel
theorem dX9_aim_14 : decode cX9_aim 14 = .ok (.invokestatic 92, 3) := by decide +kernel
theorem dX9_aim_17 : decode cX9_aim 17 = .ok (.ifCond .ne 5, 3) := by decide +kernel
theorem dX9_aim_20 : decode cX9_aim 20 = .ok (.iconst (-1), 1) := by decide +kernel
theorem dX9_aim_21 : decode cX9_aim 21 = .ok (.ireturn, 1) := by decide +kernel
theorem dX9_aim_22 : decode cX9_aim 22 = .ok (.aload_n 0, 1) := by decide +kernel
theorem dX9_aim_23 : decode cX9_aim 23 = .ok (.iconst 0, 1) := by decide +kernel
theorem dX9_aim_24 : decode cX9_aim 24 = .ok (.iload_n 1, 1) := by decide +kernel
theorem dX9_aim_25 : decode cX9_aim 25 = .ok (.aload_n 0, 1) := by decide +kernel
theorem dX9_aim_26 : decode cX9_aim 26 = .ok (.getfield 46, 3) := by decide +kernel
theorem dX9_aim_29 : decode cX9_aim 29 = .ok (.iload_n 1, 1) := by decide +kernel
theorem dX9_aim_30 : decode cX9_aim 30 = .ok (.iaload, 1) := by decide +kernel
theorem dX9_aim_31 : decode cX9_aim 31 = .ok (.invokevirtual 206, 3) := by decide +kernel
theorem dX9_aim_34 : decode cX9_aim 34 = .ok (.istore_n 3, 1) := by decide +kernel
theorem dX9_aim_35 : decode cX9_aim 35 = .ok (.aload_n 0, 1) := by decide +kernel
theorem dX9_aim_36 : decode cX9_aim 36 = .ok (.getfield 46, 3) := by decide +kernel
theorem dX9_aim_39 : decode cX9_aim 39 = .ok (.iload_n 1, 1) := by decide +kernel
theorem dX9_aim_40 : decode cX9_aim 40 = .ok (.iload_n 2, 1) := by decide +kernel
theorem dX9_aim_41 : decode cX9_aim 41 = .ok (.iastore, 1) := by decide +kernel
theorem dX9_aim_42 : decode cX9_aim 42 = .ok (.iload_n 3, 1) := by decide +kernel
theorem dX9_aim_43 : decode cX9_aim 43 = .ok (.ireturn, 1) := by decide +kernel
theorem dX9_move_0 : decode cX9_move 0 = .ok (.aload_n 0, 1) := by decide +kernel
theorem dX9_move_1 : decode cX9_move 1 = .ok (.iload_n 1, 1) := by decide +kernel
theorem dX9_move_2 : decode cX9_move 2 = .ok (.invokevirtual 182, 3) := by decide +kernel
theorem dX9_move_5 : decode cX9_move 5 = .ok (.ifCond .eq 15, 3) := by decide +kernel
theorem dX9_move_8 : decode cX9_move 8 = .ok (.iload_n 2, 1) := by decide +kernel
theorem dX9_move_9 : decode cX9_move 9 = .ok (.i2l, 1) := by decide +kernel
theorem dX9_move_10 : decode cX9_move 10 = .ok (.lconst 0, 1) := by decide +kernel
theorem dX9_move_11 : decode cX9_move 11 = .ok (.ldc2_w 210, 3) := by decide +kernel
theorem dX9_move_14 : decode cX9_move 14 = .ok (.invokestatic 92, 3) := by decide +kernel
theorem dX9_move_17 : decode cX9_move 17 = .ok (.ifCond .ne 5, 3) := by decide +kernel
theorem dX9_move_20 : decode cX9_move 20 = .ok (.iconst (-1), 1) := by decide +kernel
theorem dX9_move_21 : decode cX9_move 21 = .ok (.ireturn, 1) := by decide +kernel
theorem dX9_move_22 : decode cX9_move 22 = .ok (.aload_n 0, 1) := by decide +kernel
theorem dX9_move_23 : decode cX9_move 23 = .ok (.iconst 1, 1) := by decide +kernel
theorem dX9_move_24 : decode cX9_move 24 = .ok (.iload_n 1, 1) := by decide +kernel
theorem dX9_move_25 : decode cX9_move 25 = .ok (.aload_n 0, 1) := by decide +kernel
theorem dX9_move_26 : decode cX9_move 26 = .ok (.getfield 43, 3) := by decide +kernel
theorem dX9_move_29 : decode cX9_move 29 = .ok (.iload_n 1, 1) := by decide +kernel
theorem dX9_move_30 : decode cX9_move 30 = .ok (.iaload, 1) := by decide +kernel
theorem dX9_move_31 : decode cX9_move 31 = .ok (.invokevirtual 206, 3) := by decide +kernel
theorem dX9_move_34 : decode cX9_move 34 = .ok (.istore_n 3, 1) := by decide +kernel
theorem dX9_move_35 : decode cX9_move 35 = .ok (.aload_n 0, 1) := by decide +kernel
theorem dX9_move_36 : decode cX9_move 36 = .ok (.getfield 43, 3) := by decide +kernel
theorem dX9_move_39 : decode cX9_move 39 = .ok (.iload_n 1, 1) := by decide +kernel
theorem dX9_move_40 : decode cX9_move 40 = .ok (.iload_n 2, 1) := by decide +kernel
theorem dX9_move_41 : decode cX9_move 41 = .ok (.iastore, 1) := by decide +kernel
theorem dX9_move_42 : decode cX9_move 42 = .ok (.iload_n 3, 1) := by decide +kernel
theorem dX9_move_43 : decode cX9_move 43 = .ok (.ireturn, 1) := by decide +kernel
theorem dX9_speed_0 : decode cX9_speed 0 = .ok (.aload_n 0, 1) := by decide +kernel
theorem dX9_speed_1 : decode cX9_speed 1 = .ok (.iload_n 1, 1) := by decide +kernel
theorem dX9_speed_2 : decode cX9_speed 2 = .ok (.invokevirtual 182, 3) := by decide +kernel
theorem dX9_speed_5 : decode cX9_speed 5 = .ok (.ifCond .eq 15, 3) := by decide +kernel
theorem dX9_speed_8 : decode cX9_speed 8 = .ok (.iload_n 2, 1) := by decide +kernel
theorem dX9_speed_9 : decode cX9_speed 9 = .ok (.i2l, 1) := by decide +kernel
theorem dX9_speed_10 : decode cX9_speed 10 = .ok (.lconst 1, 1) := by decide +kernel
theorem dX9_speed_11 : decode cX9_speed 11 = .ok (.ldc2_w 121, 3) := by decide +kernel
theorem dX9_speed_14 : decode cX9_speed 14 = .ok (.invokestatic 92, 3) := by decide +kernel
theorem dX9_speed_17 : decode cX9_speed 17 = .ok (.ifCond .ne 5, 3) := by decide +kernel
theorem dX9_speed_20 : decode cX9_speed 20 = .ok (.iconst (-1), 1) := by decide +kernel
theorem dX9_speed_21 : decode cX9_speed 21 = .ok (.ireturn, 1) := by decide +kernel
theorem dX9_speed_22 : decode cX9_speed 22 = .ok (.aload_n 0, 1) := by decide +kernel
theorem dX9_speed_23 : decode cX9_speed 23 = .ok (.iconst 2, 1) := by decide +kernel
theorem dX9_speed_24 : decode cX9_speed 24 = .ok (.iload_n 1, 1) := by decide +kernel
theorem dX9_speed_25 : decode cX9_speed 25 = .ok (.aload_n 0, 1) := by decide +kernel
theorem dX9_speed_26 : decode cX9_speed 26 = .ok (.getfield 49, 3) := by decide +kernel
theorem dX9_speed_29 : decode cX9_speed 29 = .ok (.iload_n 1, 1) := by decide +kernel
theorem dX9_speed_30 : decode cX9_speed 30 = .ok (.iaload, 1) := by decide +kernel
theorem dX9_speed_31 : decode cX9_speed 31 = .ok (.invokevirtual 206, 3) := by decide +kernel
theorem dX9_speed_34 : decode cX9_speed 34 = .ok (.istore_n 3, 1) := by decide +kernel
theorem dX9_speed_35 : decode cX9_speed 35 = .ok (.aload_n 0, 1) := by decide +kernel
theorem dX9_speed_36 : decode cX9_speed 36 = .ok (.getfield 49, 3) := by decide +kernel
theorem dX9_speed_39 : decode cX9_speed 39 = .ok (.iload_n 1, 1) := by decide +kernel
theorem dX9_speed_40 : decode cX9_speed 40 = .ok (.iload_n 2, 1) := by decide +kernel
theorem dX9_speed_41 : decode cX9_speed 41 = .ok (.iastore, 1) := by decide +kernel
theorem dX9_speed_42 : decode cX9_speed 42 = .ok (.iload_n 3, 1) := by decide +kernel
theorem dX9_speed_43 : decode cX9_speed 43 = .ok (.ireturn, 1) := by decide +kernel
theorem dX9_undo_0 : decode cX9_undo 0 = .ok (.aload_n 0, 1) := by decide +kernel
theorem dX9_undo_1 : decode cX9_undo 1 = .ok (.getfield 138, 3) := by decide +kernel
theorem dX9_undo_4 : decode cX9_undo 4 = .ok (.ifCond .ne 6, 3) := by decide +kernel
theorem dX9_undo_7 : decode cX9_undo 7 = .ok (.bipush (-2), 2) := by decide +kernel
theorem dX9_undo_9 : decode cX9_undo 9 = .ok (.ireturn, 1) := by decide +kernel
theorem dX9_undo_10 : decode cX9_undo 10 = .ok (.aload_n 0, 1) := by decide +kernel
theorem dX9_undo_11 : decode cX9_undo 11 = .ok (.dup, 1) := by decide +kernel
theorem dX9_undo_12 : decode cX9_undo 12 = .ok (.getfield 138, 3) := by decide +kernel
theorem dX9_undo_15 : decode cX9_undo 15 = .ok (.iconst 1, 1) := by decide +kernel
theorem dX9_undo_16 : decode cX9_undo 16 = .ok (.isub, 1) := by decide +kernel
theorem dX9_undo_17 : decode cX9_undo 17 = .ok (.putfield 138, 3) := by decide +kernel
theorem dX9_undo_20 : decode cX9_undo 20 = .ok (.aload_n 0, 1) := by decide +kernel
theorem dX9_undo_21 : decode cX9_undo 21 = .ok (.getfield 55, 3) := by decide +kernel
theorem dX9_undo_24 : decode cX9_undo 24 = .ok (.iconst 3, 1) := by decide +kernel
theorem dX9_undo_25 : decode cX9_undo 25 = .ok (.aload_n 0, 1) := by decide +kernel
theorem dX9_undo_26 : decode cX9_undo 26 = .ok (.getfield 138, 3) := by decide +kernel
theorem dX9_undo_29 : decode cX9_undo 29 = .ok (.imul, 1) := by decide +kernel
theorem dX9_undo_30 : decode cX9_undo 30 = .ok (.iaload, 1) := by decide +kernel
theorem dX9_undo_31 : decode cX9_undo 31 = .ok (.istore_n 1, 1) := by decide +kernel
theorem dX9_undo_32 : decode cX9_undo 32 = .ok (.aload_n 0, 1) := by decide +kernel
theorem dX9_undo_33 : decode cX9_undo 33 = .ok (.getfield 55, 3) := by decide +kernel
theorem dX9_undo_36 : decode cX9_undo 36 = .ok (.iconst 3, 1) := by decide +kernel
theorem dX9_undo_37 : decode cX9_undo 37 = .ok (.aload_n 0, 1) := by decide +kernel
theorem dX9_undo_38 : decode cX9_undo 38 = .ok (.getfield 138, 3) := by decide +kernel
theorem dX9_undo_41 : decode cX9_undo 41 = .ok (.imul, 1) := by decide +kernel
theorem dX9_undo_42 : decode cX9_undo 42 = .ok (.iconst 1, 1) := by decide +kernel
theorem dX9_undo_43 : decode cX9_undo 43 = .ok (.iadd, 1) := by decide +kernel
theorem dX9_undo_44 : decode cX9_undo 44 = .ok (.iaload, 1) := by decide +kernel
theorem dX9_undo_45 : decode cX9_undo 45 = .ok (.istore_n 2, 1) := by decide +kernel
theorem dX9_undo_46 : decode cX9_undo 46 = .ok (.aload_n 0, 1) := by decide +kernel
theorem dX9_undo_47 : decode cX9_undo 47 = .ok (.getfield 55, 3) := by decide +kernel
theorem dX9_undo_50 : decode cX9_undo 50 = .ok (.iconst 3, 1) := by decide +kernel
theorem dX9_undo_51 : decode cX9_undo 51 = .ok (.aload_n 0, 1) := by decide +kernel
theorem dX9_undo_52 : decode cX9_undo 52 = .ok (.getfield 138, 3) := by decide +kernel
theorem dX9_undo_55 : decode cX9_undo 55 = .ok (.imul, 1) := by decide +kernel
theorem dX9_undo_56 : decode cX9_undo 56 = .ok (.iconst 2, 1) := by decide +kernel
theorem dX9_undo_57 : decode cX9_undo 57 = .ok (.iadd, 1) := by decide +kernel
theorem dX9_undo_58 : decode cX9_undo 58 = .ok (.iaload, 1) := by decide +kernel
theorem dX9_undo_59 : decode cX9_undo 59 = .ok (.istore_n 3, 1) := by decide +kernel
theorem dX9_undo_60 : decode cX9_undo 60 = .ok (.iload_n 1, 1) := by decide +kernel
theorem dX9_undo_61 : decode cX9_undo 61 = .ok (.ifCond .ne 13, 3) := by decide +kernel
theorem dX9_undo_64 : decode cX9_undo 64 = .ok (.aload_n 0, 1) := by decide +kernel
theorem dX9_undo_65 : decode cX9_undo 65 = .ok (.getfield 46, 3) := by decide +kernel
theorem dX9_undo_68 : decode cX9_undo 68 = .ok (.iload_n 2, 1) := by decide +kernel
theorem dX9_undo_69 : decode cX9_undo 69 = .ok (.iload_n 3, 1) := by decide +kernel
theorem dX9_undo_70 : decode cX9_undo 70 = .ok (.iastore, 1) := by decide +kernel
theorem dX9_undo_71 : decode cX9_undo 71 = .ok (.goto 25, 3) := by decide +kernel
theorem dX9_undo_74 : decode cX9_undo 74 = .ok (.iload_n 1, 1) := by decide +kernel
theorem dX9_undo_75 : decode cX9_undo 75 = .ok (.iconst 1, 1) := by decide +kernel
theorem dX9_undo_76 : decode cX9_undo 76 = .ok (.if_icmp .ne 13, 3) := by decide +kernel
theorem dX9_undo_79 : decode cX9_undo 79 = .ok (.aload_n 0, 1) := by decide +kernel
theorem dX9_undo_80 : decode cX9_undo 80 = .ok (.getfield 43, 3) := by decide +kernel
theorem dX9_undo_83 : decode cX9_undo 83 = .ok (.iload_n 2, 1) := by decide +kernel
theorem dX9_undo_84 : decode cX9_undo 84 = .ok (.iload_n 3, 1) := by decide +kernel
theorem dX9_undo_85 : decode cX9_undo 85 = .ok (.iastore, 1) := by decide +kernel
theorem dX9_undo_86 : decode cX9_undo 86 = .ok (.goto 10, 3) := by decide +kernel
theorem dX9_undo_89 : decode cX9_undo 89 = .ok (.aload_n 0, 1) := by decide +kernel
theorem dX9_undo_90 : decode cX9_undo 90 = .ok (.getfield 49, 3) := by decide +kernel
theorem dX9_undo_93 : decode cX9_undo 93 = .ok (.iload_n 2, 1) := by decide +kernel
theorem dX9_undo_94 : decode cX9_undo 94 = .ok (.iload_n 3, 1) := by decide +kernel
theorem dX9_undo_95 : decode cX9_undo 95 = .ok (.iastore, 1) := by decide +kernel
theorem dX9_undo_96 : decode cX9_undo 96 = .ok (.aload_n 0, 1) := by decide +kernel
theorem dX9_undo_97 : decode cX9_undo 97 = .ok (.getfield 138, 3) := by decide +kernel
theorem dX9_undo_100 : decode cX9_undo 100 = .ok (.ireturn, 1) := by decide +kernel
theorem dX9_bestAim_0 : decode cX9_bestAim 0 = .ok (.aload_n 0, 1) := by decide +kernel
theorem dX9_bestAim_1 : decode cX9_bestAim 1 = .ok (.iload_n 1, 1) := by decide +kernel
theorem dX9_bestAim_2 : decode cX9_bestAim 2 = .ok (.invokevirtual 182, 3) := by decide +kernel
theorem dX9_bestAim_5 : decode cX9_bestAim 5 = .ok (.ifCond .eq 13, 3) := by decide +kernel
theorem dX9_bestAim_8 : decode cX9_bestAim 8 = .ok (.iload_n 2, 1) := by decide +kernel
theorem dX9_bestAim_9 : decode cX9_bestAim 9 = .ok (.i2l, 1) := by decide +kernel
theorem dX9_bestAim_10 : decode cX9_bestAim 10 = .ok (.lconst 0, 1) := by decide +kernel
theorem dX9_bestAim_11 : decode cX9_bestAim 11 = .ok (.lconst 1, 1) := by decide +kernel
theorem dX9_bestAim_12 : decode cX9_bestAim 12 = .ok (.invokestatic 92, 3) := by decide +kernel
theorem dX9_bestAim_15 : decode cX9_bestAim 15 = .ok (.ifCond .ne 5, 3) := by decide +kernel
theorem dX9_bestAim_18 : decode cX9_bestAim 18 = .ok (.iconst (-1), 1) := by decide +kernel
theorem dX9_bestAim_19 : decode cX9_bestAim 19 = .ok (.ireturn, 1) := by decide +kernel
theorem dX9_bestAim_20 : decode cX9_bestAim 20 = .ok (.aload_n 0, 1) := by decide +kernel
theorem dX9_bestAim_21 : decode cX9_bestAim 21 = .ok (.getfield 46, 3) := by decide +kernel
theorem dX9_bestAim_24 : decode cX9_bestAim 24 = .ok (.iload_n 1, 1) := by decide +kernel
theorem dX9_bestAim_25 : decode cX9_bestAim 25 = .ok (.iaload, 1) := by decide +kernel
theorem dX9_bestAim_26 : decode cX9_bestAim 26 = .ok (.istore_n 3, 1) := by decide +kernel
theorem dX9_bestAim_27 : decode cX9_bestAim 27 = .ok (.iconst 0, 1) := by decide +kernel
theorem dX9_bestAim_28 : decode cX9_bestAim 28 = .ok (.istore 4, 2) := by decide +kernel
theorem dX9_bestAim_30 : decode cX9_bestAim 30 = .ok (.bipush (-4), 2) := by decide +kernel
theorem dX9_bestAim_32 : decode cX9_bestAim 32 = .ok (.istore 5, 2) := by decide +kernel
theorem dX9_bestAim_34 : decode cX9_bestAim 34 = .ok (.iconst 0, 1) := by decide +kernel
theorem dX9_bestAim_35 : decode cX9_bestAim 35 = .ok (.istore 6, 2) := by decide +kernel
theorem dX9_bestAim_37 : decode cX9_bestAim 37 = .ok (.iload 6, 2) := by decide +kernel
theorem dX9_bestAim_39 : decode cX9_bestAim 39 = .ok (.bipush 24, 2) := by decide +kernel
theorem dX9_bestAim_41 : decode cX9_bestAim 41 = .ok (.if_icmp .ge 61, 3) := by decide +kernel
theorem dX9_bestAim_44 : decode cX9_bestAim 44 = .ok (.aload_n 0, 1) := by decide +kernel
theorem dX9_bestAim_45 : decode cX9_bestAim 45 = .ok (.getfield 46, 3) := by decide +kernel
theorem dX9_bestAim_48 : decode cX9_bestAim 48 = .ok (.iload_n 1, 1) := by decide +kernel
theorem dX9_bestAim_49 : decode cX9_bestAim 49 = .ok (.iload 6, 2) := by decide +kernel
theorem dX9_bestAim_51 : decode cX9_bestAim 51 = .ok (.iastore, 1) := by decide +kernel
theorem dX9_bestAim_52 : decode cX9_bestAim 52 = .ok (.aload_n 0, 1) := by decide +kernel
theorem dX9_bestAim_53 : decode cX9_bestAim 53 = .ok (.iconst 0, 1) := by decide +kernel
theorem dX9_bestAim_54 : decode cX9_bestAim 54 = .ok (.invokevirtual 185, 3) := by decide +kernel
theorem dX9_bestAim_57 : decode cX9_bestAim 57 = .ok (.aload_n 0, 1) := by decide +kernel
theorem dX9_bestAim_58 : decode cX9_bestAim 58 = .ok (.iconst 0, 1) := by decide +kernel
theorem dX9_bestAim_59 : decode cX9_bestAim 59 = .ok (.invokevirtual 198, 3) := by decide +kernel
theorem dX9_bestAim_62 : decode cX9_bestAim 62 = .ok (.istore 7, 2) := by decide +kernel
theorem dX9_bestAim_64 : decode cX9_bestAim 64 = .ok (.iload 7, 2) := by decide +kernel
theorem dX9_bestAim_66 : decode cX9_bestAim 66 = .ok (.iload 5, 2) := by decide +kernel
theorem dX9_bestAim_68 : decode cX9_bestAim 68 = .ok (.if_icmp .le 8, 3) := by decide +kernel
theorem dX9_bestAim_71 : decode cX9_bestAim 71 = .ok (.iload 6, 2) := by decide +kernel
theorem dX9_bestAim_73 : decode cX9_bestAim 73 = .ok (.goto 5, 3) := by decide +kernel
theorem dX9_bestAim_76 : decode cX9_bestAim 76 = .ok (.iload 4, 2) := by decide +kernel
theorem dX9_bestAim_78 : decode cX9_bestAim 78 = .ok (.istore 4, 2) := by decide +kernel
theorem dX9_bestAim_80 : decode cX9_bestAim 80 = .ok (.iload 7, 2) := by decide +kernel
theorem dX9_bestAim_82 : decode cX9_bestAim 82 = .ok (.iload 5, 2) := by decide +kernel
theorem dX9_bestAim_84 : decode cX9_bestAim 84 = .ok (.if_icmp .le 8, 3) := by decide +kernel
theorem dX9_bestAim_87 : decode cX9_bestAim 87 = .ok (.iload 7, 2) := by decide +kernel
theorem dX9_bestAim_89 : decode cX9_bestAim 89 = .ok (.goto 5, 3) := by decide +kernel
theorem dX9_bestAim_92 : decode cX9_bestAim 92 = .ok (.iload 5, 2) := by decide +kernel
theorem dX9_bestAim_94 : decode cX9_bestAim 94 = .ok (.istore 5, 2) := by decide +kernel
theorem dX9_bestAim_96 : decode cX9_bestAim 96 = .ok (.iinc 6 1, 3) := by decide +kernel
theorem dX9_bestAim_99 : decode cX9_bestAim 99 = .ok (.goto (-62), 3) := by decide +kernel
theorem dX9_bestAim_102 : decode cX9_bestAim 102 = .ok (.aload_n 0, 1) := by decide +kernel
theorem dX9_bestAim_103 : decode cX9_bestAim 103 = .ok (.getfield 46, 3) := by decide +kernel
theorem dX9_bestAim_106 : decode cX9_bestAim 106 = .ok (.iload_n 1, 1) := by decide +kernel
theorem dX9_bestAim_107 : decode cX9_bestAim 107 = .ok (.iload_n 3, 1) := by decide +kernel
theorem dX9_bestAim_108 : decode cX9_bestAim 108 = .ok (.iastore, 1) := by decide +kernel
theorem dX9_bestAim_109 : decode cX9_bestAim 109 = .ok (.iload_n 2, 1) := by decide +kernel
theorem dX9_bestAim_110 : decode cX9_bestAim 110 = .ok (.ifCond .ne 8, 3) := by decide +kernel
theorem dX9_bestAim_113 : decode cX9_bestAim 113 = .ok (.iload 4, 2) := by decide +kernel
theorem dX9_bestAim_115 : decode cX9_bestAim 115 = .ok (.goto 5, 3) := by decide +kernel
theorem dX9_bestAim_118 : decode cX9_bestAim 118 = .ok (.iload 5, 2) := by decide +kernel
theorem dX9_bestAim_120 : decode cX9_bestAim 120 = .ok (.ireturn, 1) := by decide +kernel
theorem dX9_bestDay_0 : decode cX9_bestDay 0 = .ok (.aload_n 0, 1) := by decide +kernel
theorem dX9_bestDay_1 : decode cX9_bestDay 1 = .ok (.iload_n 1, 1) := by decide +kernel
theorem dX9_bestDay_2 : decode cX9_bestDay 2 = .ok (.invokevirtual 182, 3) := by decide +kernel
theorem dX9_bestDay_5 : decode cX9_bestDay 5 = .ok (.ifCond .eq 13, 3) := by decide +kernel
theorem dX9_bestDay_8 : decode cX9_bestDay 8 = .ok (.iload_n 2, 1) := by decide +kernel
theorem dX9_bestDay_9 : decode cX9_bestDay 9 = .ok (.i2l, 1) := by decide +kernel
theorem dX9_bestDay_10 : decode cX9_bestDay 10 = .ok (.lconst 0, 1) := by decide +kernel
theorem dX9_bestDay_11 : decode cX9_bestDay 11 = .ok (.lconst 1, 1) := by decide +kernel
theorem dX9_bestDay_12 : decode cX9_bestDay 12 = .ok (.invokestatic 92, 3) := by decide +kernel
theorem dX9_bestDay_15 : decode cX9_bestDay 15 = .ok (.ifCond .ne 5, 3) := by decide +kernel
theorem dX9_bestDay_18 : decode cX9_bestDay 18 = .ok (.iconst (-1), 1) := by decide +kernel
theorem dX9_bestDay_19 : decode cX9_bestDay 19 = .ok (.ireturn, 1) := by decide +kernel
theorem dX9_bestDay_20 : decode cX9_bestDay 20 = .ok (.aload_n 0, 1) := by decide +kernel
theorem dX9_bestDay_21 : decode cX9_bestDay 21 = .ok (.getfield 43, 3) := by decide +kernel
theorem dX9_bestDay_24 : decode cX9_bestDay 24 = .ok (.iload_n 1, 1) := by decide +kernel
theorem dX9_bestDay_25 : decode cX9_bestDay 25 = .ok (.iaload, 1) := by decide +kernel
theorem dX9_bestDay_26 : decode cX9_bestDay 26 = .ok (.istore_n 3, 1) := by decide +kernel
theorem dX9_bestDay_27 : decode cX9_bestDay 27 = .ok (.bipush (-4), 2) := by decide +kernel
theorem dX9_bestDay_29 : decode cX9_bestDay 29 = .ok (.istore 4, 2) := by decide +kernel
theorem dX9_bestDay_31 : decode cX9_bestDay 31 = .ok (.iconst 0, 1) := by decide +kernel
theorem dX9_bestDay_32 : decode cX9_bestDay 32 = .ok (.istore 5, 2) := by decide +kernel
theorem dX9_bestDay_34 : decode cX9_bestDay 34 = .ok (.iconst 0, 1) := by decide +kernel
theorem dX9_bestDay_35 : decode cX9_bestDay 35 = .ok (.istore 6, 2) := by decide +kernel
theorem dX9_bestDay_37 : decode cX9_bestDay 37 = .ok (.iload 6, 2) := by decide +kernel
theorem dX9_bestDay_39 : decode cX9_bestDay 39 = .ok (.bipush 40, 2) := by decide +kernel
theorem dX9_bestDay_41 : decode cX9_bestDay 41 = .ok (.if_icmp .gt 61, 3) := by decide +kernel
theorem dX9_bestDay_44 : decode cX9_bestDay 44 = .ok (.aload_n 0, 1) := by decide +kernel
theorem dX9_bestDay_45 : decode cX9_bestDay 45 = .ok (.getfield 43, 3) := by decide +kernel
theorem dX9_bestDay_48 : decode cX9_bestDay 48 = .ok (.iload_n 1, 1) := by decide +kernel
theorem dX9_bestDay_49 : decode cX9_bestDay 49 = .ok (.iload 6, 2) := by decide +kernel
theorem dX9_bestDay_51 : decode cX9_bestDay 51 = .ok (.iastore, 1) := by decide +kernel
theorem dX9_bestDay_52 : decode cX9_bestDay 52 = .ok (.aload_n 0, 1) := by decide +kernel
theorem dX9_bestDay_53 : decode cX9_bestDay 53 = .ok (.iconst 0, 1) := by decide +kernel
theorem dX9_bestDay_54 : decode cX9_bestDay 54 = .ok (.invokevirtual 185, 3) := by decide +kernel
theorem dX9_bestDay_57 : decode cX9_bestDay 57 = .ok (.aload_n 0, 1) := by decide +kernel
theorem dX9_bestDay_58 : decode cX9_bestDay 58 = .ok (.iload_n 1, 1) := by decide +kernel
theorem dX9_bestDay_59 : decode cX9_bestDay 59 = .ok (.invokevirtual 188, 3) := by decide +kernel
theorem dX9_bestDay_62 : decode cX9_bestDay 62 = .ok (.istore 7, 2) := by decide +kernel
theorem dX9_bestDay_64 : decode cX9_bestDay 64 = .ok (.iload 7, 2) := by decide +kernel
theorem dX9_bestDay_66 : decode cX9_bestDay 66 = .ok (.iload 5, 2) := by decide +kernel
theorem dX9_bestDay_68 : decode cX9_bestDay 68 = .ok (.if_icmp .le 8, 3) := by decide +kernel
theorem dX9_bestDay_71 : decode cX9_bestDay 71 = .ok (.iload 6, 2) := by decide +kernel
theorem dX9_bestDay_73 : decode cX9_bestDay 73 = .ok (.goto 5, 3) := by decide +kernel
theorem dX9_bestDay_76 : decode cX9_bestDay 76 = .ok (.iload 4, 2) := by decide +kernel
theorem dX9_bestDay_78 : decode cX9_bestDay 78 = .ok (.istore 4, 2) := by decide +kernel
theorem dX9_bestDay_80 : decode cX9_bestDay 80 = .ok (.iload 7, 2) := by decide +kernel
theorem dX9_bestDay_82 : decode cX9_bestDay 82 = .ok (.iload 5, 2) := by decide +kernel
theorem dX9_bestDay_84 : decode cX9_bestDay 84 = .ok (.if_icmp .le 8, 3) := by decide +kernel
theorem dX9_bestDay_87 : decode cX9_bestDay 87 = .ok (.iload 7, 2) := by decide +kernel
theorem dX9_bestDay_89 : decode cX9_bestDay 89 = .ok (.goto 5, 3) := by decide +kernel
theorem dX9_bestDay_92 : decode cX9_bestDay 92 = .ok (.iload 5, 2) := by decide +kernel
theorem dX9_bestDay_94 : decode cX9_bestDay 94 = .ok (.istore 5, 2) := by decide +kernel
theorem dX9_bestDay_96 : decode cX9_bestDay 96 = .ok (.iinc 6 1, 3) := by decide +kernel
theorem dX9_bestDay_99 : decode cX9_bestDay 99 = .ok (.goto (-62), 3) := by decide +kernel
theorem dX9_bestDay_102 : decode cX9_bestDay 102 = .ok (.aload_n 0, 1) := by decide +kernel
theorem dX9_bestDay_103 : decode cX9_bestDay 103 = .ok (.getfield 43, 3) := by decide +kernel
theorem dX9_bestDay_106 : decode cX9_bestDay 106 = .ok (.iload_n 1, 1) := by decide +kernel
theorem dX9_bestDay_107 : decode cX9_bestDay 107 = .ok (.iload_n 3, 1) := by decide +kernel
theorem dX9_bestDay_108 : decode cX9_bestDay 108 = .ok (.iastore, 1) := by decide +kernel
theorem dX9_bestDay_109 : decode cX9_bestDay 109 = .ok (.iload 4, 2) := by decide +kernel
theorem dX9_bestDay_111 : decode cX9_bestDay 111 = .ok (.ifCond .ge 8, 3) := by decide +kernel
theorem dX9_bestDay_114 : decode cX9_bestDay 114 = .ok (.bipush (-4), 2) := by decide +kernel
theorem dX9_bestDay_116 : decode cX9_bestDay 116 = .ok (.goto 14, 3) := by decide +kernel
theorem dX9_bestDay_119 : decode cX9_bestDay 119 = .ok (.iload_n 2, 1) := by decide +kernel
theorem dX9_bestDay_120 : decode cX9_bestDay 120 = .ok (.ifCond .ne 8, 3) := by decide +kernel
theorem dX9_bestDay_123 : decode cX9_bestDay 123 = .ok (.iload 4, 2) := by decide +kernel
theorem dX9_bestDay_125 : decode cX9_bestDay 125 = .ok (.goto 5, 3) := by decide +kernel
theorem dX9_bestDay_128 : decode cX9_bestDay 128 = .ok (.iload 5, 2) := by decide +kernel
theorem dX9_bestDay_130 : decode cX9_bestDay 130 = .ok (.ireturn, 1) := by decide +kernel
theorem dX9_net_0 : decode cX9_net 0 = .ok (.iload_n 1, 1) := by decide +kernel
theorem dX9_net_1 : decode cX9_net 1 = .ok (.i2l, 1) := by decide +kernel
theorem dX9_net_2 : decode cX9_net 2 = .ok (.lconst 0, 1) := by decide +kernel
theorem dX9_net_3 : decode cX9_net 3 = .ok (.ldc2_w 196, 3) := by decide +kernel
theorem dX9_net_6 : decode cX9_net 6 = .ok (.invokestatic 92, 3) := by decide +kernel
theorem dX9_net_9 : decode cX9_net 9 = .ok (.ifCond .eq 13, 3) := by decide +kernel
theorem dX9_net_12 : decode cX9_net 12 = .ok (.iload_n 2, 1) := by decide +kernel
theorem dX9_net_13 : decode cX9_net 13 = .ok (.i2l, 1) := by decide +kernel
theorem dX9_net_14 : decode cX9_net 14 = .ok (.lconst 0, 1) := by decide +kernel
theorem dX9_net_15 : decode cX9_net 15 = .ok (.lconst 1, 1) := by decide +kernel
theorem dX9_net_16 : decode cX9_net 16 = .ok (.invokestatic 92, 3) := by decide +kernel
theorem dX9_net_19 : decode cX9_net 19 = .ok (.ifCond .ne 5, 3) := by decide +kernel
theorem dX9_net_22 : decode cX9_net 22 = .ok (.iconst (-1), 1) := by decide +kernel
theorem dX9_net_23 : decode cX9_net 23 = .ok (.ireturn, 1) := by decide +kernel
theorem dX9_net_24 : decode cX9_net 24 = .ok (.aload_n 0, 1) := by decide +kernel
theorem dX9_net_25 : decode cX9_net 25 = .ok (.iconst 0, 1) := by decide +kernel
theorem dX9_net_26 : decode cX9_net 26 = .ok (.invokevirtual 185, 3) := by decide +kernel
theorem dX9_net_29 : decode cX9_net 29 = .ok (.aload_n 0, 1) := by decide +kernel
theorem dX9_net_30 : decode cX9_net 30 = .ok (.getfield 19, 3) := by decide +kernel
theorem dX9_net_33 : decode cX9_net 33 = .ok (.iconst 0, 1) := by decide +kernel
theorem dX9_net_34 : decode cX9_net 34 = .ok (.iaload, 1) := by decide +kernel
theorem dX9_net_35 : decode cX9_net 35 = .ok (.istore_n 3, 1) := by decide +kernel
theorem dX9_net_36 : decode cX9_net 36 = .ok (.aload_n 0, 1) := by decide +kernel
theorem dX9_net_37 : decode cX9_net 37 = .ok (.getfield 25, 3) := by decide +kernel
theorem dX9_net_40 : decode cX9_net 40 = .ok (.iload_n 3, 1) := by decide +kernel
theorem dX9_net_41 : decode cX9_net 41 = .ok (.iload_n 1, 1) := by decide +kernel
theorem dX9_net_42 : decode cX9_net 42 = .ok (.iastore, 1) := by decide +kernel
theorem dX9_net_43 : decode cX9_net 43 = .ok (.aload_n 0, 1) := by decide +kernel
theorem dX9_net_44 : decode cX9_net 44 = .ok (.getfield 28, 3) := by decide +kernel
theorem dX9_net_47 : decode cX9_net 47 = .ok (.iload_n 3, 1) := by decide +kernel
theorem dX9_net_48 : decode cX9_net 48 = .ok (.iconst 0, 1) := by decide +kernel
theorem dX9_net_49 : decode cX9_net 49 = .ok (.iastore, 1) := by decide +kernel
theorem dX9_net_50 : decode cX9_net 50 = .ok (.aload_n 0, 1) := by decide +kernel
theorem dX9_net_51 : decode cX9_net 51 = .ok (.getfield 31, 3) := by decide +kernel
theorem dX9_net_54 : decode cX9_net 54 = .ok (.iload_n 3, 1) := by decide +kernel
theorem dX9_net_55 : decode cX9_net 55 = .ok (.sipush 10000, 3) := by decide +kernel
theorem dX9_net_58 : decode cX9_net 58 = .ok (.iastore, 1) := by decide +kernel
theorem dX9_net_59 : decode cX9_net 59 = .ok (.aload_n 0, 1) := by decide +kernel
theorem dX9_net_60 : decode cX9_net 60 = .ok (.getfield 19, 3) := by decide +kernel
theorem dX9_net_63 : decode cX9_net 63 = .ok (.iconst 0, 1) := by decide +kernel
theorem dX9_net_64 : decode cX9_net 64 = .ok (.dup2, 1) := by decide +kernel
theorem dX9_net_65 : decode cX9_net 65 = .ok (.iaload, 1) := by decide +kernel
theorem dX9_net_66 : decode cX9_net 66 = .ok (.iconst 1, 1) := by decide +kernel
theorem dX9_net_67 : decode cX9_net 67 = .ok (.iadd, 1) := by decide +kernel
theorem dX9_net_68 : decode cX9_net 68 = .ok (.iastore, 1) := by decide +kernel
theorem dX9_net_69 : decode cX9_net 69 = .ok (.iconst 0, 1) := by decide +kernel
theorem dX9_net_70 : decode cX9_net 70 = .ok (.istore 4, 2) := by decide +kernel
theorem dX9_net_72 : decode cX9_net 72 = .ok (.bipush (-4), 2) := by decide +kernel
theorem dX9_net_74 : decode cX9_net 74 = .ok (.istore 5, 2) := by decide +kernel
theorem dX9_net_76 : decode cX9_net 76 = .ok (.iconst 0, 1) := by decide +kernel
theorem dX9_net_77 : decode cX9_net 77 = .ok (.istore 6, 2) := by decide +kernel
theorem dX9_net_79 : decode cX9_net 79 = .ok (.iload 6, 2) := by decide +kernel
theorem dX9_net_81 : decode cX9_net 81 = .ok (.bipush 24, 2) := by decide +kernel
theorem dX9_net_83 : decode cX9_net 83 = .ok (.if_icmp .ge 56, 3) := by decide +kernel
theorem dX9_net_86 : decode cX9_net 86 = .ok (.aload_n 0, 1) := by decide +kernel
theorem dX9_net_87 : decode cX9_net 87 = .ok (.getfield 22, 3) := by decide +kernel
theorem dX9_net_90 : decode cX9_net 90 = .ok (.iload_n 3, 1) := by decide +kernel
theorem dX9_net_91 : decode cX9_net 91 = .ok (.iload 6, 2) := by decide +kernel
theorem dX9_net_93 : decode cX9_net 93 = .ok (.iastore, 1) := by decide +kernel
theorem dX9_net_94 : decode cX9_net 94 = .ok (.aload_n 0, 1) := by decide +kernel
theorem dX9_net_95 : decode cX9_net 95 = .ok (.iconst 0, 1) := by decide +kernel
theorem dX9_net_96 : decode cX9_net 96 = .ok (.invokevirtual 198, 3) := by decide +kernel
theorem dX9_net_99 : decode cX9_net 99 = .ok (.istore 7, 2) := by decide +kernel
theorem dX9_net_101 : decode cX9_net 101 = .ok (.iload 7, 2) := by decide +kernel
theorem dX9_net_103 : decode cX9_net 103 = .ok (.iload 5, 2) := by decide +kernel
theorem dX9_net_105 : decode cX9_net 105 = .ok (.if_icmp .le 8, 3) := by decide +kernel
theorem dX9_net_108 : decode cX9_net 108 = .ok (.iload 6, 2) := by decide +kernel
theorem dX9_net_110 : decode cX9_net 110 = .ok (.goto 5, 3) := by decide +kernel
theorem dX9_net_113 : decode cX9_net 113 = .ok (.iload 4, 2) := by decide +kernel
theorem dX9_net_115 : decode cX9_net 115 = .ok (.istore 4, 2) := by decide +kernel
theorem dX9_net_117 : decode cX9_net 117 = .ok (.iload 7, 2) := by decide +kernel
theorem dX9_net_119 : decode cX9_net 119 = .ok (.iload 5, 2) := by decide +kernel
theorem dX9_net_121 : decode cX9_net 121 = .ok (.if_icmp .le 8, 3) := by decide +kernel
theorem dX9_net_124 : decode cX9_net 124 = .ok (.iload 7, 2) := by decide +kernel
theorem dX9_net_126 : decode cX9_net 126 = .ok (.goto 5, 3) := by decide +kernel
theorem dX9_net_129 : decode cX9_net 129 = .ok (.iload 5, 2) := by decide +kernel
theorem dX9_net_131 : decode cX9_net 131 = .ok (.istore 5, 2) := by decide +kernel
theorem dX9_net_133 : decode cX9_net 133 = .ok (.iinc 6 1, 3) := by decide +kernel
theorem dX9_net_136 : decode cX9_net 136 = .ok (.goto (-57), 3) := by decide +kernel
theorem dX9_net_139 : decode cX9_net 139 = .ok (.aload_n 0, 1) := by decide +kernel
theorem dX9_net_140 : decode cX9_net 140 = .ok (.getfield 19, 3) := by decide +kernel
theorem dX9_net_143 : decode cX9_net 143 = .ok (.iconst 0, 1) := by decide +kernel
theorem dX9_net_144 : decode cX9_net 144 = .ok (.dup2, 1) := by decide +kernel
theorem dX9_net_145 : decode cX9_net 145 = .ok (.iaload, 1) := by decide +kernel
theorem dX9_net_146 : decode cX9_net 146 = .ok (.iconst 1, 1) := by decide +kernel
theorem dX9_net_147 : decode cX9_net 147 = .ok (.isub, 1) := by decide +kernel
theorem dX9_net_148 : decode cX9_net 148 = .ok (.iastore, 1) := by decide +kernel
theorem dX9_net_149 : decode cX9_net 149 = .ok (.iload_n 2, 1) := by decide +kernel
theorem dX9_net_150 : decode cX9_net 150 = .ok (.ifCond .ne 8, 3) := by decide +kernel
theorem dX9_net_153 : decode cX9_net 153 = .ok (.iload 4, 2) := by decide +kernel
theorem dX9_net_155 : decode cX9_net 155 = .ok (.goto 5, 3) := by decide +kernel
theorem dX9_net_158 : decode cX9_net 158 = .ok (.iload 5, 2) := by decide +kernel
theorem dX9_net_160 : decode cX9_net 160 = .ok (.ireturn, 1) := by decide +kernel
theorem dX9_bits_0 : decode cX9_bits 0 = .ok (.iconst 0, 1) := by decide +kernel
theorem dX9_bits_1 : decode cX9_bits 1 = .ok (.istore_n 1, 1) := by decide +kernel
theorem dX9_bits_2 : decode cX9_bits 2 = .ok (.iload_n 0, 1) := by decide +kernel
theorem dX9_bits_3 : decode cX9_bits 3 = .ok (.istore_n 2, 1) := by decide +kernel
theorem dX9_bits_4 : decode cX9_bits 4 = .ok (.iload_n 2, 1) := by decide +kernel
theorem dX9_bits_5 : decode cX9_bits 5 = .ok (.ifCond .eq 15, 3) := by decide +kernel
theorem dX9_bits_8 : decode cX9_bits 8 = .ok (.iinc 1 1, 3) := by decide +kernel
theorem dX9_bits_11 : decode cX9_bits 11 = .ok (.iload_n 2, 1) := by decide +kernel
theorem dX9_bits_12 : decode cX9_bits 12 = .ok (.iload_n 2, 1) := by decide +kernel
theorem dX9_bits_13 : decode cX9_bits 13 = .ok (.iconst 1, 1) := by decide +kernel
theorem dX9_bits_14 : decode cX9_bits 14 = .ok (.isub, 1) := by decide +kernel
theorem dX9_bits_15 : decode cX9_bits 15 = .ok (.iand, 1) := by decide +kernel
theorem dX9_bits_16 : decode cX9_bits 16 = .ok (.istore_n 2, 1) := by decide +kernel
theorem dX9_bits_17 : decode cX9_bits 17 = .ok (.goto (-13), 3) := by decide +kernel
theorem dX9_bits_20 : decode cX9_bits 20 = .ok (.iload_n 1, 1) := by decide +kernel
theorem dX9_bits_21 : decode cX9_bits 21 = .ok (.ireturn, 1) := by decide +kernel
theorem dX9_clear_0 : decode cX9_clear 0 = .ok (.bipush (-4), 2) := by decide +kernel
theorem dX9_clear_2 : decode cX9_clear 2 = .ok (.istore_n 1, 1) := by decide +kernel
theorem dX9_clear_3 : decode cX9_clear 3 = .ok (.iconst 0, 1) := by decide +kernel
theorem dX9_clear_4 : decode cX9_clear 4 = .ok (.istore_n 2, 1) := by decide +kernel
theorem dX9_clear_5 : decode cX9_clear 5 = .ok (.iload_n 2, 1) := by decide +kernel
theorem dX9_clear_6 : decode cX9_clear 6 = .ok (.iconst 1, 1) := by decide +kernel
theorem dX9_clear_7 : decode cX9_clear 7 = .ok (.aload_n 0, 1) := by decide +kernel
theorem dX9_clear_8 : decode cX9_clear 8 = .ok (.getfield 40, 3) := by decide +kernel
theorem dX9_clear_11 : decode cX9_clear 11 = .ok (.iconst 0, 1) := by decide +kernel
theorem dX9_clear_12 : decode cX9_clear 12 = .ok (.iaload, 1) := by decide +kernel
theorem dX9_clear_13 : decode cX9_clear 13 = .ok (.ishl, 1) := by decide +kernel
theorem dX9_clear_14 : decode cX9_clear 14 = .ok (.if_icmp .ge 84, 3) := by decide +kernel
theorem dX9_clear_17 : decode cX9_clear 17 = .ok (.iload_n 1, 1) := by decide +kernel
theorem dX9_clear_18 : decode cX9_clear 18 = .ok (.ifCond .lt 14, 3) := by decide +kernel
theorem dX9_clear_21 : decode cX9_clear 21 = .ok (.iload_n 2, 1) := by decide +kernel
theorem dX9_clear_22 : decode cX9_clear 22 = .ok (.invokestatic 212, 3) := by decide +kernel
theorem dX9_clear_25 : decode cX9_clear 25 = .ok (.iload_n 1, 1) := by decide +kernel
theorem dX9_clear_26 : decode cX9_clear 26 = .ok (.invokestatic 212, 3) := by decide +kernel
theorem dX9_clear_29 : decode cX9_clear 29 = .ok (.if_icmp .ge 63, 3) := by decide +kernel
theorem dX9_clear_32 : decode cX9_clear 32 = .ok (.aload_n 0, 1) := by decide +kernel
theorem dX9_clear_33 : decode cX9_clear 33 = .ok (.iload_n 2, 1) := by decide +kernel
theorem dX9_clear_34 : decode cX9_clear 34 = .ok (.invokevirtual 185, 3) := by decide +kernel
theorem dX9_clear_37 : decode cX9_clear 37 = .ok (.iconst 1, 1) := by decide +kernel
theorem dX9_clear_38 : decode cX9_clear 38 = .ok (.istore_n 3, 1) := by decide +kernel
theorem dX9_clear_39 : decode cX9_clear 39 = .ok (.iconst 0, 1) := by decide +kernel
theorem dX9_clear_40 : decode cX9_clear 40 = .ok (.istore 4, 2) := by decide +kernel
theorem dX9_clear_42 : decode cX9_clear 42 = .ok (.iload 4, 2) := by decide +kernel
theorem dX9_clear_44 : decode cX9_clear 44 = .ok (.aload_n 0, 1) := by decide +kernel
theorem dX9_clear_45 : decode cX9_clear 45 = .ok (.getfield 40, 3) := by decide +kernel
theorem dX9_clear_48 : decode cX9_clear 48 = .ok (.iconst 0, 1) := by decide +kernel
theorem dX9_clear_49 : decode cX9_clear 49 = .ok (.iaload, 1) := by decide +kernel
theorem dX9_clear_50 : decode cX9_clear 50 = .ok (.if_icmp .ge 32, 3) := by decide +kernel
theorem dX9_clear_53 : decode cX9_clear 53 = .ok (.iload_n 3, 1) := by decide +kernel
theorem dX9_clear_54 : decode cX9_clear 54 = .ok (.ifCond .eq 20, 3) := by decide +kernel
theorem dX9_clear_57 : decode cX9_clear 57 = .ok (.aload_n 0, 1) := by decide +kernel
theorem dX9_clear_58 : decode cX9_clear 58 = .ok (.getfield 70, 3) := by decide +kernel
theorem dX9_clear_61 : decode cX9_clear 61 = .ok (.iload 4, 2) := by decide +kernel
theorem dX9_clear_63 : decode cX9_clear 63 = .ok (.iaload, 1) := by decide +kernel
theorem dX9_clear_64 : decode cX9_clear 64 = .ok (.sipush 10000, 3) := by decide +kernel
theorem dX9_clear_67 : decode cX9_clear 67 = .ok (.if_icmp .ne 7, 3) := by decide +kernel
theorem dX9_clear_70 : decode cX9_clear 70 = .ok (.iconst 1, 1) := by decide +kernel
theorem dX9_clear_71 : decode cX9_clear 71 = .ok (.goto 4, 3) := by decide +kernel
theorem dX9_clear_74 : decode cX9_clear 74 = .ok (.iconst 0, 1) := by decide +kernel
theorem dX9_clear_75 : decode cX9_clear 75 = .ok (.istore_n 3, 1) := by decide +kernel
theorem dX9_clear_76 : decode cX9_clear 76 = .ok (.iinc 4 1, 3) := by decide +kernel
theorem dX9_clear_79 : decode cX9_clear 79 = .ok (.goto (-37), 3) := by decide +kernel
theorem dX9_clear_82 : decode cX9_clear 82 = .ok (.iload_n 3, 1) := by decide +kernel
theorem dX9_clear_83 : decode cX9_clear 83 = .ok (.ifCond .eq 7, 3) := by decide +kernel
theorem dX9_clear_86 : decode cX9_clear 86 = .ok (.iload_n 2, 1) := by decide +kernel
theorem dX9_clear_87 : decode cX9_clear 87 = .ok (.goto 4, 3) := by decide +kernel
theorem dX9_clear_90 : decode cX9_clear 90 = .ok (.iload_n 1, 1) := by decide +kernel
theorem dX9_clear_91 : decode cX9_clear 91 = .ok (.istore_n 1, 1) := by decide +kernel
theorem dX9_clear_92 : decode cX9_clear 92 = .ok (.iinc 2 1, 3) := by decide +kernel
theorem dX9_clear_95 : decode cX9_clear 95 = .ok (.goto (-90), 3) := by decide +kernel
theorem dX9_clear_98 : decode cX9_clear 98 = .ok (.iload_n 1, 1) := by decide +kernel
theorem dX9_clear_99 : decode cX9_clear 99 = .ok (.ireturn, 1) := by decide +kernel
theorem dX9_stray_0 : decode cX9_stray 0 = .ok (.iload_n 1, 1) := by decide +kernel
theorem dX9_stray_1 : decode cX9_stray 1 = .ok (.i2l, 1) := by decide +kernel
theorem dX9_stray_2 : decode cX9_stray 2 = .ok (.lconst 0, 1) := by decide +kernel
theorem dX9_stray_3 : decode cX9_stray 3 = .ok (.ldc2_w 119, 3) := by decide +kernel
theorem dX9_stray_6 : decode cX9_stray 6 = .ok (.invokestatic 92, 3) := by decide +kernel
theorem dX9_stray_9 : decode cX9_stray 9 = .ok (.ifCond .eq 22, 3) := by decide +kernel
theorem dX9_stray_12 : decode cX9_stray 12 = .ok (.iload_n 2, 1) := by decide +kernel
theorem dX9_stray_13 : decode cX9_stray 13 = .ok (.i2l, 1) := by decide +kernel
theorem dX9_stray_14 : decode cX9_stray 14 = .ok (.lconst 0, 1) := by decide +kernel
theorem dX9_stray_15 : decode cX9_stray 15 = .ok (.ldc2_w 204, 3) := by decide +kernel
theorem dX9_stray_18 : decode cX9_stray 18 = .ok (.invokestatic 92, 3) := by decide +kernel
theorem dX9_stray_21 : decode cX9_stray 21 = .ok (.ifCond .eq 10, 3) := by decide +kernel
theorem dX9_stray_24 : decode cX9_stray 24 = .ok (.iload_n 3, 1) := by decide +kernel
theorem dX9_stray_25 : decode cX9_stray 25 = .ok (.invokestatic 193, 3) := by decide +kernel
theorem dX9_stray_28 : decode cX9_stray 28 = .ok (.ifCond .ne 5, 3) := by decide +kernel
theorem dX9_stray_31 : decode cX9_stray 31 = .ok (.iconst (-1), 1) := by decide +kernel
theorem dX9_stray_32 : decode cX9_stray 32 = .ok (.ireturn, 1) := by decide +kernel
theorem dX9_stray_33 : decode cX9_stray 33 = .ok (.aload_n 0, 1) := by decide +kernel
theorem dX9_stray_34 : decode cX9_stray 34 = .ok (.iconst 0, 1) := by decide +kernel
theorem dX9_stray_35 : decode cX9_stray 35 = .ok (.invokevirtual 185, 3) := by decide +kernel
theorem dX9_stray_38 : decode cX9_stray 38 = .ok (.iconst 0, 1) := by decide +kernel
theorem dX9_stray_39 : decode cX9_stray 39 = .ok (.istore 4, 2) := by decide +kernel
theorem dX9_stray_41 : decode cX9_stray 41 = .ok (.iconst 0, 1) := by decide +kernel
theorem dX9_stray_42 : decode cX9_stray 42 = .ok (.istore 5, 2) := by decide +kernel
theorem dX9_stray_44 : decode cX9_stray 44 = .ok (.iload 5, 2) := by decide +kernel
theorem dX9_stray_46 : decode cX9_stray 46 = .ok (.aload_n 0, 1) := by decide +kernel
theorem dX9_stray_47 : decode cX9_stray 47 = .ok (.getfield 40, 3) := by decide +kernel
theorem dX9_stray_50 : decode cX9_stray 50 = .ok (.iconst 0, 1) := by decide +kernel
theorem dX9_stray_51 : decode cX9_stray 51 = .ok (.iaload, 1) := by decide +kernel
theorem dX9_stray_52 : decode cX9_stray 52 = .ok (.if_icmp .ge 78, 3) := by decide +kernel
theorem dX9_stray_55 : decode cX9_stray 55 = .ok (.iload_n 3, 1) := by decide +kernel
theorem dX9_stray_56 : decode cX9_stray 56 = .ok (.aload_n 0, 1) := by decide +kernel
theorem dX9_stray_57 : decode cX9_stray 57 = .ok (.getfield 43, 3) := by decide +kernel
theorem dX9_stray_60 : decode cX9_stray 60 = .ok (.iload 5, 2) := by decide +kernel
theorem dX9_stray_62 : decode cX9_stray 62 = .ok (.iaload, 1) := by decide +kernel
theorem dX9_stray_63 : decode cX9_stray 63 = .ok (.if_icmp .lt 40, 3) := by decide +kernel
theorem dX9_stray_66 : decode cX9_stray 66 = .ok (.iload_n 3, 1) := by decide +kernel
theorem dX9_stray_67 : decode cX9_stray 67 = .ok (.aload_n 0, 1) := by decide +kernel
theorem dX9_stray_68 : decode cX9_stray 68 = .ok (.getfield 67, 3) := by decide +kernel
theorem dX9_stray_71 : decode cX9_stray 71 = .ok (.iload 5, 2) := by decide +kernel
theorem dX9_stray_73 : decode cX9_stray 73 = .ok (.iaload, 1) := by decide +kernel
theorem dX9_stray_74 : decode cX9_stray 74 = .ok (.if_icmp .ge 29, 3) := by decide +kernel
theorem dX9_stray_77 : decode cX9_stray 77 = .ok (.aload_n 0, 1) := by decide +kernel
theorem dX9_stray_78 : decode cX9_stray 78 = .ok (.getfield 61, 3) := by decide +kernel
theorem dX9_stray_81 : decode cX9_stray 81 = .ok (.iload 5, 2) := by decide +kernel
theorem dX9_stray_83 : decode cX9_stray 83 = .ok (.iaload, 1) := by decide +kernel
theorem dX9_stray_84 : decode cX9_stray 84 = .ok (.iload_n 2, 1) := by decide +kernel
theorem dX9_stray_85 : decode cX9_stray 85 = .ok (.if_icmp .ne 18, 3) := by decide +kernel
theorem dX9_stray_88 : decode cX9_stray 88 = .ok (.aload_n 0, 1) := by decide +kernel
theorem dX9_stray_89 : decode cX9_stray 89 = .ok (.iload 5, 2) := by decide +kernel
theorem dX9_stray_91 : decode cX9_stray 91 = .ok (.iload_n 3, 1) := by decide +kernel
theorem dX9_stray_92 : decode cX9_stray 92 = .ok (.invokevirtual 154, 3) := by decide +kernel
theorem dX9_stray_95 : decode cX9_stray 95 = .ok (.iload_n 1, 1) := by decide +kernel
theorem dX9_stray_96 : decode cX9_stray 96 = .ok (.if_icmp .ne 7, 3) := by decide +kernel
theorem dX9_stray_99 : decode cX9_stray 99 = .ok (.iconst 1, 1) := by decide +kernel
theorem dX9_stray_100 : decode cX9_stray 100 = .ok (.goto 4, 3) := by decide +kernel
theorem dX9_stray_103 : decode cX9_stray 103 = .ok (.iconst 0, 1) := by decide +kernel
theorem dX9_stray_104 : decode cX9_stray 104 = .ok (.istore 6, 2) := by decide +kernel
theorem dX9_stray_106 : decode cX9_stray 106 = .ok (.iload 4, 2) := by decide +kernel
theorem dX9_stray_108 : decode cX9_stray 108 = .ok (.iload 6, 2) := by decide +kernel
theorem dX9_stray_110 : decode cX9_stray 110 = .ok (.ifCond .eq 10, 3) := by decide +kernel
theorem dX9_stray_113 : decode cX9_stray 113 = .ok (.iconst 1, 1) := by decide +kernel
theorem dX9_stray_114 : decode cX9_stray 114 = .ok (.iload 5, 2) := by decide +kernel
theorem dX9_stray_116 : decode cX9_stray 116 = .ok (.ishl, 1) := by decide +kernel
theorem dX9_stray_117 : decode cX9_stray 117 = .ok (.goto 4, 3) := by decide +kernel
theorem dX9_stray_120 : decode cX9_stray 120 = .ok (.iconst 0, 1) := by decide +kernel
theorem dX9_stray_121 : decode cX9_stray 121 = .ok (.ior, 1) := by decide +kernel
theorem dX9_stray_122 : decode cX9_stray 122 = .ok (.istore 4, 2) := by decide +kernel
theorem dX9_stray_124 : decode cX9_stray 124 = .ok (.iinc 5 1, 3) := by decide +kernel
theorem dX9_stray_127 : decode cX9_stray 127 = .ok (.goto (-83), 3) := by decide +kernel
theorem dX9_stray_130 : decode cX9_stray 130 = .ok (.iload 4, 2) := by decide +kernel
theorem dX9_stray_132 : decode cX9_stray 132 = .ok (.ireturn, 1) := by decide +kernel
theorem dX9_isMeeter_0 : decode cX9_isMeeter 0 = .ok (.aload_n 0, 1) := by decide +kernel
theorem dX9_isMeeter_1 : decode cX9_isMeeter 1 = .ok (.aload_n 0, 1) := by decide +kernel
theorem dX9_isMeeter_2 : decode cX9_isMeeter 2 = .ok (.getfield 43, 3) := by decide +kernel
theorem dX9_isMeeter_5 : decode cX9_isMeeter 5 = .ok (.iload_n 1, 1) := by decide +kernel
theorem dX9_isMeeter_6 : decode cX9_isMeeter 6 = .ok (.iaload, 1) := by decide +kernel
theorem dX9_isMeeter_7 : decode cX9_isMeeter 7 = .ok (.aload_n 0, 1) := by decide +kernel
theorem dX9_isMeeter_8 : decode cX9_isMeeter 8 = .ok (.getfield 49, 3) := by decide +kernel
theorem dX9_isMeeter_11 : decode cX9_isMeeter 11 = .ok (.iload_n 1, 1) := by decide +kernel
theorem dX9_isMeeter_12 : decode cX9_isMeeter 12 = .ok (.iaload, 1) := by decide +kernel
theorem dX9_isMeeter_13 : decode cX9_isMeeter 13 = .ok (.invokevirtual 161, 3) := by decide +kernel
theorem dX9_isMeeter_16 : decode cX9_isMeeter 16 = .ok (.istore 4, 2) := by decide +kernel
theorem dX9_isMeeter_18 : decode cX9_isMeeter 18 = .ok (.aload_n 0, 1) := by decide +kernel
theorem dX9_isMeeter_19 : decode cX9_isMeeter 19 = .ok (.iload_n 2, 1) := by decide +kernel
theorem dX9_isMeeter_20 : decode cX9_isMeeter 20 = .ok (.iload_n 3, 1) := by decide +kernel
theorem dX9_isMeeter_21 : decode cX9_isMeeter 21 = .ok (.invokevirtual 161, 3) := by decide +kernel
theorem dX9_isMeeter_24 : decode cX9_isMeeter 24 = .ok (.istore 5, 2) := by decide +kernel
theorem dX9_isMeeter_26 : decode cX9_isMeeter 26 = .ok (.iconst 0, 1) := by decide +kernel
theorem dX9_isMeeter_27 : decode cX9_isMeeter 27 = .ok (.istore 6, 2) := by decide +kernel
theorem dX9_isMeeter_29 : decode cX9_isMeeter 29 = .ok (.iload_n 2, 1) := by decide +kernel
theorem dX9_isMeeter_30 : decode cX9_isMeeter 30 = .ok (.aload_n 0, 1) := by decide +kernel
theorem dX9_isMeeter_31 : decode cX9_isMeeter 31 = .ok (.getfield 43, 3) := by decide +kernel
theorem dX9_isMeeter_34 : decode cX9_isMeeter 34 = .ok (.iload_n 1, 1) := by decide +kernel
theorem dX9_isMeeter_35 : decode cX9_isMeeter 35 = .ok (.iaload, 1) := by decide +kernel
theorem dX9_isMeeter_36 : decode cX9_isMeeter 36 = .ok (.if_icmp .le 7, 3) := by decide +kernel
theorem dX9_isMeeter_39 : decode cX9_isMeeter 39 = .ok (.iload_n 2, 1) := by decide +kernel
theorem dX9_isMeeter_40 : decode cX9_isMeeter 40 = .ok (.goto 9, 3) := by decide +kernel
theorem dX9_isMeeter_43 : decode cX9_isMeeter 43 = .ok (.aload_n 0, 1) := by decide +kernel
theorem dX9_isMeeter_44 : decode cX9_isMeeter 44 = .ok (.getfield 43, 3) := by decide +kernel
theorem dX9_isMeeter_47 : decode cX9_isMeeter 47 = .ok (.iload_n 1, 1) := by decide +kernel
theorem dX9_isMeeter_48 : decode cX9_isMeeter 48 = .ok (.iaload, 1) := by decide +kernel
theorem dX9_isMeeter_49 : decode cX9_isMeeter 49 = .ok (.istore 7, 2) := by decide +kernel
theorem dX9_isMeeter_51 : decode cX9_isMeeter 51 = .ok (.iload 7, 2) := by decide +kernel
theorem dX9_isMeeter_53 : decode cX9_isMeeter 53 = .ok (.iload 4, 2) := by decide +kernel
theorem dX9_isMeeter_55 : decode cX9_isMeeter 55 = .ok (.if_icmp .ge 44, 3) := by decide +kernel
theorem dX9_isMeeter_58 : decode cX9_isMeeter 58 = .ok (.iload 7, 2) := by decide +kernel
theorem dX9_isMeeter_60 : decode cX9_isMeeter 60 = .ok (.iload 5, 2) := by decide +kernel
theorem dX9_isMeeter_62 : decode cX9_isMeeter 62 = .ok (.if_icmp .ge 37, 3) := by decide +kernel
theorem dX9_isMeeter_65 : decode cX9_isMeeter 65 = .ok (.iload 6, 2) := by decide +kernel
theorem dX9_isMeeter_67 : decode cX9_isMeeter 67 = .ok (.ifCond .ne 19, 3) := by decide +kernel
theorem dX9_isMeeter_70 : decode cX9_isMeeter 70 = .ok (.aload_n 0, 1) := by decide +kernel
theorem dX9_isMeeter_71 : decode cX9_isMeeter 71 = .ok (.iload_n 1, 1) := by decide +kernel
theorem dX9_isMeeter_72 : decode cX9_isMeeter 72 = .ok (.iload 7, 2) := by decide +kernel
theorem dX9_isMeeter_74 : decode cX9_isMeeter 74 = .ok (.invokevirtual 154, 3) := by decide +kernel
theorem dX9_isMeeter_77 : decode cX9_isMeeter 77 = .ok (.iload_n 3, 1) := by decide +kernel
theorem dX9_isMeeter_78 : decode cX9_isMeeter 78 = .ok (.iload 7, 2) := by decide +kernel
theorem dX9_isMeeter_80 : decode cX9_isMeeter 80 = .ok (.iload_n 2, 1) := by decide +kernel
theorem dX9_isMeeter_81 : decode cX9_isMeeter 81 = .ok (.isub, 1) := by decide +kernel
theorem dX9_isMeeter_82 : decode cX9_isMeeter 82 = .ok (.imul, 1) := by decide +kernel
theorem dX9_isMeeter_83 : decode cX9_isMeeter 83 = .ok (.if_icmp .ne 7, 3) := by decide +kernel
theorem dX9_isMeeter_86 : decode cX9_isMeeter 86 = .ok (.iconst 1, 1) := by decide +kernel
theorem dX9_isMeeter_87 : decode cX9_isMeeter 87 = .ok (.goto 4, 3) := by decide +kernel
theorem dX9_isMeeter_90 : decode cX9_isMeeter 90 = .ok (.iconst 0, 1) := by decide +kernel
theorem dX9_isMeeter_91 : decode cX9_isMeeter 91 = .ok (.istore 6, 2) := by decide +kernel
theorem dX9_isMeeter_93 : decode cX9_isMeeter 93 = .ok (.iinc 7 1, 3) := by decide +kernel
theorem dX9_isMeeter_96 : decode cX9_isMeeter 96 = .ok (.goto (-45), 3) := by decide +kernel
theorem dX9_isMeeter_99 : decode cX9_isMeeter 99 = .ok (.iload 6, 2) := by decide +kernel
theorem dX9_isMeeter_101 : decode cX9_isMeeter 101 = .ok (.ireturn, 1) := by decide +kernel
theorem dX9_meeters_0 : decode cX9_meeters 0 = .ok (.aload_n 0, 1) := by decide +kernel
theorem dX9_meeters_1 : decode cX9_meeters 1 = .ok (.iload_n 1, 1) := by decide +kernel
theorem dX9_meeters_2 : decode cX9_meeters 2 = .ok (.invokevirtual 182, 3) := by decide +kernel
theorem dX9_meeters_5 : decode cX9_meeters 5 = .ok (.ifCond .eq 13, 3) := by decide +kernel
theorem dX9_meeters_8 : decode cX9_meeters 8 = .ok (.iload_n 2, 1) := by decide +kernel
theorem dX9_meeters_9 : decode cX9_meeters 9 = .ok (.i2l, 1) := by decide +kernel
theorem dX9_meeters_10 : decode cX9_meeters 10 = .ok (.lconst 0, 1) := by decide +kernel
theorem dX9_meeters_11 : decode cX9_meeters 11 = .ok (.lconst 1, 1) := by decide +kernel
theorem dX9_meeters_12 : decode cX9_meeters 12 = .ok (.invokestatic 92, 3) := by decide +kernel
theorem dX9_meeters_15 : decode cX9_meeters 15 = .ok (.ifCond .ne 5, 3) := by decide +kernel
theorem dX9_meeters_18 : decode cX9_meeters 18 = .ok (.iconst (-1), 1) := by decide +kernel
theorem dX9_meeters_19 : decode cX9_meeters 19 = .ok (.ireturn, 1) := by decide +kernel
theorem dX9_meeters_20 : decode cX9_meeters 20 = .ok (.iconst 0, 1) := by decide +kernel
theorem dX9_meeters_21 : decode cX9_meeters 21 = .ok (.istore_n 3, 1) := by decide +kernel
theorem dX9_meeters_22 : decode cX9_meeters 22 = .ok (.bipush (-4), 2) := by decide +kernel
theorem dX9_meeters_24 : decode cX9_meeters 24 = .ok (.istore 4, 2) := by decide +kernel
theorem dX9_meeters_26 : decode cX9_meeters 26 = .ok (.iconst 0, 1) := by decide +kernel
theorem dX9_meeters_27 : decode cX9_meeters 27 = .ok (.istore 5, 2) := by decide +kernel
theorem dX9_meeters_29 : decode cX9_meeters 29 = .ok (.iload 5, 2) := by decide +kernel
theorem dX9_meeters_31 : decode cX9_meeters 31 = .ok (.bipush 40, 2) := by decide +kernel
theorem dX9_meeters_33 : decode cX9_meeters 33 = .ok (.if_icmp .gt 59, 3) := by decide +kernel
theorem dX9_meeters_36 : decode cX9_meeters 36 = .ok (.iconst 1, 1) := by decide +kernel
theorem dX9_meeters_37 : decode cX9_meeters 37 = .ok (.istore 6, 2) := by decide +kernel
theorem dX9_meeters_39 : decode cX9_meeters 39 = .ok (.iload 6, 2) := by decide +kernel
theorem dX9_meeters_41 : decode cX9_meeters 41 = .ok (.bipush 6, 2) := by decide +kernel
theorem dX9_meeters_43 : decode cX9_meeters 43 = .ok (.if_icmp .gt 43, 3) := by decide +kernel
theorem dX9_meeters_46 : decode cX9_meeters 46 = .ok (.aload_n 0, 1) := by decide +kernel
theorem dX9_meeters_47 : decode cX9_meeters 47 = .ok (.iload_n 1, 1) := by decide +kernel
theorem dX9_meeters_48 : decode cX9_meeters 48 = .ok (.iload 5, 2) := by decide +kernel
theorem dX9_meeters_50 : decode cX9_meeters 50 = .ok (.iload 6, 2) := by decide +kernel
theorem dX9_meeters_52 : decode cX9_meeters 52 = .ok (.invokevirtual 215, 3) := by decide +kernel
theorem dX9_meeters_55 : decode cX9_meeters 55 = .ok (.ifCond .eq 25, 3) := by decide +kernel
theorem dX9_meeters_58 : decode cX9_meeters 58 = .ok (.iload_n 3, 1) := by decide +kernel
theorem dX9_meeters_59 : decode cX9_meeters 59 = .ok (.ifCond .ne 14, 3) := by decide +kernel
theorem dX9_meeters_62 : decode cX9_meeters 62 = .ok (.bipush 10, 2) := by decide +kernel
theorem dX9_meeters_64 : decode cX9_meeters 64 = .ok (.iload 5, 2) := by decide +kernel
theorem dX9_meeters_66 : decode cX9_meeters 66 = .ok (.imul, 1) := by decide +kernel
theorem dX9_meeters_67 : decode cX9_meeters 67 = .ok (.iload 6, 2) := by decide +kernel
theorem dX9_meeters_69 : decode cX9_meeters 69 = .ok (.iadd, 1) := by decide +kernel
theorem dX9_meeters_70 : decode cX9_meeters 70 = .ok (.goto 5, 3) := by decide +kernel
theorem dX9_meeters_73 : decode cX9_meeters 73 = .ok (.iload 4, 2) := by decide +kernel
theorem dX9_meeters_75 : decode cX9_meeters 75 = .ok (.istore 4, 2) := by decide +kernel
theorem dX9_meeters_77 : decode cX9_meeters 77 = .ok (.iinc 3 1, 3) := by decide +kernel
theorem dX9_meeters_80 : decode cX9_meeters 80 = .ok (.iinc 6 1, 3) := by decide +kernel
theorem dX9_meeters_83 : decode cX9_meeters 83 = .ok (.goto (-44), 3) := by decide +kernel
theorem dX9_meeters_86 : decode cX9_meeters 86 = .ok (.iinc 5 1, 3) := by decide +kernel
theorem dX9_meeters_89 : decode cX9_meeters 89 = .ok (.goto (-60), 3) := by decide +kernel
theorem dX9_meeters_92 : decode cX9_meeters 92 = .ok (.iload_n 2, 1) := by decide +kernel
theorem dX9_meeters_93 : decode cX9_meeters 93 = .ok (.ifCond .ne 7, 3) := by decide +kernel
theorem dX9_meeters_96 : decode cX9_meeters 96 = .ok (.iload_n 3, 1) := by decide +kernel
theorem dX9_meeters_97 : decode cX9_meeters 97 = .ok (.goto 5, 3) := by decide +kernel
theorem dX9_meeters_100 : decode cX9_meeters 100 = .ok (.iload 4, 2) := by decide +kernel
theorem dX9_meeters_102 : decode cX9_meeters 102 = .ok (.ireturn, 1) := by decide +kernel
theorem dX9_stand_0 : decode cX9_stand 0 = .ok (.iload_n 1, 1) := by decide +kernel
theorem dX9_stand_1 : decode cX9_stand 1 = .ok (.i2l, 1) := by decide +kernel
theorem dX9_stand_2 : decode cX9_stand 2 = .ok (.lconst 0, 1) := by decide +kernel
theorem dX9_stand_3 : decode cX9_stand 3 = .ok (.ldc2_w 204, 3) := by decide +kernel
theorem dX9_stand_6 : decode cX9_stand 6 = .ok (.invokestatic 92, 3) := by decide +kernel
theorem dX9_stand_9 : decode cX9_stand 9 = .ok (.ifCond .eq 25, 3) := by decide +kernel
theorem dX9_stand_12 : decode cX9_stand 12 = .ok (.iload_n 2, 1) := by decide +kernel
theorem dX9_stand_13 : decode cX9_stand 13 = .ok (.i2l, 1) := by decide +kernel
theorem dX9_stand_14 : decode cX9_stand 14 = .ok (.lconst 1, 1) := by decide +kernel
theorem dX9_stand_15 : decode cX9_stand 15 = .ok (.ldc2_w 219, 3) := by decide +kernel
theorem dX9_stand_18 : decode cX9_stand 18 = .ok (.invokestatic 92, 3) := by decide +kernel
theorem dX9_stand_21 : decode cX9_stand 21 = .ok (.ifCond .eq 13, 3) := by decide +kernel
theorem dX9_stand_24 : decode cX9_stand 24 = .ok (.iload_n 3, 1) := by decide +kernel
theorem dX9_stand_25 : decode cX9_stand 25 = .ok (.i2l, 1) := by decide +kernel
theorem dX9_stand_26 : decode cX9_stand 26 = .ok (.lconst 0, 1) := by decide +kernel
theorem dX9_stand_27 : decode cX9_stand 27 = .ok (.lconst 1, 1) := by decide +kernel
theorem dX9_stand_28 : decode cX9_stand 28 = .ok (.invokestatic 92, 3) := by decide +kernel
theorem dX9_stand_31 : decode cX9_stand 31 = .ok (.ifCond .ne 5, 3) := by decide +kernel
theorem dX9_stand_34 : decode cX9_stand 34 = .ok (.iconst (-1), 1) := by decide +kernel
theorem dX9_stand_35 : decode cX9_stand 35 = .ok (.ireturn, 1) := by decide +kernel
theorem dX9_stand_36 : decode cX9_stand 36 = .ok (.iconst 0, 1) := by decide +kernel
theorem dX9_stand_37 : decode cX9_stand 37 = .ok (.istore 4, 2) := by decide +kernel
theorem dX9_stand_39 : decode cX9_stand 39 = .ok (.iload 4, 2) := by decide +kernel
theorem dX9_stand_41 : decode cX9_stand 41 = .ok (.bipush 24, 2) := by decide +kernel
theorem dX9_stand_43 : decode cX9_stand 43 = .ok (.if_icmp .ge 29, 3) := by decide +kernel
theorem dX9_stand_46 : decode cX9_stand 46 = .ok (.aload_n 0, 1) := by decide +kernel
theorem dX9_stand_47 : decode cX9_stand 47 = .ok (.getfield 73, 3) := by decide +kernel
theorem dX9_stand_50 : decode cX9_stand 50 = .ok (.iload 4, 2) := by decide +kernel
theorem dX9_stand_52 : decode cX9_stand 52 = .ok (.iload 4, 2) := by decide +kernel
theorem dX9_stand_54 : decode cX9_stand 54 = .ok (.iload_n 1, 1) := by decide +kernel
theorem dX9_stand_55 : decode cX9_stand 55 = .ok (.if_icmp .ne 7, 3) := by decide +kernel
theorem dX9_stand_58 : decode cX9_stand 58 = .ok (.iconst 0, 1) := by decide +kernel
theorem dX9_stand_59 : decode cX9_stand 59 = .ok (.goto 6, 3) := by decide +kernel
theorem dX9_stand_62 : decode cX9_stand 62 = .ok (.sipush 10000, 3) := by decide +kernel
theorem dX9_stand_65 : decode cX9_stand 65 = .ok (.iastore, 1) := by decide +kernel
theorem dX9_stand_66 : decode cX9_stand 66 = .ok (.iinc 4 1, 3) := by decide +kernel
theorem dX9_stand_69 : decode cX9_stand 69 = .ok (.goto (-30), 3) := by decide +kernel
theorem dX9_stand_72 : decode cX9_stand 72 = .ok (.iconst 0, 1) := by decide +kernel
theorem dX9_stand_73 : decode cX9_stand 73 = .ok (.istore 4, 2) := by decide +kernel
theorem dX9_stand_75 : decode cX9_stand 75 = .ok (.iload 4, 2) := by decide +kernel
theorem dX9_stand_77 : decode cX9_stand 77 = .ok (.bipush 24, 2) := by decide +kernel
theorem dX9_stand_79 : decode cX9_stand 79 = .ok (.if_icmp .ge 106, 3) := by decide +kernel
theorem dX9_stand_82 : decode cX9_stand 82 = .ok (.iconst 0, 1) := by decide +kernel
theorem dX9_stand_83 : decode cX9_stand 83 = .ok (.istore 5, 2) := by decide +kernel
theorem dX9_stand_85 : decode cX9_stand 85 = .ok (.iload 5, 2) := by decide +kernel
theorem dX9_stand_87 : decode cX9_stand 87 = .ok (.bipush 24, 2) := by decide +kernel
theorem dX9_stand_89 : decode cX9_stand 89 = .ok (.if_icmp .ge 90, 3) := by decide +kernel
theorem dX9_stand_92 : decode cX9_stand 92 = .ok (.iconst 1, 1) := by decide +kernel
theorem dX9_stand_93 : decode cX9_stand 93 = .ok (.istore 6, 2) := by decide +kernel
theorem dX9_stand_95 : decode cX9_stand 95 = .ok (.iload 6, 2) := by decide +kernel
theorem dX9_stand_97 : decode cX9_stand 97 = .ok (.bipush 6, 2) := by decide +kernel
theorem dX9_stand_99 : decode cX9_stand 99 = .ok (.if_icmp .gt 74, 3) := by decide +kernel
theorem dX9_stand_102 : decode cX9_stand 102 = .ok (.iload_n 2, 1) := by decide +kernel
theorem dX9_stand_103 : decode cX9_stand 103 = .ok (.iload 6, 2) := by decide +kernel
theorem dX9_stand_105 : decode cX9_stand 105 = .ok (.iconst 1, 1) := by decide +kernel
theorem dX9_stand_106 : decode cX9_stand 106 = .ok (.isub, 1) := by decide +kernel
theorem dX9_stand_107 : decode cX9_stand 107 = .ok (.invokestatic 144, 3) := by decide +kernel
theorem dX9_stand_110 : decode cX9_stand 110 = .ok (.ifCond .eq 21, 3) := by decide +kernel
theorem dX9_stand_113 : decode cX9_stand 113 = .ok (.aload_n 0, 1) := by decide +kernel
theorem dX9_stand_114 : decode cX9_stand 114 = .ok (.getfield 73, 3) := by decide +kernel
theorem dX9_stand_117 : decode cX9_stand 117 = .ok (.iload 5, 2) := by decide +kernel
theorem dX9_stand_119 : decode cX9_stand 119 = .ok (.iload 6, 2) := by decide +kernel
theorem dX9_stand_121 : decode cX9_stand 121 = .ok (.isub, 1) := by decide +kernel
theorem dX9_stand_122 : decode cX9_stand 122 = .ok (.invokestatic 148, 3) := by decide +kernel
theorem dX9_stand_125 : decode cX9_stand 125 = .ok (.iaload, 1) := by decide +kernel
theorem dX9_stand_126 : decode cX9_stand 126 = .ok (.iconst 1, 1) := by decide +kernel
theorem dX9_stand_127 : decode cX9_stand 127 = .ok (.iadd, 1) := by decide +kernel
theorem dX9_stand_128 : decode cX9_stand 128 = .ok (.goto 6, 3) := by decide +kernel
theorem dX9_stand_131 : decode cX9_stand 131 = .ok (.sipush 10000, 3) := by decide +kernel
theorem dX9_stand_134 : decode cX9_stand 134 = .ok (.istore 7, 2) := by decide +kernel
theorem dX9_stand_136 : decode cX9_stand 136 = .ok (.aload_n 0, 1) := by decide +kernel
theorem dX9_stand_137 : decode cX9_stand 137 = .ok (.getfield 73, 3) := by decide +kernel
theorem dX9_stand_140 : decode cX9_stand 140 = .ok (.iload 5, 2) := by decide +kernel
theorem dX9_stand_142 : decode cX9_stand 142 = .ok (.iload 7, 2) := by decide +kernel
theorem dX9_stand_144 : decode cX9_stand 144 = .ok (.aload_n 0, 1) := by decide +kernel
theorem dX9_stand_145 : decode cX9_stand 145 = .ok (.getfield 73, 3) := by decide +kernel
theorem dX9_stand_148 : decode cX9_stand 148 = .ok (.iload 5, 2) := by decide +kernel
theorem dX9_stand_150 : decode cX9_stand 150 = .ok (.iaload, 1) := by decide +kernel
theorem dX9_stand_151 : decode cX9_stand 151 = .ok (.if_icmp .ge 8, 3) := by decide +kernel
theorem dX9_stand_154 : decode cX9_stand 154 = .ok (.iload 7, 2) := by decide +kernel
theorem dX9_stand_156 : decode cX9_stand 156 = .ok (.goto 10, 3) := by decide +kernel
theorem dX9_stand_159 : decode cX9_stand 159 = .ok (.aload_n 0, 1) := by decide +kernel
theorem dX9_stand_160 : decode cX9_stand 160 = .ok (.getfield 73, 3) := by decide +kernel
theorem dX9_stand_163 : decode cX9_stand 163 = .ok (.iload 5, 2) := by decide +kernel
theorem dX9_stand_165 : decode cX9_stand 165 = .ok (.iaload, 1) := by decide +kernel
theorem dX9_stand_166 : decode cX9_stand 166 = .ok (.iastore, 1) := by decide +kernel
theorem dX9_stand_167 : decode cX9_stand 167 = .ok (.iinc 6 1, 3) := by decide +kernel
theorem dX9_stand_170 : decode cX9_stand 170 = .ok (.goto (-75), 3) := by decide +kernel
theorem dX9_stand_173 : decode cX9_stand 173 = .ok (.iinc 5 1, 3) := by decide +kernel
theorem dX9_stand_176 : decode cX9_stand 176 = .ok (.goto (-91), 3) := by decide +kernel
theorem dX9_stand_179 : decode cX9_stand 179 = .ok (.iinc 4 1, 3) := by decide +kernel
theorem dX9_stand_182 : decode cX9_stand 182 = .ok (.goto (-107), 3) := by decide +kernel
theorem dX9_stand_185 : decode cX9_stand 185 = .ok (.aload_n 0, 1) := by decide +kernel
theorem dX9_stand_186 : decode cX9_stand 186 = .ok (.iconst 0, 1) := by decide +kernel
theorem dX9_stand_187 : decode cX9_stand 187 = .ok (.putfield 141, 3) := by decide +kernel
theorem dX9_stand_190 : decode cX9_stand 190 = .ok (.aload_n 0, 1) := by decide +kernel
theorem dX9_stand_191 : decode cX9_stand 191 = .ok (.bipush 40, 2) := by decide +kernel
theorem dX9_stand_193 : decode cX9_stand 193 = .ok (.invokevirtual 158, 3) := by decide +kernel
theorem dX9_stand_196 : decode cX9_stand 196 = .ok (.istore 4, 2) := by decide +kernel
theorem dX9_stand_198 : decode cX9_stand 198 = .ok (.aload_n 0, 1) := by decide +kernel
theorem dX9_stand_199 : decode cX9_stand 199 = .ok (.getfield 73, 3) := by decide +kernel
theorem dX9_stand_202 : decode cX9_stand 202 = .ok (.iload 4, 2) := by decide +kernel
theorem dX9_stand_204 : decode cX9_stand 204 = .ok (.iaload, 1) := by decide +kernel
theorem dX9_stand_205 : decode cX9_stand 205 = .ok (.sipush 10000, 3) := by decide +kernel
theorem dX9_stand_208 : decode cX9_stand 208 = .ok (.if_icmp .lt 6, 3) := by decide +kernel
theorem dX9_stand_211 : decode cX9_stand 211 = .ok (.bipush (-4), 2) := by decide +kernel
theorem dX9_stand_213 : decode cX9_stand 213 = .ok (.ireturn, 1) := by decide +kernel
theorem dX9_stand_214 : decode cX9_stand 214 = .ok (.iload_n 3, 1) := by decide +kernel
theorem dX9_stand_215 : decode cX9_stand 215 = .ok (.ifCond .ne 11, 3) := by decide +kernel
theorem dX9_stand_218 : decode cX9_stand 218 = .ok (.aload_n 0, 1) := by decide +kernel
theorem dX9_stand_219 : decode cX9_stand 219 = .ok (.getfield 73, 3) := by decide +kernel
theorem dX9_stand_222 : decode cX9_stand 222 = .ok (.iload 4, 2) := by decide +kernel
theorem dX9_stand_224 : decode cX9_stand 224 = .ok (.iaload, 1) := by decide +kernel
theorem dX9_stand_225 : decode cX9_stand 225 = .ok (.ireturn, 1) := by decide +kernel
theorem dX9_stand_226 : decode cX9_stand 226 = .ok (.iconst 1, 1) := by decide +kernel
theorem dX9_stand_227 : decode cX9_stand 227 = .ok (.istore 5, 2) := by decide +kernel
theorem dX9_stand_229 : decode cX9_stand 229 = .ok (.iload 5, 2) := by decide +kernel
theorem dX9_stand_231 : decode cX9_stand 231 = .ok (.bipush 6, 2) := by decide +kernel
theorem dX9_stand_233 : decode cX9_stand 233 = .ok (.if_icmp .gt 58, 3) := by decide +kernel
theorem dX9_stand_236 : decode cX9_stand 236 = .ok (.iload_n 2, 1) := by decide +kernel
theorem dX9_stand_237 : decode cX9_stand 237 = .ok (.iload 5, 2) := by decide +kernel
theorem dX9_stand_239 : decode cX9_stand 239 = .ok (.iconst 1, 1) := by decide +kernel
theorem dX9_stand_240 : decode cX9_stand 240 = .ok (.isub, 1) := by decide +kernel
theorem dX9_stand_241 : decode cX9_stand 241 = .ok (.invokestatic 144, 3) := by decide +kernel
theorem dX9_stand_244 : decode cX9_stand 244 = .ok (.ifCond .eq 41, 3) := by decide +kernel
theorem dX9_stand_247 : decode cX9_stand 247 = .ok (.aload_n 0, 1) := by decide +kernel
theorem dX9_stand_248 : decode cX9_stand 248 = .ok (.getfield 73, 3) := by decide +kernel
theorem dX9_stand_251 : decode cX9_stand 251 = .ok (.iload 4, 2) := by decide +kernel
theorem dX9_stand_253 : decode cX9_stand 253 = .ok (.iaload, 1) := by decide +kernel
theorem dX9_stand_254 : decode cX9_stand 254 = .ok (.ifCond .le 31, 3) := by decide +kernel
theorem dX9_stand_257 : decode cX9_stand 257 = .ok (.aload_n 0, 1) := by decide +kernel
theorem dX9_stand_258 : decode cX9_stand 258 = .ok (.getfield 73, 3) := by decide +kernel
theorem dX9_stand_261 : decode cX9_stand 261 = .ok (.iload 4, 2) := by decide +kernel
theorem dX9_stand_263 : decode cX9_stand 263 = .ok (.iload 5, 2) := by decide +kernel
theorem dX9_stand_265 : decode cX9_stand 265 = .ok (.isub, 1) := by decide +kernel
theorem dX9_stand_266 : decode cX9_stand 266 = .ok (.invokestatic 148, 3) := by decide +kernel
theorem dX9_stand_269 : decode cX9_stand 269 = .ok (.iaload, 1) := by decide +kernel
theorem dX9_stand_270 : decode cX9_stand 270 = .ok (.aload_n 0, 1) := by decide +kernel
theorem dX9_stand_271 : decode cX9_stand 271 = .ok (.getfield 73, 3) := by decide +kernel
theorem dX9_stand_274 : decode cX9_stand 274 = .ok (.iload 4, 2) := by decide +kernel
theorem dX9_stand_276 : decode cX9_stand 276 = .ok (.iaload, 1) := by decide +kernel
theorem dX9_stand_277 : decode cX9_stand 277 = .ok (.iconst 1, 1) := by decide +kernel
theorem dX9_stand_278 : decode cX9_stand 278 = .ok (.isub, 1) := by decide +kernel
theorem dX9_stand_279 : decode cX9_stand 279 = .ok (.if_icmp .ne 6, 3) := by decide +kernel
theorem dX9_stand_282 : decode cX9_stand 282 = .ok (.iload 5, 2) := by decide +kernel
theorem dX9_stand_284 : decode cX9_stand 284 = .ok (.ireturn, 1) := by decide +kernel
theorem dX9_stand_285 : decode cX9_stand 285 = .ok (.iinc 5 1, 3) := by decide +kernel
theorem dX9_stand_288 : decode cX9_stand 288 = .ok (.goto (-59), 3) := by decide +kernel
theorem dX9_stand_291 : decode cX9_stand 291 = .ok (.bipush (-4), 2) := by decide +kernel
theorem dX9_stand_293 : decode cX9_stand 293 = .ok (.ireturn, 1) := by decide +kernel
theorem dX9_odds_0 : decode cX9_odds 0 = .ok (.iload_n 1, 1) := by decide +kernel
theorem dX9_odds_1 : decode cX9_odds 1 = .ok (.i2l, 1) := by decide +kernel
theorem dX9_odds_2 : decode cX9_odds 2 = .ok (.lconst 0, 1) := by decide +kernel
theorem dX9_odds_3 : decode cX9_odds 3 = .ok (.ldc2_w 221, 3) := by decide +kernel
theorem dX9_odds_6 : decode cX9_odds 6 = .ok (.invokestatic 92, 3) := by decide +kernel
theorem dX9_odds_9 : decode cX9_odds 9 = .ok (.ifCond .eq 25, 3) := by decide +kernel
theorem dX9_odds_12 : decode cX9_odds 12 = .ok (.iload_n 2, 1) := by decide +kernel
theorem dX9_odds_13 : decode cX9_odds 13 = .ok (.i2l, 1) := by decide +kernel
theorem dX9_odds_14 : decode cX9_odds 14 = .ok (.lconst 0, 1) := by decide +kernel
theorem dX9_odds_15 : decode cX9_odds 15 = .ok (.ldc2_w 223, 3) := by decide +kernel
theorem dX9_odds_18 : decode cX9_odds 18 = .ok (.invokestatic 92, 3) := by decide +kernel
theorem dX9_odds_21 : decode cX9_odds 21 = .ok (.ifCond .eq 13, 3) := by decide +kernel
theorem dX9_odds_24 : decode cX9_odds 24 = .ok (.iload_n 3, 1) := by decide +kernel
theorem dX9_odds_25 : decode cX9_odds 25 = .ok (.i2l, 1) := by decide +kernel
theorem dX9_odds_26 : decode cX9_odds 26 = .ok (.lconst 0, 1) := by decide +kernel
theorem dX9_odds_27 : decode cX9_odds 27 = .ok (.lconst 1, 1) := by decide +kernel
theorem dX9_odds_28 : decode cX9_odds 28 = .ok (.invokestatic 92, 3) := by decide +kernel
theorem dX9_odds_31 : decode cX9_odds 31 = .ok (.ifCond .ne 7, 3) := by decide +kernel
theorem dX9_odds_34 : decode cX9_odds 34 = .ok (.ldc2_w 225, 3) := by decide +kernel
theorem dX9_odds_37 : decode cX9_odds 37 = .ok (.lreturn, 1) := by decide +kernel
theorem dX9_odds_38 : decode cX9_odds 38 = .ok (.iconst 0, 1) := by decide +kernel
theorem dX9_odds_39 : decode cX9_odds 39 = .ok (.istore 4, 2) := by decide +kernel
theorem dX9_odds_41 : decode cX9_odds 41 = .ok (.iload 4, 2) := by decide +kernel
theorem dX9_odds_43 : decode cX9_odds 43 = .ok (.bipush 21, 2) := by decide +kernel
theorem dX9_odds_45 : decode cX9_odds 45 = .ok (.if_icmp .ge 28, 3) := by decide +kernel
theorem dX9_odds_48 : decode cX9_odds 48 = .ok (.aload_n 0, 1) := by decide +kernel
theorem dX9_odds_49 : decode cX9_odds 49 = .ok (.getfield 76, 3) := by decide +kernel
theorem dX9_odds_52 : decode cX9_odds 52 = .ok (.iload 4, 2) := by decide +kernel
theorem dX9_odds_54 : decode cX9_odds 54 = .ok (.iload 4, 2) := by decide +kernel
theorem dX9_odds_56 : decode cX9_odds 56 = .ok (.bipush 10, 2) := by decide +kernel
theorem dX9_odds_58 : decode cX9_odds 58 = .ok (.if_icmp .ne 7, 3) := by decide +kernel
theorem dX9_odds_61 : decode cX9_odds 61 = .ok (.lconst 1, 1) := by decide +kernel
theorem dX9_odds_62 : decode cX9_odds 62 = .ok (.goto 4, 3) := by decide +kernel
theorem dX9_odds_65 : decode cX9_odds 65 = .ok (.lconst 0, 1) := by decide +kernel
theorem dX9_odds_66 : decode cX9_odds 66 = .ok (.lastore, 1) := by decide +kernel
theorem dX9_odds_67 : decode cX9_odds 67 = .ok (.iinc 4 1, 3) := by decide +kernel
theorem dX9_odds_70 : decode cX9_odds 70 = .ok (.goto (-29), 3) := by decide +kernel
theorem dX9_odds_73 : decode cX9_odds 73 = .ok (.lconst 1, 1) := by decide +kernel
theorem dX9_odds_74 : decode cX9_odds 74 = .ok (.lstore 4, 2) := by decide +kernel
theorem dX9_odds_76 : decode cX9_odds 76 = .ok (.iconst 0, 1) := by decide +kernel
theorem dX9_odds_77 : decode cX9_odds 77 = .ok (.istore 6, 2) := by decide +kernel
theorem dX9_odds_79 : decode cX9_odds 79 = .ok (.iload 6, 2) := by decide +kernel
theorem dX9_odds_81 : decode cX9_odds 81 = .ok (.iload_n 1, 1) := by decide +kernel
theorem dX9_odds_82 : decode cX9_odds 82 = .ok (.if_icmp .ge 98, 3) := by decide +kernel
theorem dX9_odds_85 : decode cX9_odds 85 = .ok (.iconst 1, 1) := by decide +kernel
theorem dX9_odds_86 : decode cX9_odds 86 = .ok (.istore 7, 2) := by decide +kernel
theorem dX9_odds_88 : decode cX9_odds 88 = .ok (.iload 7, 2) := by decide +kernel
theorem dX9_odds_90 : decode cX9_odds 90 = .ok (.bipush 20, 2) := by decide +kernel
theorem dX9_odds_92 : decode cX9_odds 92 = .ok (.if_icmp .ge 44, 3) := by decide +kernel
theorem dX9_odds_95 : decode cX9_odds 95 = .ok (.aload_n 0, 1) := by decide +kernel
theorem dX9_odds_96 : decode cX9_odds 96 = .ok (.getfield 80, 3) := by decide +kernel
theorem dX9_odds_99 : decode cX9_odds 99 = .ok (.iload 7, 2) := by decide +kernel
theorem dX9_odds_101 : decode cX9_odds 101 = .ok (.aload_n 0, 1) := by decide +kernel
theorem dX9_odds_102 : decode cX9_odds 102 = .ok (.getfield 76, 3) := by decide +kernel
theorem dX9_odds_105 : decode cX9_odds 105 = .ok (.iload 7, 2) := by decide +kernel
theorem dX9_odds_107 : decode cX9_odds 107 = .ok (.iconst 1, 1) := by decide +kernel
theorem dX9_odds_108 : decode cX9_odds 108 = .ok (.isub, 1) := by decide +kernel
theorem dX9_odds_109 : decode cX9_odds 109 = .ok (.laload, 1) := by decide +kernel
theorem dX9_odds_110 : decode cX9_odds 110 = .ok (.iload_n 2, 1) := by decide +kernel
theorem dX9_odds_111 : decode cX9_odds 111 = .ok (.i2l, 1) := by decide +kernel
theorem dX9_odds_112 : decode cX9_odds 112 = .ok (.lmul, 1) := by decide +kernel
theorem dX9_odds_113 : decode cX9_odds 113 = .ok (.aload_n 0, 1) := by decide +kernel
theorem dX9_odds_114 : decode cX9_odds 114 = .ok (.getfield 76, 3) := by decide +kernel
theorem dX9_odds_117 : decode cX9_odds 117 = .ok (.iload 7, 2) := by decide +kernel
theorem dX9_odds_119 : decode cX9_odds 119 = .ok (.iconst 1, 1) := by decide +kernel
theorem dX9_odds_120 : decode cX9_odds 120 = .ok (.iadd, 1) := by decide +kernel
theorem dX9_odds_121 : decode cX9_odds 121 = .ok (.laload, 1) := by decide +kernel
theorem dX9_odds_122 : decode cX9_odds 122 = .ok (.bipush 10, 2) := by decide +kernel
theorem dX9_odds_124 : decode cX9_odds 124 = .ok (.iload_n 2, 1) := by decide +kernel
theorem dX9_odds_125 : decode cX9_odds 125 = .ok (.isub, 1) := by decide +kernel
theorem dX9_odds_126 : decode cX9_odds 126 = .ok (.i2l, 1) := by decide +kernel
theorem dX9_odds_127 : decode cX9_odds 127 = .ok (.lmul, 1) := by decide +kernel
theorem dX9_odds_128 : decode cX9_odds 128 = .ok (.ladd, 1) := by decide +kernel
theorem dX9_odds_129 : decode cX9_odds 129 = .ok (.lastore, 1) := by decide +kernel
theorem dX9_odds_130 : decode cX9_odds 130 = .ok (.iinc 7 1, 3) := by decide +kernel
theorem dX9_odds_133 : decode cX9_odds 133 = .ok (.goto (-45), 3) := by decide +kernel
theorem dX9_odds_136 : decode cX9_odds 136 = .ok (.iconst 1, 1) := by decide +kernel
theorem dX9_odds_137 : decode cX9_odds 137 = .ok (.istore 7, 2) := by decide +kernel
theorem dX9_odds_139 : decode cX9_odds 139 = .ok (.iload 7, 2) := by decide +kernel
theorem dX9_odds_141 : decode cX9_odds 141 = .ok (.bipush 20, 2) := by decide +kernel
theorem dX9_odds_143 : decode cX9_odds 143 = .ok (.if_icmp .ge 23, 3) := by decide +kernel
theorem dX9_odds_146 : decode cX9_odds 146 = .ok (.aload_n 0, 1) := by decide +kernel
theorem dX9_odds_147 : decode cX9_odds 147 = .ok (.getfield 76, 3) := by decide +kernel
theorem dX9_odds_150 : decode cX9_odds 150 = .ok (.iload 7, 2) := by decide +kernel
theorem dX9_odds_152 : decode cX9_odds 152 = .ok (.aload_n 0, 1) := by decide +kernel
theorem dX9_odds_153 : decode cX9_odds 153 = .ok (.getfield 80, 3) := by decide +kernel
theorem dX9_odds_156 : decode cX9_odds 156 = .ok (.iload 7, 2) := by decide +kernel
theorem dX9_odds_158 : decode cX9_odds 158 = .ok (.laload, 1) := by decide +kernel
theorem dX9_odds_159 : decode cX9_odds 159 = .ok (.lastore, 1) := by decide +kernel
theorem dX9_odds_160 : decode cX9_odds 160 = .ok (.iinc 7 1, 3) := by decide +kernel
theorem dX9_odds_163 : decode cX9_odds 163 = .ok (.goto (-24), 3) := by decide +kernel
theorem dX9_odds_166 : decode cX9_odds 166 = .ok (.lload 4, 2) := by decide +kernel
theorem dX9_odds_168 : decode cX9_odds 168 = .ok (.ldc2_w 223, 3) := by decide +kernel
theorem dX9_odds_171 : decode cX9_odds 171 = .ok (.lmul, 1) := by decide +kernel
theorem dX9_odds_172 : decode cX9_odds 172 = .ok (.lstore 4, 2) := by decide +kernel
theorem dX9_odds_174 : decode cX9_odds 174 = .ok (.iinc 6 1, 3) := by decide +kernel
theorem dX9_odds_177 : decode cX9_odds 177 = .ok (.goto (-98), 3) := by decide +kernel
theorem dX9_odds_180 : decode cX9_odds 180 = .ok (.lconst 0, 1) := by decide +kernel
theorem dX9_odds_181 : decode cX9_odds 181 = .ok (.lstore 6, 2) := by decide +kernel
theorem dX9_odds_183 : decode cX9_odds 183 = .ok (.bipush 10, 2) := by decide +kernel
theorem dX9_odds_185 : decode cX9_odds 185 = .ok (.istore 8, 2) := by decide +kernel
theorem dX9_odds_187 : decode cX9_odds 187 = .ok (.iload 8, 2) := by decide +kernel
theorem dX9_odds_189 : decode cX9_odds 189 = .ok (.bipush 20, 2) := by decide +kernel
theorem dX9_odds_191 : decode cX9_odds 191 = .ok (.if_icmp .ge 21, 3) := by decide +kernel
theorem dX9_odds_194 : decode cX9_odds 194 = .ok (.lload 6, 2) := by decide +kernel
theorem dX9_odds_196 : decode cX9_odds 196 = .ok (.aload_n 0, 1) := by decide +kernel
theorem dX9_odds_197 : decode cX9_odds 197 = .ok (.getfield 76, 3) := by decide +kernel
theorem dX9_odds_200 : decode cX9_odds 200 = .ok (.iload 8, 2) := by decide +kernel
theorem dX9_odds_202 : decode cX9_odds 202 = .ok (.laload, 1) := by decide +kernel
theorem dX9_odds_203 : decode cX9_odds 203 = .ok (.ladd, 1) := by decide +kernel
theorem dX9_odds_204 : decode cX9_odds 204 = .ok (.lstore 6, 2) := by decide +kernel
theorem dX9_odds_206 : decode cX9_odds 206 = .ok (.iinc 8 1, 3) := by decide +kernel
theorem dX9_odds_209 : decode cX9_odds 209 = .ok (.goto (-22), 3) := by decide +kernel
theorem dX9_odds_212 : decode cX9_odds 212 = .ok (.lload 6, 2) := by decide +kernel
theorem dX9_odds_214 : decode cX9_odds 214 = .ok (.lstore 8, 2) := by decide +kernel
theorem dX9_odds_216 : decode cX9_odds 216 = .ok (.lload 4, 2) := by decide +kernel
theorem dX9_odds_218 : decode cX9_odds 218 = .ok (.lstore 10, 2) := by decide +kernel
theorem dX9_odds_220 : decode cX9_odds 220 = .ok (.lload 10, 2) := by decide +kernel
theorem dX9_odds_222 : decode cX9_odds 222 = .ok (.lconst 0, 1) := by decide +kernel
theorem dX9_odds_223 : decode cX9_odds 223 = .ok (.lcmp, 1) := by decide +kernel
theorem dX9_odds_224 : decode cX9_odds 224 = .ok (.ifCond .eq 21, 3) := by decide +kernel
theorem dX9_odds_227 : decode cX9_odds 227 = .ok (.lload 8, 2) := by decide +kernel
theorem dX9_odds_229 : decode cX9_odds 229 = .ok (.lload 10, 2) := by decide +kernel
theorem dX9_odds_231 : decode cX9_odds 231 = .ok (.lrem, 1) := by decide +kernel
theorem dX9_odds_232 : decode cX9_odds 232 = .ok (.lstore 12, 2) := by decide +kernel
theorem dX9_odds_234 : decode cX9_odds 234 = .ok (.lload 10, 2) := by decide +kernel
theorem dX9_odds_236 : decode cX9_odds 236 = .ok (.lstore 8, 2) := by decide +kernel
theorem dX9_odds_238 : decode cX9_odds 238 = .ok (.lload 12, 2) := by decide +kernel
theorem dX9_odds_240 : decode cX9_odds 240 = .ok (.lstore 10, 2) := by decide +kernel
theorem dX9_odds_242 : decode cX9_odds 242 = .ok (.goto (-22), 3) := by decide +kernel
theorem dX9_odds_245 : decode cX9_odds 245 = .ok (.iload_n 3, 1) := by decide +kernel
theorem dX9_odds_246 : decode cX9_odds 246 = .ok (.ifCond .ne 11, 3) := by decide +kernel
theorem dX9_odds_249 : decode cX9_odds 249 = .ok (.lload 6, 2) := by decide +kernel
theorem dX9_odds_251 : decode cX9_odds 251 = .ok (.lload 8, 2) := by decide +kernel
theorem dX9_odds_253 : decode cX9_odds 253 = .ok (.ldiv, 1) := by decide +kernel
theorem dX9_odds_254 : decode cX9_odds 254 = .ok (.goto 8, 3) := by decide +kernel
theorem dX9_odds_257 : decode cX9_odds 257 = .ok (.lload 4, 2) := by decide +kernel
theorem dX9_odds_259 : decode cX9_odds 259 = .ok (.lload 8, 2) := by decide +kernel
theorem dX9_odds_261 : decode cX9_odds 261 = .ok (.ldiv, 1) := by decide +kernel
theorem dX9_odds_262 : decode cX9_odds 262 = .ok (.lreturn, 1) := by decide +kernel
theorem dX9_year_0 : decode cX9_year 0 = .ok (.iload_n 1, 1) := by decide +kernel
theorem dX9_year_1 : decode cX9_year 1 = .ok (.i2l, 1) := by decide +kernel
theorem dX9_year_2 : decode cX9_year 2 = .ok (.lconst 0, 1) := by decide +kernel
theorem dX9_year_3 : decode cX9_year 3 = .ok (.ldc2_w 227, 3) := by decide +kernel
theorem dX9_year_6 : decode cX9_year 6 = .ok (.invokestatic 92, 3) := by decide +kernel
theorem dX9_year_9 : decode cX9_year 9 = .ok (.ifCond .eq 15, 3) := by decide +kernel
theorem dX9_year_12 : decode cX9_year 12 = .ok (.iload_n 2, 1) := by decide +kernel
theorem dX9_year_13 : decode cX9_year 13 = .ok (.i2l, 1) := by decide +kernel
theorem dX9_year_14 : decode cX9_year 14 = .ok (.lconst 0, 1) := by decide +kernel
theorem dX9_year_15 : decode cX9_year 15 = .ok (.ldc2_w 113, 3) := by decide +kernel
theorem dX9_year_18 : decode cX9_year 18 = .ok (.invokestatic 92, 3) := by decide +kernel
theorem dX9_year_21 : decode cX9_year 21 = .ok (.ifCond .ne 5, 3) := by decide +kernel
theorem dX9_year_24 : decode cX9_year 24 = .ok (.iconst (-1), 1) := by decide +kernel
theorem dX9_year_25 : decode cX9_year 25 = .ok (.ireturn, 1) := by decide +kernel
theorem dX9_year_26 : decode cX9_year 26 = .ok (.iconst 0, 1) := by decide +kernel
theorem dX9_year_27 : decode cX9_year 27 = .ok (.istore_n 3, 1) := by decide +kernel
theorem dX9_year_28 : decode cX9_year 28 = .ok (.iload_n 3, 1) := by decide +kernel
theorem dX9_year_29 : decode cX9_year 29 = .ok (.aload_n 0, 1) := by decide +kernel
theorem dX9_year_30 : decode cX9_year 30 = .ok (.getfield 40, 3) := by decide +kernel
theorem dX9_year_33 : decode cX9_year 33 = .ok (.iconst 0, 1) := by decide +kernel
theorem dX9_year_34 : decode cX9_year 34 = .ok (.iaload, 1) := by decide +kernel
theorem dX9_year_35 : decode cX9_year 35 = .ok (.if_icmp .ge 58, 3) := by decide +kernel
theorem dX9_year_38 : decode cX9_year 38 = .ok (.ldc2_w 229, 3) := by decide +kernel
theorem dX9_year_41 : decode cX9_year 41 = .ok (.iload_n 1, 1) := by decide +kernel
theorem dX9_year_42 : decode cX9_year 42 = .ok (.i2l, 1) := by decide +kernel
theorem dX9_year_43 : decode cX9_year 43 = .ok (.lmul, 1) := by decide +kernel
theorem dX9_year_44 : decode cX9_year 44 = .ok (.ldc2_w 231, 3) := by decide +kernel
theorem dX9_year_47 : decode cX9_year 47 = .ok (.iload_n 3, 1) := by decide +kernel
theorem dX9_year_48 : decode cX9_year 48 = .ok (.i2l, 1) := by decide +kernel
theorem dX9_year_49 : decode cX9_year 49 = .ok (.lmul, 1) := by decide +kernel
theorem dX9_year_50 : decode cX9_year 50 = .ok (.ladd, 1) := by decide +kernel
theorem dX9_year_51 : decode cX9_year 51 = .ok (.lconst 1, 1) := by decide +kernel
theorem dX9_year_52 : decode cX9_year 52 = .ok (.ladd, 1) := by decide +kernel
theorem dX9_year_53 : decode cX9_year 53 = .ok (.lstore 4, 2) := by decide +kernel
theorem dX9_year_55 : decode cX9_year 55 = .ok (.aload_n 0, 1) := by decide +kernel
theorem dX9_year_56 : decode cX9_year 56 = .ok (.getfield 83, 3) := by decide +kernel
theorem dX9_year_59 : decode cX9_year 59 = .ok (.iload_n 3, 1) := by decide +kernel
theorem dX9_year_60 : decode cX9_year 60 = .ok (.aload_n 0, 1) := by decide +kernel
theorem dX9_year_61 : decode cX9_year 61 = .ok (.getfield 46, 3) := by decide +kernel
theorem dX9_year_64 : decode cX9_year 64 = .ok (.iload_n 3, 1) := by decide +kernel
theorem dX9_year_65 : decode cX9_year 65 = .ok (.iaload, 1) := by decide +kernel
theorem dX9_year_66 : decode cX9_year 66 = .ok (.iastore, 1) := by decide +kernel
theorem dX9_year_67 : decode cX9_year 67 = .ok (.aload_n 0, 1) := by decide +kernel
theorem dX9_year_68 : decode cX9_year 68 = .ok (.getfield 46, 3) := by decide +kernel
theorem dX9_year_71 : decode cX9_year 71 = .ok (.iload_n 3, 1) := by decide +kernel
theorem dX9_year_72 : decode cX9_year 72 = .ok (.lload 4, 2) := by decide +kernel
theorem dX9_year_74 : decode cX9_year 74 = .ok (.lload 4, 2) := by decide +kernel
theorem dX9_year_76 : decode cX9_year 76 = .ok (.lmul, 1) := by decide +kernel
theorem dX9_year_77 : decode cX9_year 77 = .ok (.ldc2_w 233, 3) := by decide +kernel
theorem dX9_year_80 : decode cX9_year 80 = .ok (.lrem, 1) := by decide +kernel
theorem dX9_year_81 : decode cX9_year 81 = .ok (.ldc2_w 235, 3) := by decide +kernel
theorem dX9_year_84 : decode cX9_year 84 = .ok (.lrem, 1) := by decide +kernel
theorem dX9_year_85 : decode cX9_year 85 = .ok (.l2i, 1) := by decide +kernel
theorem dX9_year_86 : decode cX9_year 86 = .ok (.iastore, 1) := by decide +kernel
theorem dX9_year_87 : decode cX9_year 87 = .ok (.iinc 3 1, 3) := by decide +kernel
theorem dX9_year_90 : decode cX9_year 90 = .ok (.goto (-62), 3) := by decide +kernel
theorem dX9_year_93 : decode cX9_year 93 = .ok (.aload_n 0, 1) := by decide +kernel
theorem dX9_year_94 : decode cX9_year 94 = .ok (.iconst 0, 1) := by decide +kernel
theorem dX9_year_95 : decode cX9_year 95 = .ok (.invokevirtual 185, 3) := by decide +kernel
theorem dX9_year_98 : decode cX9_year 98 = .ok (.iload_n 2, 1) := by decide +kernel
theorem dX9_year_99 : decode cX9_year 99 = .ok (.ifCond .ne 11, 3) := by decide +kernel
theorem dX9_year_102 : decode cX9_year 102 = .ok (.aload_n 0, 1) := by decide +kernel
theorem dX9_year_103 : decode cX9_year 103 = .ok (.iconst 0, 1) := by decide +kernel
theorem dX9_year_104 : decode cX9_year 104 = .ok (.invokevirtual 198, 3) := by decide +kernel
theorem dX9_year_107 : decode cX9_year 107 = .ok (.goto 21, 3) := by decide +kernel
theorem dX9_year_110 : decode cX9_year 110 = .ok (.iload_n 2, 1) := by decide +kernel
theorem dX9_year_111 : decode cX9_year 111 = .ok (.iconst 1, 1) := by decide +kernel
theorem dX9_year_112 : decode cX9_year 112 = .ok (.if_icmp .ne 10, 3) := by decide +kernel
theorem dX9_year_115 : decode cX9_year 115 = .ok (.aload_n 0, 1) := by decide +kernel
theorem dX9_year_116 : decode cX9_year 116 = .ok (.invokevirtual 201, 3) := by decide +kernel
theorem dX9_year_119 : decode cX9_year 119 = .ok (.goto 9, 3) := by decide +kernel
theorem dX9_year_122 : decode cX9_year 122 = .ok (.aload_n 0, 1) := by decide +kernel
theorem dX9_year_123 : decode cX9_year 123 = .ok (.bipush 40, 2) := by decide +kernel
theorem dX9_year_125 : decode cX9_year 125 = .ok (.invokevirtual 158, 3) := by decide +kernel
theorem dX9_year_128 : decode cX9_year 128 = .ok (.istore_n 3, 1) := by decide +kernel
theorem dX9_year_129 : decode cX9_year 129 = .ok (.iconst 0, 1) := by decide +kernel
theorem dX9_year_130 : decode cX9_year 130 = .ok (.istore 4, 2) := by decide +kernel
theorem dX9_year_132 : decode cX9_year 132 = .ok (.iload 4, 2) := by decide +kernel
theorem dX9_year_134 : decode cX9_year 134 = .ok (.aload_n 0, 1) := by decide +kernel
theorem dX9_year_135 : decode cX9_year 135 = .ok (.getfield 40, 3) := by decide +kernel
theorem dX9_year_138 : decode cX9_year 138 = .ok (.iconst 0, 1) := by decide +kernel
theorem dX9_year_139 : decode cX9_year 139 = .ok (.iaload, 1) := by decide +kernel
theorem dX9_year_140 : decode cX9_year 140 = .ok (.if_icmp .ge 23, 3) := by decide +kernel
theorem dX9_year_143 : decode cX9_year 143 = .ok (.aload_n 0, 1) := by decide +kernel
theorem dX9_year_144 : decode cX9_year 144 = .ok (.getfield 46, 3) := by decide +kernel
theorem dX9_year_147 : decode cX9_year 147 = .ok (.iload 4, 2) := by decide +kernel
theorem dX9_year_149 : decode cX9_year 149 = .ok (.aload_n 0, 1) := by decide +kernel
theorem dX9_year_150 : decode cX9_year 150 = .ok (.getfield 83, 3) := by decide +kernel
theorem dX9_year_153 : decode cX9_year 153 = .ok (.iload 4, 2) := by decide +kernel
theorem dX9_year_155 : decode cX9_year 155 = .ok (.iaload, 1) := by decide +kernel
theorem dX9_year_156 : decode cX9_year 156 = .ok (.iastore, 1) := by decide +kernel
theorem dX9_year_157 : decode cX9_year 157 = .ok (.iinc 4 1, 3) := by decide +kernel
theorem dX9_year_160 : decode cX9_year 160 = .ok (.goto (-28), 3) := by decide +kernel
theorem dX9_year_163 : decode cX9_year 163 = .ok (.iload_n 3, 1) := by decide +kernel
theorem dX9_year_164 : decode cX9_year 164 = .ok (.ireturn, 1) := by decide +kernel
theorem dX9_keep_0 : decode cX9_keep 0 = .ok (.aload_n 0, 1) := by decide +kernel
theorem dX9_keep_1 : decode cX9_keep 1 = .ok (.getfield 135, 3) := by decide +kernel
theorem dX9_keep_4 : decode cX9_keep 4 = .ok (.iconst 2, 1) := by decide +kernel
theorem dX9_keep_5 : decode cX9_keep 5 = .ok (.if_icmp .ne 6, 3) := by decide +kernel
theorem dX9_keep_8 : decode cX9_keep 8 = .ok (.bipush (-3), 2) := by decide +kernel
theorem dX9_keep_10 : decode cX9_keep 10 = .ok (.ireturn, 1) := by decide +kernel
theorem dX9_keep_11 : decode cX9_keep 11 = .ok (.aload_n 0, 1) := by decide +kernel
theorem dX9_keep_12 : decode cX9_keep 12 = .ok (.dup, 1) := by decide +kernel
theorem dX9_keep_13 : decode cX9_keep 13 = .ok (.getfield 135, 3) := by decide +kernel
theorem dX9_keep_16 : decode cX9_keep 16 = .ok (.iconst 1, 1) := by decide +kernel
theorem dX9_keep_17 : decode cX9_keep 17 = .ok (.iadd, 1) := by decide +kernel
theorem dX9_keep_18 : decode cX9_keep 18 = .ok (.putfield 135, 3) := by decide +kernel
theorem dX9_keep_21 : decode cX9_keep 21 = .ok (.aload_n 0, 1) := by decide +kernel
theorem dX9_keep_22 : decode cX9_keep 22 = .ok (.iconst 0, 1) := by decide +kernel
theorem dX9_keep_23 : decode cX9_keep 23 = .ok (.iconst 1, 1) := by decide +kernel
theorem dX9_keep_24 : decode cX9_keep 24 = .ok (.aload_n 0, 1) := by decide +kernel
theorem dX9_keep_25 : decode cX9_keep 25 = .ok (.getfield 135, 3) := by decide +kernel
theorem dX9_keep_28 : decode cX9_keep 28 = .ok (.iadd, 1) := by decide +kernel
theorem dX9_keep_29 : decode cX9_keep 29 = .ok (.invokevirtual 131, 3) := by decide +kernel
theorem dX9_keep_32 : decode cX9_keep 32 = .ok (.aload_n 0, 1) := by decide +kernel
theorem dX9_keep_33 : decode cX9_keep 33 = .ok (.getfield 135, 3) := by decide +kernel
theorem dX9_keep_36 : decode cX9_keep 36 = .ok (.ireturn, 1) := by decide +kernel
theorem dX9_back_0 : decode cX9_back 0 = .ok (.aload_n 0, 1) := by decide +kernel
theorem dX9_back_1 : decode cX9_back 1 = .ok (.getfield 135, 3) := by decide +kernel
theorem dX9_back_4 : decode cX9_back 4 = .ok (.ifCond .ne 6, 3) := by decide +kernel
theorem dX9_back_7 : decode cX9_back 7 = .ok (.bipush (-2), 2) := by decide +kernel
theorem dX9_back_9 : decode cX9_back 9 = .ok (.ireturn, 1) := by decide +kernel
theorem dX9_back_10 : decode cX9_back 10 = .ok (.aload_n 0, 1) := by decide +kernel
theorem dX9_back_11 : decode cX9_back 11 = .ok (.iconst 1, 1) := by decide +kernel
theorem dX9_back_12 : decode cX9_back 12 = .ok (.aload_n 0, 1) := by decide +kernel
theorem dX9_back_13 : decode cX9_back 13 = .ok (.getfield 135, 3) := by decide +kernel
theorem dX9_back_16 : decode cX9_back 16 = .ok (.iadd, 1) := by decide +kernel
theorem dX9_back_17 : decode cX9_back 17 = .ok (.iconst 0, 1) := by decide +kernel
theorem dX9_back_18 : decode cX9_back 18 = .ok (.invokevirtual 131, 3) := by decide +kernel
theorem dX9_back_21 : decode cX9_back 21 = .ok (.aload_n 0, 1) := by decide +kernel
theorem dX9_back_22 : decode cX9_back 22 = .ok (.dup, 1) := by decide +kernel
theorem dX9_back_23 : decode cX9_back 23 = .ok (.getfield 135, 3) := by decide +kernel
theorem dX9_back_26 : decode cX9_back 26 = .ok (.iconst 1, 1) := by decide +kernel
theorem dX9_back_27 : decode cX9_back 27 = .ok (.isub, 1) := by decide +kernel
theorem dX9_back_28 : decode cX9_back 28 = .ok (.putfield 135, 3) := by decide +kernel
theorem dX9_back_31 : decode cX9_back 31 = .ok (.aload_n 0, 1) := by decide +kernel
theorem dX9_back_32 : decode cX9_back 32 = .ok (.iconst 0, 1) := by decide +kernel
theorem dX9_back_33 : decode cX9_back 33 = .ok (.putfield 138, 3) := by decide +kernel
theorem dX9_back_36 : decode cX9_back 36 = .ok (.aload_n 0, 1) := by decide +kernel
theorem dX9_back_37 : decode cX9_back 37 = .ok (.getfield 135, 3) := by decide +kernel
theorem dX9_back_40 : decode cX9_back 40 = .ok (.ireturn, 1) := by decide +kernel
theorem dX9_count_0 : decode cX9_count 0 = .ok (.iload_n 1, 1) := by decide +kernel
theorem dX9_count_1 : decode cX9_count 1 = .ok (.tableswitch 86 0 6 #[43, 50, 57, 64, 71, 76, 81], 43) := by decide +kernel
theorem dX9_count_44 : decode cX9_count 44 = .ok (.aload_n 0, 1) := by decide +kernel
theorem dX9_count_45 : decode cX9_count 45 = .ok (.getfield 40, 3) := by decide +kernel
theorem dX9_count_48 : decode cX9_count 48 = .ok (.iconst 0, 1) := by decide +kernel
theorem dX9_count_49 : decode cX9_count 49 = .ok (.iaload, 1) := by decide +kernel
theorem dX9_count_50 : decode cX9_count 50 = .ok (.ireturn, 1) := by decide +kernel
theorem dX9_count_51 : decode cX9_count 51 = .ok (.aload_n 0, 1) := by decide +kernel
theorem dX9_count_52 : decode cX9_count 52 = .ok (.getfield 19, 3) := by decide +kernel
theorem dX9_count_55 : decode cX9_count 55 = .ok (.iconst 0, 1) := by decide +kernel
theorem dX9_count_56 : decode cX9_count 56 = .ok (.iaload, 1) := by decide +kernel
theorem dX9_count_57 : decode cX9_count 57 = .ok (.ireturn, 1) := by decide +kernel
theorem dX9_count_58 : decode cX9_count 58 = .ok (.aload_n 0, 1) := by decide +kernel
theorem dX9_count_59 : decode cX9_count 59 = .ok (.getfield 13, 3) := by decide +kernel
theorem dX9_count_62 : decode cX9_count 62 = .ok (.iconst 0, 1) := by decide +kernel
theorem dX9_count_63 : decode cX9_count 63 = .ok (.iaload, 1) := by decide +kernel
theorem dX9_count_64 : decode cX9_count 64 = .ok (.ireturn, 1) := by decide +kernel
theorem dX9_count_65 : decode cX9_count 65 = .ok (.aload_n 0, 1) := by decide +kernel
theorem dX9_count_66 : decode cX9_count 66 = .ok (.getfield 16, 3) := by decide +kernel
theorem dX9_count_69 : decode cX9_count 69 = .ok (.iconst 0, 1) := by decide +kernel
theorem dX9_count_70 : decode cX9_count 70 = .ok (.iaload, 1) := by decide +kernel
theorem dX9_count_71 : decode cX9_count 71 = .ok (.ireturn, 1) := by decide +kernel
theorem dX9_count_72 : decode cX9_count 72 = .ok (.aload_n 0, 1) := by decide +kernel
theorem dX9_count_73 : decode cX9_count 73 = .ok (.getfield 138, 3) := by decide +kernel
theorem dX9_count_76 : decode cX9_count 76 = .ok (.ireturn, 1) := by decide +kernel
theorem dX9_count_77 : decode cX9_count 77 = .ok (.aload_n 0, 1) := by decide +kernel
theorem dX9_count_78 : decode cX9_count 78 = .ok (.getfield 135, 3) := by decide +kernel
theorem dX9_count_81 : decode cX9_count 81 = .ok (.ireturn, 1) := by decide +kernel
theorem dX9_count_82 : decode cX9_count 82 = .ok (.aload_n 0, 1) := by decide +kernel
theorem dX9_count_83 : decode cX9_count 83 = .ok (.getfield 96, 3) := by decide +kernel
theorem dX9_count_86 : decode cX9_count 86 = .ok (.ireturn, 1) := by decide +kernel
theorem dX9_count_87 : decode cX9_count 87 = .ok (.iconst (-1), 1) := by decide +kernel
theorem dX9_count_88 : decode cX9_count 88 = .ok (.ireturn, 1) := by decide +kernel
theorem dJ6_bitCount_0f7a4_0 : decode cJ6_bitCount_0f7a4 0 = .ok (.iload_n 0, 1) := by decide +kernel
theorem dJ6_bitCount_0f7a4_1 : decode cJ6_bitCount_0f7a4 1 = .ok (.iload_n 0, 1) := by decide +kernel
theorem dJ6_bitCount_0f7a4_2 : decode cJ6_bitCount_0f7a4 2 = .ok (.iconst 1, 1) := by decide +kernel
theorem dJ6_bitCount_0f7a4_3 : decode cJ6_bitCount_0f7a4 3 = .ok (.iushr, 1) := by decide +kernel
theorem dJ6_bitCount_0f7a4_4 : decode cJ6_bitCount_0f7a4 4 = .ok (.ldc_w 265, 3) := by decide +kernel
theorem dJ6_bitCount_0f7a4_7 : decode cJ6_bitCount_0f7a4 7 = .ok (.iand, 1) := by decide +kernel
theorem dJ6_bitCount_0f7a4_8 : decode cJ6_bitCount_0f7a4 8 = .ok (.isub, 1) := by decide +kernel
theorem dJ6_bitCount_0f7a4_9 : decode cJ6_bitCount_0f7a4 9 = .ok (.istore_n 0, 1) := by decide +kernel
theorem dJ6_bitCount_0f7a4_10 : decode cJ6_bitCount_0f7a4 10 = .ok (.iload_n 0, 1) := by decide +kernel
theorem dJ6_bitCount_0f7a4_11 : decode cJ6_bitCount_0f7a4 11 = .ok (.ldc_w 266, 3) := by decide +kernel
theorem dJ6_bitCount_0f7a4_14 : decode cJ6_bitCount_0f7a4 14 = .ok (.iand, 1) := by decide +kernel
theorem dJ6_bitCount_0f7a4_15 : decode cJ6_bitCount_0f7a4 15 = .ok (.iload_n 0, 1) := by decide +kernel
theorem dJ6_bitCount_0f7a4_16 : decode cJ6_bitCount_0f7a4 16 = .ok (.iconst 2, 1) := by decide +kernel
theorem dJ6_bitCount_0f7a4_17 : decode cJ6_bitCount_0f7a4 17 = .ok (.iushr, 1) := by decide +kernel
theorem dJ6_bitCount_0f7a4_18 : decode cJ6_bitCount_0f7a4 18 = .ok (.ldc_w 266, 3) := by decide +kernel
theorem dJ6_bitCount_0f7a4_21 : decode cJ6_bitCount_0f7a4 21 = .ok (.iand, 1) := by decide +kernel
theorem dJ6_bitCount_0f7a4_22 : decode cJ6_bitCount_0f7a4 22 = .ok (.iadd, 1) := by decide +kernel
theorem dJ6_bitCount_0f7a4_23 : decode cJ6_bitCount_0f7a4 23 = .ok (.istore_n 0, 1) := by decide +kernel
theorem dJ6_bitCount_0f7a4_24 : decode cJ6_bitCount_0f7a4 24 = .ok (.iload_n 0, 1) := by decide +kernel
theorem dJ6_bitCount_0f7a4_25 : decode cJ6_bitCount_0f7a4 25 = .ok (.iload_n 0, 1) := by decide +kernel
theorem dJ6_bitCount_0f7a4_26 : decode cJ6_bitCount_0f7a4 26 = .ok (.iconst 4, 1) := by decide +kernel
theorem dJ6_bitCount_0f7a4_27 : decode cJ6_bitCount_0f7a4 27 = .ok (.iushr, 1) := by decide +kernel
theorem dJ6_bitCount_0f7a4_28 : decode cJ6_bitCount_0f7a4 28 = .ok (.iadd, 1) := by decide +kernel
theorem dJ6_bitCount_0f7a4_29 : decode cJ6_bitCount_0f7a4 29 = .ok (.ldc_w 267, 3) := by decide +kernel
theorem dJ6_bitCount_0f7a4_32 : decode cJ6_bitCount_0f7a4 32 = .ok (.iand, 1) := by decide +kernel
theorem dJ6_bitCount_0f7a4_33 : decode cJ6_bitCount_0f7a4 33 = .ok (.istore_n 0, 1) := by decide +kernel
theorem dJ6_bitCount_0f7a4_34 : decode cJ6_bitCount_0f7a4 34 = .ok (.iload_n 0, 1) := by decide +kernel
theorem dJ6_bitCount_0f7a4_35 : decode cJ6_bitCount_0f7a4 35 = .ok (.iload_n 0, 1) := by decide +kernel
theorem dJ6_bitCount_0f7a4_36 : decode cJ6_bitCount_0f7a4 36 = .ok (.bipush 8, 2) := by decide +kernel
theorem dJ6_bitCount_0f7a4_38 : decode cJ6_bitCount_0f7a4 38 = .ok (.iushr, 1) := by decide +kernel
theorem dJ6_bitCount_0f7a4_39 : decode cJ6_bitCount_0f7a4 39 = .ok (.iadd, 1) := by decide +kernel
theorem dJ6_bitCount_0f7a4_40 : decode cJ6_bitCount_0f7a4 40 = .ok (.istore_n 0, 1) := by decide +kernel
theorem dJ6_bitCount_0f7a4_41 : decode cJ6_bitCount_0f7a4 41 = .ok (.iload_n 0, 1) := by decide +kernel
theorem dJ6_bitCount_0f7a4_42 : decode cJ6_bitCount_0f7a4 42 = .ok (.iload_n 0, 1) := by decide +kernel
theorem dJ6_bitCount_0f7a4_43 : decode cJ6_bitCount_0f7a4 43 = .ok (.bipush 16, 2) := by decide +kernel
theorem dJ6_bitCount_0f7a4_45 : decode cJ6_bitCount_0f7a4 45 = .ok (.iushr, 1) := by decide +kernel
theorem dJ6_bitCount_0f7a4_46 : decode cJ6_bitCount_0f7a4 46 = .ok (.iadd, 1) := by decide +kernel
theorem dJ6_bitCount_0f7a4_47 : decode cJ6_bitCount_0f7a4 47 = .ok (.istore_n 0, 1) := by decide +kernel
theorem dJ6_bitCount_0f7a4_48 : decode cJ6_bitCount_0f7a4 48 = .ok (.iload_n 0, 1) := by decide +kernel
theorem dJ6_bitCount_0f7a4_49 : decode cJ6_bitCount_0f7a4 49 = .ok (.bipush 63, 2) := by decide +kernel
theorem dJ6_bitCount_0f7a4_51 : decode cJ6_bitCount_0f7a4 51 = .ok (.iand, 1) := by decide +kernel
theorem dJ6_bitCount_0f7a4_52 : decode cJ6_bitCount_0f7a4 52 = .ok (.ireturn, 1) := by decide +kernel
theorem dJ9_floorMod_7cf53_0 : decode cJ9_floorMod_7cf53 0 = .ok (.iload_n 0, 1) := by decide +kernel
theorem dJ9_floorMod_7cf53_1 : decode cJ9_floorMod_7cf53 1 = .ok (.iload_n 1, 1) := by decide +kernel
theorem dJ9_floorMod_7cf53_2 : decode cJ9_floorMod_7cf53 2 = .ok (.irem, 1) := by decide +kernel
theorem dJ9_floorMod_7cf53_3 : decode cJ9_floorMod_7cf53 3 = .ok (.istore_n 2, 1) := by decide +kernel
theorem dJ9_floorMod_7cf53_4 : decode cJ9_floorMod_7cf53 4 = .ok (.iload_n 0, 1) := by decide +kernel
theorem dJ9_floorMod_7cf53_5 : decode cJ9_floorMod_7cf53 5 = .ok (.iload_n 1, 1) := by decide +kernel
theorem dJ9_floorMod_7cf53_6 : decode cJ9_floorMod_7cf53 6 = .ok (.ixor, 1) := by decide +kernel
theorem dJ9_floorMod_7cf53_7 : decode cJ9_floorMod_7cf53 7 = .ok (.ifCond .ge 11, 3) := by decide +kernel
theorem dJ9_floorMod_7cf53_10 : decode cJ9_floorMod_7cf53 10 = .ok (.iload_n 2, 1) := by decide +kernel
theorem dJ9_floorMod_7cf53_11 : decode cJ9_floorMod_7cf53 11 = .ok (.ifCond .eq 7, 3) := by decide +kernel
theorem dJ9_floorMod_7cf53_14 : decode cJ9_floorMod_7cf53 14 = .ok (.iload_n 2, 1) := by decide +kernel
theorem dJ9_floorMod_7cf53_15 : decode cJ9_floorMod_7cf53 15 = .ok (.iload_n 1, 1) := by decide +kernel
theorem dJ9_floorMod_7cf53_16 : decode cJ9_floorMod_7cf53 16 = .ok (.iadd, 1) := by decide +kernel
theorem dJ9_floorMod_7cf53_17 : decode cJ9_floorMod_7cf53 17 = .ok (.ireturn, 1) := by decide +kernel
theorem dJ9_floorMod_7cf53_18 : decode cJ9_floorMod_7cf53 18 = .ok (.iload_n 2, 1) := by decide +kernel
theorem dJ9_floorMod_7cf53_19 : decode cJ9_floorMod_7cf53 19 = .ok (.ireturn, 1) := by decide +kernel
theorem dJ9_max_7cf53_0 : decode cJ9_max_7cf53 0 = .ok (.iload_n 0, 1) := by decide +kernel
theorem dJ9_max_7cf53_1 : decode cJ9_max_7cf53 1 = .ok (.iload_n 1, 1) := by decide +kernel
theorem dJ9_max_7cf53_2 : decode cJ9_max_7cf53 2 = .ok (.if_icmp .lt 7, 3) := by decide +kernel
theorem dJ9_max_7cf53_5 : decode cJ9_max_7cf53 5 = .ok (.iload_n 0, 1) := by decide +kernel
theorem dJ9_max_7cf53_6 : decode cJ9_max_7cf53 6 = .ok (.goto 4, 3) := by decide +kernel
theorem dJ9_max_7cf53_9 : decode cJ9_max_7cf53 9 = .ok (.iload_n 1, 1) := by decide +kernel
theorem dJ9_max_7cf53_10 : decode cJ9_max_7cf53 10 = .ok (.ireturn, 1) := by decide +kernel
theorem dJ9_min_7cf53_0 : decode cJ9_min_7cf53 0 = .ok (.iload_n 0, 1) := by decide +kernel
theorem dJ9_min_7cf53_1 : decode cJ9_min_7cf53 1 = .ok (.iload_n 1, 1) := by decide +kernel
theorem dJ9_min_7cf53_2 : decode cJ9_min_7cf53 2 = .ok (.if_icmp .gt 7, 3) := by decide +kernel
theorem dJ9_min_7cf53_5 : decode cJ9_min_7cf53 5 = .ok (.iload_n 0, 1) := by decide +kernel
theorem dJ9_min_7cf53_6 : decode cJ9_min_7cf53 6 = .ok (.goto 4, 3) := by decide +kernel
theorem dJ9_min_7cf53_9 : decode cJ9_min_7cf53 9 = .ok (.iload_n 1, 1) := by decide +kernel
theorem dJ9_min_7cf53_10 : decode cJ9_min_7cf53 10 = .ok (.ireturn, 1) := by decide +kernel
theorem dL_law_0 : decode cL_law 0 = .ok (.new 7, 3) := by decide +kernel
theorem dL_law_3 : decode cL_law 3 = .ok (.dup, 1) := by decide +kernel
theorem dL_law_4 : decode cL_law 4 = .ok (.invokespecial 9, 3) := by decide +kernel
theorem dL_law_7 : decode cL_law 7 = .ok (.astore_n 1, 1) := by decide +kernel
theorem dL_law_8 : decode cL_law 8 = .ok (.new 10, 3) := by decide +kernel
theorem dL_law_11 : decode cL_law 11 = .ok (.dup, 1) := by decide +kernel
theorem dL_law_12 : decode cL_law 12 = .ok (.invokespecial 12, 3) := by decide +kernel
theorem dL_law_15 : decode cL_law 15 = .ok (.astore_n 2, 1) := by decide +kernel
theorem dL_law_16 : decode cL_law 16 = .ok (.iconst 0, 1) := by decide +kernel
theorem dL_law_17 : decode cL_law 17 = .ok (.istore_n 3, 1) := by decide +kernel
theorem dL_law_18 : decode cL_law 18 = .ok (.iload_n 3, 1) := by decide +kernel
theorem dL_law_19 : decode cL_law 19 = .ok (.aload_n 0, 1) := by decide +kernel
theorem dL_law_20 : decode cL_law 20 = .ok (.arraylength, 1) := by decide +kernel
theorem dL_law_21 : decode cL_law 21 = .ok (.iconst 4, 1) := by decide +kernel
theorem dL_law_22 : decode cL_law 22 = .ok (.isub, 1) := by decide +kernel
theorem dL_law_23 : decode cL_law 23 = .ok (.if_icmp .gt 837, 3) := by decide +kernel
theorem dL_law_26 : decode cL_law 26 = .ok (.aload_n 0, 1) := by decide +kernel
theorem dL_law_27 : decode cL_law 27 = .ok (.iload_n 3, 1) := by decide +kernel
theorem dL_law_28 : decode cL_law 28 = .ok (.iaload, 1) := by decide +kernel
theorem dL_law_29 : decode cL_law 29 = .ok (.bipush 31, 2) := by decide +kernel
theorem dL_law_31 : decode cL_law 31 = .ok (.iand, 1) := by decide +kernel
theorem dL_law_32 : decode cL_law 32 = .ok (.tableswitch 822 0 24 #[116, 179, 192, 205, 218, 251, 284, 307, 330, 353, 386, 419, 452, 465, 498, 531, 564, 577, 620, 653, 696, 740, 773, 786, 799], 116) := by decide +kernel
theorem dL_law_148 : decode cL_law 148 = .ok (.aload_n 1, 1) := by decide +kernel
theorem dL_law_149 : decode cL_law 149 = .ok (.aload_n 0, 1) := by decide +kernel
theorem dL_law_150 : decode cL_law 150 = .ok (.iload_n 3, 1) := by decide +kernel
theorem dL_law_151 : decode cL_law 151 = .ok (.iconst 1, 1) := by decide +kernel
theorem dL_law_152 : decode cL_law 152 = .ok (.iadd, 1) := by decide +kernel
theorem dL_law_153 : decode cL_law 153 = .ok (.iaload, 1) := by decide +kernel
theorem dL_law_154 : decode cL_law 154 = .ok (.aload_n 0, 1) := by decide +kernel
theorem dL_law_155 : decode cL_law 155 = .ok (.iload_n 3, 1) := by decide +kernel
theorem dL_law_156 : decode cL_law 156 = .ok (.iconst 2, 1) := by decide +kernel
theorem dL_law_157 : decode cL_law 157 = .ok (.iadd, 1) := by decide +kernel
theorem dL_law_158 : decode cL_law 158 = .ok (.iaload, 1) := by decide +kernel
theorem dL_law_159 : decode cL_law 159 = .ok (.i2l, 1) := by decide +kernel
theorem dL_law_160 : decode cL_law 160 = .ok (.bipush 32, 2) := by decide +kernel
theorem dL_law_162 : decode cL_law 162 = .ok (.lshl, 1) := by decide +kernel
theorem dL_law_163 : decode cL_law 163 = .ok (.aload_n 0, 1) := by decide +kernel
theorem dL_law_164 : decode cL_law 164 = .ok (.iload_n 3, 1) := by decide +kernel
theorem dL_law_165 : decode cL_law 165 = .ok (.iconst 3, 1) := by decide +kernel
theorem dL_law_166 : decode cL_law 166 = .ok (.iadd, 1) := by decide +kernel
theorem dL_law_167 : decode cL_law 167 = .ok (.iaload, 1) := by decide +kernel
theorem dL_law_168 : decode cL_law 168 = .ok (.i2l, 1) := by decide +kernel
theorem dL_law_169 : decode cL_law 169 = .ok (.ldc2_w 13, 3) := by decide +kernel
theorem dL_law_172 : decode cL_law 172 = .ok (.land, 1) := by decide +kernel
theorem dL_law_173 : decode cL_law 173 = .ok (.lor, 1) := by decide +kernel
theorem dL_law_174 : decode cL_law 174 = .ok (.invokevirtual 15, 3) := by decide +kernel
theorem dL_law_177 : decode cL_law 177 = .ok (.aload_n 2, 1) := by decide +kernel
theorem dL_law_178 : decode cL_law 178 = .ok (.aload_n 0, 1) := by decide +kernel
theorem dL_law_179 : decode cL_law 179 = .ok (.iload_n 3, 1) := by decide +kernel
theorem dL_law_180 : decode cL_law 180 = .ok (.iconst 1, 1) := by decide +kernel
theorem dL_law_181 : decode cL_law 181 = .ok (.iadd, 1) := by decide +kernel
theorem dL_law_182 : decode cL_law 182 = .ok (.iaload, 1) := by decide +kernel
theorem dL_law_183 : decode cL_law 183 = .ok (.aload_n 0, 1) := by decide +kernel
theorem dL_law_184 : decode cL_law 184 = .ok (.iload_n 3, 1) := by decide +kernel
theorem dL_law_185 : decode cL_law 185 = .ok (.iconst 2, 1) := by decide +kernel
theorem dL_law_186 : decode cL_law 186 = .ok (.iadd, 1) := by decide +kernel
theorem dL_law_187 : decode cL_law 187 = .ok (.iaload, 1) := by decide +kernel
theorem dL_law_188 : decode cL_law 188 = .ok (.i2l, 1) := by decide +kernel
theorem dL_law_189 : decode cL_law 189 = .ok (.bipush 32, 2) := by decide +kernel
theorem dL_law_191 : decode cL_law 191 = .ok (.lshl, 1) := by decide +kernel
theorem dL_law_192 : decode cL_law 192 = .ok (.aload_n 0, 1) := by decide +kernel
theorem dL_law_193 : decode cL_law 193 = .ok (.iload_n 3, 1) := by decide +kernel
theorem dL_law_194 : decode cL_law 194 = .ok (.iconst 3, 1) := by decide +kernel
theorem dL_law_195 : decode cL_law 195 = .ok (.iadd, 1) := by decide +kernel
theorem dL_law_196 : decode cL_law 196 = .ok (.iaload, 1) := by decide +kernel
theorem dL_law_197 : decode cL_law 197 = .ok (.i2l, 1) := by decide +kernel
theorem dL_law_198 : decode cL_law 198 = .ok (.ldc2_w 13, 3) := by decide +kernel
theorem dL_law_201 : decode cL_law 201 = .ok (.land, 1) := by decide +kernel
theorem dL_law_202 : decode cL_law 202 = .ok (.lor, 1) := by decide +kernel
theorem dL_law_203 : decode cL_law 203 = .ok (.invokevirtual 19, 3) := by decide +kernel
theorem dL_law_206 : decode cL_law 206 = .ok (.if_icmp .eq 648, 3) := by decide +kernel
theorem dL_law_209 : decode cL_law 209 = .ok (.iconst 0, 1) := by decide +kernel
theorem dL_law_210 : decode cL_law 210 = .ok (.ireturn, 1) := by decide +kernel
theorem dL_law_211 : decode cL_law 211 = .ok (.aload_n 1, 1) := by decide +kernel
theorem dL_law_212 : decode cL_law 212 = .ok (.invokevirtual 20, 3) := by decide +kernel
theorem dL_law_215 : decode cL_law 215 = .ok (.aload_n 2, 1) := by decide +kernel
theorem dL_law_216 : decode cL_law 216 = .ok (.invokevirtual 24, 3) := by decide +kernel
theorem dL_law_219 : decode cL_law 219 = .ok (.if_icmp .eq 635, 3) := by decide +kernel
theorem dL_law_222 : decode cL_law 222 = .ok (.iconst 0, 1) := by decide +kernel
theorem dL_law_223 : decode cL_law 223 = .ok (.ireturn, 1) := by decide +kernel
theorem dL_law_224 : decode cL_law 224 = .ok (.aload_n 1, 1) := by decide +kernel
theorem dL_law_225 : decode cL_law 225 = .ok (.invokevirtual 25, 3) := by decide +kernel
theorem dL_law_228 : decode cL_law 228 = .ok (.aload_n 2, 1) := by decide +kernel
theorem dL_law_229 : decode cL_law 229 = .ok (.invokevirtual 28, 3) := by decide +kernel
theorem dL_law_232 : decode cL_law 232 = .ok (.if_icmp .eq 622, 3) := by decide +kernel
theorem dL_law_235 : decode cL_law 235 = .ok (.iconst 0, 1) := by decide +kernel
theorem dL_law_236 : decode cL_law 236 = .ok (.ireturn, 1) := by decide +kernel
theorem dL_law_237 : decode cL_law 237 = .ok (.aload_n 1, 1) := by decide +kernel
theorem dL_law_238 : decode cL_law 238 = .ok (.invokevirtual 29, 3) := by decide +kernel
theorem dL_law_241 : decode cL_law 241 = .ok (.aload_n 2, 1) := by decide +kernel
theorem dL_law_242 : decode cL_law 242 = .ok (.invokevirtual 32, 3) := by decide +kernel
theorem dL_law_245 : decode cL_law 245 = .ok (.if_icmp .eq 609, 3) := by decide +kernel
theorem dL_law_248 : decode cL_law 248 = .ok (.iconst 0, 1) := by decide +kernel
theorem dL_law_249 : decode cL_law 249 = .ok (.ireturn, 1) := by decide +kernel
theorem dL_law_250 : decode cL_law 250 = .ok (.aload_n 1, 1) := by decide +kernel
theorem dL_law_251 : decode cL_law 251 = .ok (.aload_n 0, 1) := by decide +kernel
theorem dL_law_252 : decode cL_law 252 = .ok (.iload_n 3, 1) := by decide +kernel
theorem dL_law_253 : decode cL_law 253 = .ok (.iconst 1, 1) := by decide +kernel
theorem dL_law_254 : decode cL_law 254 = .ok (.iadd, 1) := by decide +kernel
theorem dL_law_255 : decode cL_law 255 = .ok (.iaload, 1) := by decide +kernel
theorem dL_law_256 : decode cL_law 256 = .ok (.aload_n 0, 1) := by decide +kernel
theorem dL_law_257 : decode cL_law 257 = .ok (.iload_n 3, 1) := by decide +kernel
theorem dL_law_258 : decode cL_law 258 = .ok (.iconst 2, 1) := by decide +kernel
theorem dL_law_259 : decode cL_law 259 = .ok (.iadd, 1) := by decide +kernel
theorem dL_law_260 : decode cL_law 260 = .ok (.iaload, 1) := by decide +kernel
theorem dL_law_261 : decode cL_law 261 = .ok (.invokevirtual 33, 3) := by decide +kernel
theorem dL_law_264 : decode cL_law 264 = .ok (.aload_n 2, 1) := by decide +kernel
theorem dL_law_265 : decode cL_law 265 = .ok (.aload_n 0, 1) := by decide +kernel
theorem dL_law_266 : decode cL_law 266 = .ok (.iload_n 3, 1) := by decide +kernel
theorem dL_law_267 : decode cL_law 267 = .ok (.iconst 1, 1) := by decide +kernel
theorem dL_law_268 : decode cL_law 268 = .ok (.iadd, 1) := by decide +kernel
theorem dL_law_269 : decode cL_law 269 = .ok (.iaload, 1) := by decide +kernel
theorem dL_law_270 : decode cL_law 270 = .ok (.aload_n 0, 1) := by decide +kernel
theorem dL_law_271 : decode cL_law 271 = .ok (.iload_n 3, 1) := by decide +kernel
theorem dL_law_272 : decode cL_law 272 = .ok (.iconst 2, 1) := by decide +kernel
theorem dL_law_273 : decode cL_law 273 = .ok (.iadd, 1) := by decide +kernel
theorem dL_law_274 : decode cL_law 274 = .ok (.iaload, 1) := by decide +kernel
theorem dL_law_275 : decode cL_law 275 = .ok (.invokevirtual 37, 3) := by decide +kernel
theorem dL_law_278 : decode cL_law 278 = .ok (.if_icmp .eq 576, 3) := by decide +kernel
theorem dL_law_281 : decode cL_law 281 = .ok (.iconst 0, 1) := by decide +kernel
theorem dL_law_282 : decode cL_law 282 = .ok (.ireturn, 1) := by decide +kernel
theorem dL_law_283 : decode cL_law 283 = .ok (.aload_n 1, 1) := by decide +kernel
theorem dL_law_284 : decode cL_law 284 = .ok (.aload_n 0, 1) := by decide +kernel
theorem dL_law_285 : decode cL_law 285 = .ok (.iload_n 3, 1) := by decide +kernel
theorem dL_law_286 : decode cL_law 286 = .ok (.iconst 1, 1) := by decide +kernel
theorem dL_law_287 : decode cL_law 287 = .ok (.iadd, 1) := by decide +kernel
theorem dL_law_288 : decode cL_law 288 = .ok (.iaload, 1) := by decide +kernel
theorem dL_law_289 : decode cL_law 289 = .ok (.aload_n 0, 1) := by decide +kernel
theorem dL_law_290 : decode cL_law 290 = .ok (.iload_n 3, 1) := by decide +kernel
theorem dL_law_291 : decode cL_law 291 = .ok (.iconst 2, 1) := by decide +kernel
theorem dL_law_292 : decode cL_law 292 = .ok (.iadd, 1) := by decide +kernel
theorem dL_law_293 : decode cL_law 293 = .ok (.iaload, 1) := by decide +kernel
theorem dL_law_294 : decode cL_law 294 = .ok (.invokevirtual 38, 3) := by decide +kernel
theorem dL_law_297 : decode cL_law 297 = .ok (.aload_n 2, 1) := by decide +kernel
theorem dL_law_298 : decode cL_law 298 = .ok (.aload_n 0, 1) := by decide +kernel
theorem dL_law_299 : decode cL_law 299 = .ok (.iload_n 3, 1) := by decide +kernel
theorem dL_law_300 : decode cL_law 300 = .ok (.iconst 1, 1) := by decide +kernel
theorem dL_law_301 : decode cL_law 301 = .ok (.iadd, 1) := by decide +kernel
theorem dL_law_302 : decode cL_law 302 = .ok (.iaload, 1) := by decide +kernel
theorem dL_law_303 : decode cL_law 303 = .ok (.aload_n 0, 1) := by decide +kernel
theorem dL_law_304 : decode cL_law 304 = .ok (.iload_n 3, 1) := by decide +kernel
theorem dL_law_305 : decode cL_law 305 = .ok (.iconst 2, 1) := by decide +kernel
theorem dL_law_306 : decode cL_law 306 = .ok (.iadd, 1) := by decide +kernel
theorem dL_law_307 : decode cL_law 307 = .ok (.iaload, 1) := by decide +kernel
theorem dL_law_308 : decode cL_law 308 = .ok (.invokevirtual 41, 3) := by decide +kernel
theorem dL_law_311 : decode cL_law 311 = .ok (.if_icmp .eq 543, 3) := by decide +kernel
theorem dL_law_314 : decode cL_law 314 = .ok (.iconst 0, 1) := by decide +kernel
theorem dL_law_315 : decode cL_law 315 = .ok (.ireturn, 1) := by decide +kernel
theorem dL_law_316 : decode cL_law 316 = .ok (.aload_n 1, 1) := by decide +kernel
theorem dL_law_317 : decode cL_law 317 = .ok (.aload_n 0, 1) := by decide +kernel
theorem dL_law_318 : decode cL_law 318 = .ok (.iload_n 3, 1) := by decide +kernel
theorem dL_law_319 : decode cL_law 319 = .ok (.iconst 1, 1) := by decide +kernel
theorem dL_law_320 : decode cL_law 320 = .ok (.iadd, 1) := by decide +kernel
theorem dL_law_321 : decode cL_law 321 = .ok (.iaload, 1) := by decide +kernel
theorem dL_law_322 : decode cL_law 322 = .ok (.invokevirtual 42, 3) := by decide +kernel
theorem dL_law_325 : decode cL_law 325 = .ok (.aload_n 2, 1) := by decide +kernel
theorem dL_law_326 : decode cL_law 326 = .ok (.aload_n 0, 1) := by decide +kernel
theorem dL_law_327 : decode cL_law 327 = .ok (.iload_n 3, 1) := by decide +kernel
theorem dL_law_328 : decode cL_law 328 = .ok (.iconst 1, 1) := by decide +kernel
theorem dL_law_329 : decode cL_law 329 = .ok (.iadd, 1) := by decide +kernel
theorem dL_law_330 : decode cL_law 330 = .ok (.iaload, 1) := by decide +kernel
theorem dL_law_331 : decode cL_law 331 = .ok (.invokevirtual 46, 3) := by decide +kernel
theorem dL_law_334 : decode cL_law 334 = .ok (.if_icmp .eq 520, 3) := by decide +kernel
theorem dL_law_337 : decode cL_law 337 = .ok (.iconst 0, 1) := by decide +kernel
theorem dL_law_338 : decode cL_law 338 = .ok (.ireturn, 1) := by decide +kernel
theorem dL_law_339 : decode cL_law 339 = .ok (.aload_n 1, 1) := by decide +kernel
theorem dL_law_340 : decode cL_law 340 = .ok (.aload_n 0, 1) := by decide +kernel
theorem dL_law_341 : decode cL_law 341 = .ok (.iload_n 3, 1) := by decide +kernel
theorem dL_law_342 : decode cL_law 342 = .ok (.iconst 1, 1) := by decide +kernel
theorem dL_law_343 : decode cL_law 343 = .ok (.iadd, 1) := by decide +kernel
theorem dL_law_344 : decode cL_law 344 = .ok (.iaload, 1) := by decide +kernel
theorem dL_law_345 : decode cL_law 345 = .ok (.invokevirtual 47, 3) := by decide +kernel
theorem dL_law_348 : decode cL_law 348 = .ok (.aload_n 2, 1) := by decide +kernel
theorem dL_law_349 : decode cL_law 349 = .ok (.aload_n 0, 1) := by decide +kernel
theorem dL_law_350 : decode cL_law 350 = .ok (.iload_n 3, 1) := by decide +kernel
theorem dL_law_351 : decode cL_law 351 = .ok (.iconst 1, 1) := by decide +kernel
theorem dL_law_352 : decode cL_law 352 = .ok (.iadd, 1) := by decide +kernel
theorem dL_law_353 : decode cL_law 353 = .ok (.iaload, 1) := by decide +kernel
theorem dL_law_354 : decode cL_law 354 = .ok (.invokevirtual 50, 3) := by decide +kernel
theorem dL_law_357 : decode cL_law 357 = .ok (.if_icmp .eq 497, 3) := by decide +kernel
theorem dL_law_360 : decode cL_law 360 = .ok (.iconst 0, 1) := by decide +kernel
theorem dL_law_361 : decode cL_law 361 = .ok (.ireturn, 1) := by decide +kernel
theorem dL_law_362 : decode cL_law 362 = .ok (.aload_n 1, 1) := by decide +kernel
theorem dL_law_363 : decode cL_law 363 = .ok (.aload_n 0, 1) := by decide +kernel
theorem dL_law_364 : decode cL_law 364 = .ok (.iload_n 3, 1) := by decide +kernel
theorem dL_law_365 : decode cL_law 365 = .ok (.iconst 1, 1) := by decide +kernel
theorem dL_law_366 : decode cL_law 366 = .ok (.iadd, 1) := by decide +kernel
theorem dL_law_367 : decode cL_law 367 = .ok (.iaload, 1) := by decide +kernel
theorem dL_law_368 : decode cL_law 368 = .ok (.invokevirtual 51, 3) := by decide +kernel
theorem dL_law_371 : decode cL_law 371 = .ok (.aload_n 2, 1) := by decide +kernel
theorem dL_law_372 : decode cL_law 372 = .ok (.aload_n 0, 1) := by decide +kernel
theorem dL_law_373 : decode cL_law 373 = .ok (.iload_n 3, 1) := by decide +kernel
theorem dL_law_374 : decode cL_law 374 = .ok (.iconst 1, 1) := by decide +kernel
theorem dL_law_375 : decode cL_law 375 = .ok (.iadd, 1) := by decide +kernel
theorem dL_law_376 : decode cL_law 376 = .ok (.iaload, 1) := by decide +kernel
theorem dL_law_377 : decode cL_law 377 = .ok (.invokevirtual 54, 3) := by decide +kernel
theorem dL_law_380 : decode cL_law 380 = .ok (.if_icmp .eq 474, 3) := by decide +kernel
theorem dL_law_383 : decode cL_law 383 = .ok (.iconst 0, 1) := by decide +kernel
theorem dL_law_384 : decode cL_law 384 = .ok (.ireturn, 1) := by decide +kernel
theorem dL_law_385 : decode cL_law 385 = .ok (.aload_n 1, 1) := by decide +kernel
theorem dL_law_386 : decode cL_law 386 = .ok (.aload_n 0, 1) := by decide +kernel
theorem dL_law_387 : decode cL_law 387 = .ok (.iload_n 3, 1) := by decide +kernel
theorem dL_law_388 : decode cL_law 388 = .ok (.iconst 1, 1) := by decide +kernel
theorem dL_law_389 : decode cL_law 389 = .ok (.iadd, 1) := by decide +kernel
theorem dL_law_390 : decode cL_law 390 = .ok (.iaload, 1) := by decide +kernel
theorem dL_law_391 : decode cL_law 391 = .ok (.aload_n 0, 1) := by decide +kernel
theorem dL_law_392 : decode cL_law 392 = .ok (.iload_n 3, 1) := by decide +kernel
theorem dL_law_393 : decode cL_law 393 = .ok (.iconst 2, 1) := by decide +kernel
theorem dL_law_394 : decode cL_law 394 = .ok (.iadd, 1) := by decide +kernel
theorem dL_law_395 : decode cL_law 395 = .ok (.iaload, 1) := by decide +kernel
theorem dL_law_396 : decode cL_law 396 = .ok (.invokevirtual 55, 3) := by decide +kernel
theorem dL_law_399 : decode cL_law 399 = .ok (.aload_n 2, 1) := by decide +kernel
theorem dL_law_400 : decode cL_law 400 = .ok (.aload_n 0, 1) := by decide +kernel
theorem dL_law_401 : decode cL_law 401 = .ok (.iload_n 3, 1) := by decide +kernel
theorem dL_law_402 : decode cL_law 402 = .ok (.iconst 1, 1) := by decide +kernel
theorem dL_law_403 : decode cL_law 403 = .ok (.iadd, 1) := by decide +kernel
theorem dL_law_404 : decode cL_law 404 = .ok (.iaload, 1) := by decide +kernel
theorem dL_law_405 : decode cL_law 405 = .ok (.aload_n 0, 1) := by decide +kernel
theorem dL_law_406 : decode cL_law 406 = .ok (.iload_n 3, 1) := by decide +kernel
theorem dL_law_407 : decode cL_law 407 = .ok (.iconst 2, 1) := by decide +kernel
theorem dL_law_408 : decode cL_law 408 = .ok (.iadd, 1) := by decide +kernel
theorem dL_law_409 : decode cL_law 409 = .ok (.iaload, 1) := by decide +kernel
theorem dL_law_410 : decode cL_law 410 = .ok (.invokevirtual 58, 3) := by decide +kernel
theorem dL_law_413 : decode cL_law 413 = .ok (.if_icmp .eq 441, 3) := by decide +kernel
theorem dL_law_416 : decode cL_law 416 = .ok (.iconst 0, 1) := by decide +kernel
theorem dL_law_417 : decode cL_law 417 = .ok (.ireturn, 1) := by decide +kernel
theorem dL_law_418 : decode cL_law 418 = .ok (.aload_n 1, 1) := by decide +kernel
theorem dL_law_419 : decode cL_law 419 = .ok (.aload_n 0, 1) := by decide +kernel
theorem dL_law_420 : decode cL_law 420 = .ok (.iload_n 3, 1) := by decide +kernel
theorem dL_law_421 : decode cL_law 421 = .ok (.iconst 1, 1) := by decide +kernel
theorem dL_law_422 : decode cL_law 422 = .ok (.iadd, 1) := by decide +kernel
theorem dL_law_423 : decode cL_law 423 = .ok (.iaload, 1) := by decide +kernel
theorem dL_law_424 : decode cL_law 424 = .ok (.aload_n 0, 1) := by decide +kernel
theorem dL_law_425 : decode cL_law 425 = .ok (.iload_n 3, 1) := by decide +kernel
theorem dL_law_426 : decode cL_law 426 = .ok (.iconst 2, 1) := by decide +kernel
theorem dL_law_427 : decode cL_law 427 = .ok (.iadd, 1) := by decide +kernel
theorem dL_law_428 : decode cL_law 428 = .ok (.iaload, 1) := by decide +kernel
theorem dL_law_429 : decode cL_law 429 = .ok (.invokevirtual 59, 3) := by decide +kernel
theorem dL_law_432 : decode cL_law 432 = .ok (.aload_n 2, 1) := by decide +kernel
theorem dL_law_433 : decode cL_law 433 = .ok (.aload_n 0, 1) := by decide +kernel
theorem dL_law_434 : decode cL_law 434 = .ok (.iload_n 3, 1) := by decide +kernel
theorem dL_law_435 : decode cL_law 435 = .ok (.iconst 1, 1) := by decide +kernel
theorem dL_law_436 : decode cL_law 436 = .ok (.iadd, 1) := by decide +kernel
theorem dL_law_437 : decode cL_law 437 = .ok (.iaload, 1) := by decide +kernel
theorem dL_law_438 : decode cL_law 438 = .ok (.aload_n 0, 1) := by decide +kernel
theorem dL_law_439 : decode cL_law 439 = .ok (.iload_n 3, 1) := by decide +kernel
theorem dL_law_440 : decode cL_law 440 = .ok (.iconst 2, 1) := by decide +kernel
theorem dL_law_441 : decode cL_law 441 = .ok (.iadd, 1) := by decide +kernel
theorem dL_law_442 : decode cL_law 442 = .ok (.iaload, 1) := by decide +kernel
theorem dL_law_443 : decode cL_law 443 = .ok (.invokevirtual 62, 3) := by decide +kernel
theorem dL_law_446 : decode cL_law 446 = .ok (.if_icmp .eq 408, 3) := by decide +kernel
theorem dL_law_449 : decode cL_law 449 = .ok (.iconst 0, 1) := by decide +kernel
theorem dL_law_450 : decode cL_law 450 = .ok (.ireturn, 1) := by decide +kernel
theorem dL_law_451 : decode cL_law 451 = .ok (.aload_n 1, 1) := by decide +kernel
theorem dL_law_452 : decode cL_law 452 = .ok (.aload_n 0, 1) := by decide +kernel
theorem dL_law_453 : decode cL_law 453 = .ok (.iload_n 3, 1) := by decide +kernel
theorem dL_law_454 : decode cL_law 454 = .ok (.iconst 1, 1) := by decide +kernel
theorem dL_law_455 : decode cL_law 455 = .ok (.iadd, 1) := by decide +kernel
theorem dL_law_456 : decode cL_law 456 = .ok (.iaload, 1) := by decide +kernel
theorem dL_law_457 : decode cL_law 457 = .ok (.aload_n 0, 1) := by decide +kernel
theorem dL_law_458 : decode cL_law 458 = .ok (.iload_n 3, 1) := by decide +kernel
theorem dL_law_459 : decode cL_law 459 = .ok (.iconst 2, 1) := by decide +kernel
theorem dL_law_460 : decode cL_law 460 = .ok (.iadd, 1) := by decide +kernel
theorem dL_law_461 : decode cL_law 461 = .ok (.iaload, 1) := by decide +kernel
theorem dL_law_462 : decode cL_law 462 = .ok (.invokevirtual 63, 3) := by decide +kernel
theorem dL_law_465 : decode cL_law 465 = .ok (.aload_n 2, 1) := by decide +kernel
theorem dL_law_466 : decode cL_law 466 = .ok (.aload_n 0, 1) := by decide +kernel
theorem dL_law_467 : decode cL_law 467 = .ok (.iload_n 3, 1) := by decide +kernel
theorem dL_law_468 : decode cL_law 468 = .ok (.iconst 1, 1) := by decide +kernel
theorem dL_law_469 : decode cL_law 469 = .ok (.iadd, 1) := by decide +kernel
theorem dL_law_470 : decode cL_law 470 = .ok (.iaload, 1) := by decide +kernel
theorem dL_law_471 : decode cL_law 471 = .ok (.aload_n 0, 1) := by decide +kernel
theorem dL_law_472 : decode cL_law 472 = .ok (.iload_n 3, 1) := by decide +kernel
theorem dL_law_473 : decode cL_law 473 = .ok (.iconst 2, 1) := by decide +kernel
theorem dL_law_474 : decode cL_law 474 = .ok (.iadd, 1) := by decide +kernel
theorem dL_law_475 : decode cL_law 475 = .ok (.iaload, 1) := by decide +kernel
theorem dL_law_476 : decode cL_law 476 = .ok (.invokevirtual 66, 3) := by decide +kernel
theorem dL_law_479 : decode cL_law 479 = .ok (.if_icmp .eq 375, 3) := by decide +kernel
theorem dL_law_482 : decode cL_law 482 = .ok (.iconst 0, 1) := by decide +kernel
theorem dL_law_483 : decode cL_law 483 = .ok (.ireturn, 1) := by decide +kernel
theorem dL_law_484 : decode cL_law 484 = .ok (.aload_n 1, 1) := by decide +kernel
theorem dL_law_485 : decode cL_law 485 = .ok (.invokevirtual 67, 3) := by decide +kernel
theorem dL_law_488 : decode cL_law 488 = .ok (.aload_n 2, 1) := by decide +kernel
theorem dL_law_489 : decode cL_law 489 = .ok (.invokevirtual 70, 3) := by decide +kernel
theorem dL_law_492 : decode cL_law 492 = .ok (.if_icmp .eq 362, 3) := by decide +kernel
theorem dL_law_495 : decode cL_law 495 = .ok (.iconst 0, 1) := by decide +kernel
theorem dL_law_496 : decode cL_law 496 = .ok (.ireturn, 1) := by decide +kernel
theorem dL_law_497 : decode cL_law 497 = .ok (.aload_n 1, 1) := by decide +kernel
theorem dL_law_498 : decode cL_law 498 = .ok (.aload_n 0, 1) := by decide +kernel
theorem dL_law_499 : decode cL_law 499 = .ok (.iload_n 3, 1) := by decide +kernel
theorem dL_law_500 : decode cL_law 500 = .ok (.iconst 1, 1) := by decide +kernel
theorem dL_law_501 : decode cL_law 501 = .ok (.iadd, 1) := by decide +kernel
theorem dL_law_502 : decode cL_law 502 = .ok (.iaload, 1) := by decide +kernel
theorem dL_law_503 : decode cL_law 503 = .ok (.aload_n 0, 1) := by decide +kernel
theorem dL_law_504 : decode cL_law 504 = .ok (.iload_n 3, 1) := by decide +kernel
theorem dL_law_505 : decode cL_law 505 = .ok (.iconst 2, 1) := by decide +kernel
theorem dL_law_506 : decode cL_law 506 = .ok (.iadd, 1) := by decide +kernel
theorem dL_law_507 : decode cL_law 507 = .ok (.iaload, 1) := by decide +kernel
theorem dL_law_508 : decode cL_law 508 = .ok (.invokevirtual 71, 3) := by decide +kernel
theorem dL_law_511 : decode cL_law 511 = .ok (.aload_n 2, 1) := by decide +kernel
theorem dL_law_512 : decode cL_law 512 = .ok (.aload_n 0, 1) := by decide +kernel
theorem dL_law_513 : decode cL_law 513 = .ok (.iload_n 3, 1) := by decide +kernel
theorem dL_law_514 : decode cL_law 514 = .ok (.iconst 1, 1) := by decide +kernel
theorem dL_law_515 : decode cL_law 515 = .ok (.iadd, 1) := by decide +kernel
theorem dL_law_516 : decode cL_law 516 = .ok (.iaload, 1) := by decide +kernel
theorem dL_law_517 : decode cL_law 517 = .ok (.aload_n 0, 1) := by decide +kernel
theorem dL_law_518 : decode cL_law 518 = .ok (.iload_n 3, 1) := by decide +kernel
theorem dL_law_519 : decode cL_law 519 = .ok (.iconst 2, 1) := by decide +kernel
theorem dL_law_520 : decode cL_law 520 = .ok (.iadd, 1) := by decide +kernel
theorem dL_law_521 : decode cL_law 521 = .ok (.iaload, 1) := by decide +kernel
theorem dL_law_522 : decode cL_law 522 = .ok (.invokevirtual 74, 3) := by decide +kernel
theorem dL_law_525 : decode cL_law 525 = .ok (.if_icmp .eq 329, 3) := by decide +kernel
theorem dL_law_528 : decode cL_law 528 = .ok (.iconst 0, 1) := by decide +kernel
theorem dL_law_529 : decode cL_law 529 = .ok (.ireturn, 1) := by decide +kernel
theorem dL_law_530 : decode cL_law 530 = .ok (.aload_n 1, 1) := by decide +kernel
theorem dL_law_531 : decode cL_law 531 = .ok (.aload_n 0, 1) := by decide +kernel
theorem dL_law_532 : decode cL_law 532 = .ok (.iload_n 3, 1) := by decide +kernel
theorem dL_law_533 : decode cL_law 533 = .ok (.iconst 1, 1) := by decide +kernel
theorem dL_law_534 : decode cL_law 534 = .ok (.iadd, 1) := by decide +kernel
theorem dL_law_535 : decode cL_law 535 = .ok (.iaload, 1) := by decide +kernel
theorem dL_law_536 : decode cL_law 536 = .ok (.aload_n 0, 1) := by decide +kernel
theorem dL_law_537 : decode cL_law 537 = .ok (.iload_n 3, 1) := by decide +kernel
theorem dL_law_538 : decode cL_law 538 = .ok (.iconst 2, 1) := by decide +kernel
theorem dL_law_539 : decode cL_law 539 = .ok (.iadd, 1) := by decide +kernel
theorem dL_law_540 : decode cL_law 540 = .ok (.iaload, 1) := by decide +kernel
theorem dL_law_541 : decode cL_law 541 = .ok (.invokevirtual 75, 3) := by decide +kernel
theorem dL_law_544 : decode cL_law 544 = .ok (.aload_n 2, 1) := by decide +kernel
theorem dL_law_545 : decode cL_law 545 = .ok (.aload_n 0, 1) := by decide +kernel
theorem dL_law_546 : decode cL_law 546 = .ok (.iload_n 3, 1) := by decide +kernel
theorem dL_law_547 : decode cL_law 547 = .ok (.iconst 1, 1) := by decide +kernel
theorem dL_law_548 : decode cL_law 548 = .ok (.iadd, 1) := by decide +kernel
theorem dL_law_549 : decode cL_law 549 = .ok (.iaload, 1) := by decide +kernel
theorem dL_law_550 : decode cL_law 550 = .ok (.aload_n 0, 1) := by decide +kernel
theorem dL_law_551 : decode cL_law 551 = .ok (.iload_n 3, 1) := by decide +kernel
theorem dL_law_552 : decode cL_law 552 = .ok (.iconst 2, 1) := by decide +kernel
theorem dL_law_553 : decode cL_law 553 = .ok (.iadd, 1) := by decide +kernel
theorem dL_law_554 : decode cL_law 554 = .ok (.iaload, 1) := by decide +kernel
theorem dL_law_555 : decode cL_law 555 = .ok (.invokevirtual 78, 3) := by decide +kernel
theorem dL_law_558 : decode cL_law 558 = .ok (.if_icmp .eq 296, 3) := by decide +kernel
theorem dL_law_561 : decode cL_law 561 = .ok (.iconst 0, 1) := by decide +kernel
theorem dL_law_562 : decode cL_law 562 = .ok (.ireturn, 1) := by decide +kernel
theorem dL_law_563 : decode cL_law 563 = .ok (.aload_n 1, 1) := by decide +kernel
theorem dL_law_564 : decode cL_law 564 = .ok (.aload_n 0, 1) := by decide +kernel
theorem dL_law_565 : decode cL_law 565 = .ok (.iload_n 3, 1) := by decide +kernel
theorem dL_law_566 : decode cL_law 566 = .ok (.iconst 1, 1) := by decide +kernel
theorem dL_law_567 : decode cL_law 567 = .ok (.iadd, 1) := by decide +kernel
theorem dL_law_568 : decode cL_law 568 = .ok (.iaload, 1) := by decide +kernel
theorem dL_law_569 : decode cL_law 569 = .ok (.aload_n 0, 1) := by decide +kernel
theorem dL_law_570 : decode cL_law 570 = .ok (.iload_n 3, 1) := by decide +kernel
theorem dL_law_571 : decode cL_law 571 = .ok (.iconst 2, 1) := by decide +kernel
theorem dL_law_572 : decode cL_law 572 = .ok (.iadd, 1) := by decide +kernel
theorem dL_law_573 : decode cL_law 573 = .ok (.iaload, 1) := by decide +kernel
theorem dL_law_574 : decode cL_law 574 = .ok (.invokevirtual 79, 3) := by decide +kernel
theorem dL_law_577 : decode cL_law 577 = .ok (.aload_n 2, 1) := by decide +kernel
theorem dL_law_578 : decode cL_law 578 = .ok (.aload_n 0, 1) := by decide +kernel
theorem dL_law_579 : decode cL_law 579 = .ok (.iload_n 3, 1) := by decide +kernel
theorem dL_law_580 : decode cL_law 580 = .ok (.iconst 1, 1) := by decide +kernel
theorem dL_law_581 : decode cL_law 581 = .ok (.iadd, 1) := by decide +kernel
theorem dL_law_582 : decode cL_law 582 = .ok (.iaload, 1) := by decide +kernel
theorem dL_law_583 : decode cL_law 583 = .ok (.aload_n 0, 1) := by decide +kernel
theorem dL_law_584 : decode cL_law 584 = .ok (.iload_n 3, 1) := by decide +kernel
theorem dL_law_585 : decode cL_law 585 = .ok (.iconst 2, 1) := by decide +kernel
theorem dL_law_586 : decode cL_law 586 = .ok (.iadd, 1) := by decide +kernel
theorem dL_law_587 : decode cL_law 587 = .ok (.iaload, 1) := by decide +kernel
theorem dL_law_588 : decode cL_law 588 = .ok (.invokevirtual 82, 3) := by decide +kernel
theorem dL_law_591 : decode cL_law 591 = .ok (.if_icmp .eq 263, 3) := by decide +kernel
theorem dL_law_594 : decode cL_law 594 = .ok (.iconst 0, 1) := by decide +kernel
theorem dL_law_595 : decode cL_law 595 = .ok (.ireturn, 1) := by decide +kernel
theorem dL_law_596 : decode cL_law 596 = .ok (.aload_n 1, 1) := by decide +kernel
theorem dL_law_597 : decode cL_law 597 = .ok (.invokevirtual 83, 3) := by decide +kernel
theorem dL_law_600 : decode cL_law 600 = .ok (.aload_n 2, 1) := by decide +kernel
theorem dL_law_601 : decode cL_law 601 = .ok (.invokevirtual 86, 3) := by decide +kernel
theorem dL_law_604 : decode cL_law 604 = .ok (.if_icmp .eq 250, 3) := by decide +kernel
theorem dL_law_607 : decode cL_law 607 = .ok (.iconst 0, 1) := by decide +kernel
theorem dL_law_608 : decode cL_law 608 = .ok (.ireturn, 1) := by decide +kernel
theorem dL_law_609 : decode cL_law 609 = .ok (.aload_n 1, 1) := by decide +kernel
theorem dL_law_610 : decode cL_law 610 = .ok (.aload_n 0, 1) := by decide +kernel
theorem dL_law_611 : decode cL_law 611 = .ok (.iload_n 3, 1) := by decide +kernel
theorem dL_law_612 : decode cL_law 612 = .ok (.iconst 1, 1) := by decide +kernel
theorem dL_law_613 : decode cL_law 613 = .ok (.iadd, 1) := by decide +kernel
theorem dL_law_614 : decode cL_law 614 = .ok (.iaload, 1) := by decide +kernel
theorem dL_law_615 : decode cL_law 615 = .ok (.aload_n 0, 1) := by decide +kernel
theorem dL_law_616 : decode cL_law 616 = .ok (.iload_n 3, 1) := by decide +kernel
theorem dL_law_617 : decode cL_law 617 = .ok (.iconst 2, 1) := by decide +kernel
theorem dL_law_618 : decode cL_law 618 = .ok (.iadd, 1) := by decide +kernel
theorem dL_law_619 : decode cL_law 619 = .ok (.iaload, 1) := by decide +kernel
theorem dL_law_620 : decode cL_law 620 = .ok (.aload_n 0, 1) := by decide +kernel
theorem dL_law_621 : decode cL_law 621 = .ok (.iload_n 3, 1) := by decide +kernel
theorem dL_law_622 : decode cL_law 622 = .ok (.iconst 3, 1) := by decide +kernel
theorem dL_law_623 : decode cL_law 623 = .ok (.iadd, 1) := by decide +kernel
theorem dL_law_624 : decode cL_law 624 = .ok (.iaload, 1) := by decide +kernel
theorem dL_law_625 : decode cL_law 625 = .ok (.invokevirtual 87, 3) := by decide +kernel
theorem dL_law_628 : decode cL_law 628 = .ok (.aload_n 2, 1) := by decide +kernel
theorem dL_law_629 : decode cL_law 629 = .ok (.aload_n 0, 1) := by decide +kernel
theorem dL_law_630 : decode cL_law 630 = .ok (.iload_n 3, 1) := by decide +kernel
theorem dL_law_631 : decode cL_law 631 = .ok (.iconst 1, 1) := by decide +kernel
theorem dL_law_632 : decode cL_law 632 = .ok (.iadd, 1) := by decide +kernel
theorem dL_law_633 : decode cL_law 633 = .ok (.iaload, 1) := by decide +kernel
theorem dL_law_634 : decode cL_law 634 = .ok (.aload_n 0, 1) := by decide +kernel
theorem dL_law_635 : decode cL_law 635 = .ok (.iload_n 3, 1) := by decide +kernel
theorem dL_law_636 : decode cL_law 636 = .ok (.iconst 2, 1) := by decide +kernel
theorem dL_law_637 : decode cL_law 637 = .ok (.iadd, 1) := by decide +kernel
theorem dL_law_638 : decode cL_law 638 = .ok (.iaload, 1) := by decide +kernel
theorem dL_law_639 : decode cL_law 639 = .ok (.aload_n 0, 1) := by decide +kernel
theorem dL_law_640 : decode cL_law 640 = .ok (.iload_n 3, 1) := by decide +kernel
theorem dL_law_641 : decode cL_law 641 = .ok (.iconst 3, 1) := by decide +kernel
theorem dL_law_642 : decode cL_law 642 = .ok (.iadd, 1) := by decide +kernel
theorem dL_law_643 : decode cL_law 643 = .ok (.iaload, 1) := by decide +kernel
theorem dL_law_644 : decode cL_law 644 = .ok (.invokevirtual 91, 3) := by decide +kernel
theorem dL_law_647 : decode cL_law 647 = .ok (.if_icmp .eq 207, 3) := by decide +kernel
theorem dL_law_650 : decode cL_law 650 = .ok (.iconst 0, 1) := by decide +kernel
theorem dL_law_651 : decode cL_law 651 = .ok (.ireturn, 1) := by decide +kernel
theorem dL_law_652 : decode cL_law 652 = .ok (.aload_n 1, 1) := by decide +kernel
theorem dL_law_653 : decode cL_law 653 = .ok (.aload_n 0, 1) := by decide +kernel
theorem dL_law_654 : decode cL_law 654 = .ok (.iload_n 3, 1) := by decide +kernel
theorem dL_law_655 : decode cL_law 655 = .ok (.iconst 1, 1) := by decide +kernel
theorem dL_law_656 : decode cL_law 656 = .ok (.iadd, 1) := by decide +kernel
theorem dL_law_657 : decode cL_law 657 = .ok (.iaload, 1) := by decide +kernel
theorem dL_law_658 : decode cL_law 658 = .ok (.aload_n 0, 1) := by decide +kernel
theorem dL_law_659 : decode cL_law 659 = .ok (.iload_n 3, 1) := by decide +kernel
theorem dL_law_660 : decode cL_law 660 = .ok (.iconst 2, 1) := by decide +kernel
theorem dL_law_661 : decode cL_law 661 = .ok (.iadd, 1) := by decide +kernel
theorem dL_law_662 : decode cL_law 662 = .ok (.iaload, 1) := by decide +kernel
theorem dL_law_663 : decode cL_law 663 = .ok (.invokevirtual 92, 3) := by decide +kernel
theorem dL_law_666 : decode cL_law 666 = .ok (.aload_n 2, 1) := by decide +kernel
theorem dL_law_667 : decode cL_law 667 = .ok (.aload_n 0, 1) := by decide +kernel
theorem dL_law_668 : decode cL_law 668 = .ok (.iload_n 3, 1) := by decide +kernel
theorem dL_law_669 : decode cL_law 669 = .ok (.iconst 1, 1) := by decide +kernel
theorem dL_law_670 : decode cL_law 670 = .ok (.iadd, 1) := by decide +kernel
theorem dL_law_671 : decode cL_law 671 = .ok (.iaload, 1) := by decide +kernel
theorem dL_law_672 : decode cL_law 672 = .ok (.aload_n 0, 1) := by decide +kernel
theorem dL_law_673 : decode cL_law 673 = .ok (.iload_n 3, 1) := by decide +kernel
theorem dL_law_674 : decode cL_law 674 = .ok (.iconst 2, 1) := by decide +kernel
theorem dL_law_675 : decode cL_law 675 = .ok (.iadd, 1) := by decide +kernel
theorem dL_law_676 : decode cL_law 676 = .ok (.iaload, 1) := by decide +kernel
theorem dL_law_677 : decode cL_law 677 = .ok (.invokevirtual 95, 3) := by decide +kernel
theorem dL_law_680 : decode cL_law 680 = .ok (.if_icmp .eq 174, 3) := by decide +kernel
theorem dL_law_683 : decode cL_law 683 = .ok (.iconst 0, 1) := by decide +kernel
theorem dL_law_684 : decode cL_law 684 = .ok (.ireturn, 1) := by decide +kernel
theorem dL_law_685 : decode cL_law 685 = .ok (.aload_n 1, 1) := by decide +kernel
theorem dL_law_686 : decode cL_law 686 = .ok (.aload_n 0, 1) := by decide +kernel
theorem dL_law_687 : decode cL_law 687 = .ok (.iload_n 3, 1) := by decide +kernel
theorem dL_law_688 : decode cL_law 688 = .ok (.iconst 1, 1) := by decide +kernel
theorem dL_law_689 : decode cL_law 689 = .ok (.iadd, 1) := by decide +kernel
theorem dL_law_690 : decode cL_law 690 = .ok (.iaload, 1) := by decide +kernel
theorem dL_law_691 : decode cL_law 691 = .ok (.aload_n 0, 1) := by decide +kernel
theorem dL_law_692 : decode cL_law 692 = .ok (.iload_n 3, 1) := by decide +kernel
theorem dL_law_693 : decode cL_law 693 = .ok (.iconst 2, 1) := by decide +kernel
theorem dL_law_694 : decode cL_law 694 = .ok (.iadd, 1) := by decide +kernel
theorem dL_law_695 : decode cL_law 695 = .ok (.iaload, 1) := by decide +kernel
theorem dL_law_696 : decode cL_law 696 = .ok (.aload_n 0, 1) := by decide +kernel
theorem dL_law_697 : decode cL_law 697 = .ok (.iload_n 3, 1) := by decide +kernel
theorem dL_law_698 : decode cL_law 698 = .ok (.iconst 3, 1) := by decide +kernel
theorem dL_law_699 : decode cL_law 699 = .ok (.iadd, 1) := by decide +kernel
theorem dL_law_700 : decode cL_law 700 = .ok (.iaload, 1) := by decide +kernel
theorem dL_law_701 : decode cL_law 701 = .ok (.invokevirtual 96, 3) := by decide +kernel
theorem dL_law_704 : decode cL_law 704 = .ok (.aload_n 2, 1) := by decide +kernel
theorem dL_law_705 : decode cL_law 705 = .ok (.aload_n 0, 1) := by decide +kernel
theorem dL_law_706 : decode cL_law 706 = .ok (.iload_n 3, 1) := by decide +kernel
theorem dL_law_707 : decode cL_law 707 = .ok (.iconst 1, 1) := by decide +kernel
theorem dL_law_708 : decode cL_law 708 = .ok (.iadd, 1) := by decide +kernel
theorem dL_law_709 : decode cL_law 709 = .ok (.iaload, 1) := by decide +kernel
theorem dL_law_710 : decode cL_law 710 = .ok (.aload_n 0, 1) := by decide +kernel
theorem dL_law_711 : decode cL_law 711 = .ok (.iload_n 3, 1) := by decide +kernel
theorem dL_law_712 : decode cL_law 712 = .ok (.iconst 2, 1) := by decide +kernel
theorem dL_law_713 : decode cL_law 713 = .ok (.iadd, 1) := by decide +kernel
theorem dL_law_714 : decode cL_law 714 = .ok (.iaload, 1) := by decide +kernel
theorem dL_law_715 : decode cL_law 715 = .ok (.aload_n 0, 1) := by decide +kernel
theorem dL_law_716 : decode cL_law 716 = .ok (.iload_n 3, 1) := by decide +kernel
theorem dL_law_717 : decode cL_law 717 = .ok (.iconst 3, 1) := by decide +kernel
theorem dL_law_718 : decode cL_law 718 = .ok (.iadd, 1) := by decide +kernel
theorem dL_law_719 : decode cL_law 719 = .ok (.iaload, 1) := by decide +kernel
theorem dL_law_720 : decode cL_law 720 = .ok (.invokevirtual 99, 3) := by decide +kernel
theorem dL_law_723 : decode cL_law 723 = .ok (.if_icmp .eq 131, 3) := by decide +kernel
theorem dL_law_726 : decode cL_law 726 = .ok (.iconst 0, 1) := by decide +kernel
theorem dL_law_727 : decode cL_law 727 = .ok (.ireturn, 1) := by decide +kernel
theorem dL_law_728 : decode cL_law 728 = .ok (.aload_n 1, 1) := by decide +kernel
theorem dL_law_729 : decode cL_law 729 = .ok (.aload_n 0, 1) := by decide +kernel
theorem dL_law_730 : decode cL_law 730 = .ok (.iload_n 3, 1) := by decide +kernel
theorem dL_law_731 : decode cL_law 731 = .ok (.iconst 1, 1) := by decide +kernel
theorem dL_law_732 : decode cL_law 732 = .ok (.iadd, 1) := by decide +kernel
theorem dL_law_733 : decode cL_law 733 = .ok (.iaload, 1) := by decide +kernel
theorem dL_law_734 : decode cL_law 734 = .ok (.aload_n 0, 1) := by decide +kernel
theorem dL_law_735 : decode cL_law 735 = .ok (.iload_n 3, 1) := by decide +kernel
theorem dL_law_736 : decode cL_law 736 = .ok (.iconst 2, 1) := by decide +kernel
theorem dL_law_737 : decode cL_law 737 = .ok (.iadd, 1) := by decide +kernel
theorem dL_law_738 : decode cL_law 738 = .ok (.iaload, 1) := by decide +kernel
theorem dL_law_739 : decode cL_law 739 = .ok (.aload_n 0, 1) := by decide +kernel
theorem dL_law_740 : decode cL_law 740 = .ok (.iload_n 3, 1) := by decide +kernel
theorem dL_law_741 : decode cL_law 741 = .ok (.iconst 3, 1) := by decide +kernel
theorem dL_law_742 : decode cL_law 742 = .ok (.iadd, 1) := by decide +kernel
theorem dL_law_743 : decode cL_law 743 = .ok (.iaload, 1) := by decide +kernel
theorem dL_law_744 : decode cL_law 744 = .ok (.invokevirtual 100, 3) := by decide +kernel
theorem dL_law_747 : decode cL_law 747 = .ok (.aload_n 2, 1) := by decide +kernel
theorem dL_law_748 : decode cL_law 748 = .ok (.aload_n 0, 1) := by decide +kernel
theorem dL_law_749 : decode cL_law 749 = .ok (.iload_n 3, 1) := by decide +kernel
theorem dL_law_750 : decode cL_law 750 = .ok (.iconst 1, 1) := by decide +kernel
theorem dL_law_751 : decode cL_law 751 = .ok (.iadd, 1) := by decide +kernel
theorem dL_law_752 : decode cL_law 752 = .ok (.iaload, 1) := by decide +kernel
theorem dL_law_753 : decode cL_law 753 = .ok (.aload_n 0, 1) := by decide +kernel
theorem dL_law_754 : decode cL_law 754 = .ok (.iload_n 3, 1) := by decide +kernel
theorem dL_law_755 : decode cL_law 755 = .ok (.iconst 2, 1) := by decide +kernel
theorem dL_law_756 : decode cL_law 756 = .ok (.iadd, 1) := by decide +kernel
theorem dL_law_757 : decode cL_law 757 = .ok (.iaload, 1) := by decide +kernel
theorem dL_law_758 : decode cL_law 758 = .ok (.aload_n 0, 1) := by decide +kernel
theorem dL_law_759 : decode cL_law 759 = .ok (.iload_n 3, 1) := by decide +kernel
theorem dL_law_760 : decode cL_law 760 = .ok (.iconst 3, 1) := by decide +kernel
theorem dL_law_761 : decode cL_law 761 = .ok (.iadd, 1) := by decide +kernel
theorem dL_law_762 : decode cL_law 762 = .ok (.iaload, 1) := by decide +kernel
theorem dL_law_763 : decode cL_law 763 = .ok (.invokevirtual 104, 3) := by decide +kernel
theorem dL_law_766 : decode cL_law 766 = .ok (.lcmp, 1) := by decide +kernel
theorem dL_law_767 : decode cL_law 767 = .ok (.ifCond .eq 87, 3) := by decide +kernel
theorem dL_law_770 : decode cL_law 770 = .ok (.iconst 0, 1) := by decide +kernel
theorem dL_law_771 : decode cL_law 771 = .ok (.ireturn, 1) := by decide +kernel
theorem dL_law_772 : decode cL_law 772 = .ok (.aload_n 1, 1) := by decide +kernel
theorem dL_law_773 : decode cL_law 773 = .ok (.aload_n 0, 1) := by decide +kernel
theorem dL_law_774 : decode cL_law 774 = .ok (.iload_n 3, 1) := by decide +kernel
theorem dL_law_775 : decode cL_law 775 = .ok (.iconst 1, 1) := by decide +kernel
theorem dL_law_776 : decode cL_law 776 = .ok (.iadd, 1) := by decide +kernel
theorem dL_law_777 : decode cL_law 777 = .ok (.iaload, 1) := by decide +kernel
theorem dL_law_778 : decode cL_law 778 = .ok (.aload_n 0, 1) := by decide +kernel
theorem dL_law_779 : decode cL_law 779 = .ok (.iload_n 3, 1) := by decide +kernel
theorem dL_law_780 : decode cL_law 780 = .ok (.iconst 2, 1) := by decide +kernel
theorem dL_law_781 : decode cL_law 781 = .ok (.iadd, 1) := by decide +kernel
theorem dL_law_782 : decode cL_law 782 = .ok (.iaload, 1) := by decide +kernel
theorem dL_law_783 : decode cL_law 783 = .ok (.invokevirtual 105, 3) := by decide +kernel
theorem dL_law_786 : decode cL_law 786 = .ok (.aload_n 2, 1) := by decide +kernel
theorem dL_law_787 : decode cL_law 787 = .ok (.aload_n 0, 1) := by decide +kernel
theorem dL_law_788 : decode cL_law 788 = .ok (.iload_n 3, 1) := by decide +kernel
theorem dL_law_789 : decode cL_law 789 = .ok (.iconst 1, 1) := by decide +kernel
theorem dL_law_790 : decode cL_law 790 = .ok (.iadd, 1) := by decide +kernel
theorem dL_law_791 : decode cL_law 791 = .ok (.iaload, 1) := by decide +kernel
theorem dL_law_792 : decode cL_law 792 = .ok (.aload_n 0, 1) := by decide +kernel
theorem dL_law_793 : decode cL_law 793 = .ok (.iload_n 3, 1) := by decide +kernel
theorem dL_law_794 : decode cL_law 794 = .ok (.iconst 2, 1) := by decide +kernel
theorem dL_law_795 : decode cL_law 795 = .ok (.iadd, 1) := by decide +kernel
theorem dL_law_796 : decode cL_law 796 = .ok (.iaload, 1) := by decide +kernel
theorem dL_law_797 : decode cL_law 797 = .ok (.invokevirtual 108, 3) := by decide +kernel
theorem dL_law_800 : decode cL_law 800 = .ok (.if_icmp .eq 54, 3) := by decide +kernel
theorem dL_law_803 : decode cL_law 803 = .ok (.iconst 0, 1) := by decide +kernel
theorem dL_law_804 : decode cL_law 804 = .ok (.ireturn, 1) := by decide +kernel
theorem dL_law_805 : decode cL_law 805 = .ok (.aload_n 1, 1) := by decide +kernel
theorem dL_law_806 : decode cL_law 806 = .ok (.invokevirtual 109, 3) := by decide +kernel
theorem dL_law_809 : decode cL_law 809 = .ok (.aload_n 2, 1) := by decide +kernel
theorem dL_law_810 : decode cL_law 810 = .ok (.invokevirtual 112, 3) := by decide +kernel
theorem dL_law_813 : decode cL_law 813 = .ok (.if_icmp .eq 41, 3) := by decide +kernel
theorem dL_law_816 : decode cL_law 816 = .ok (.iconst 0, 1) := by decide +kernel
theorem dL_law_817 : decode cL_law 817 = .ok (.ireturn, 1) := by decide +kernel
theorem dL_law_818 : decode cL_law 818 = .ok (.aload_n 1, 1) := by decide +kernel
theorem dL_law_819 : decode cL_law 819 = .ok (.invokevirtual 113, 3) := by decide +kernel
theorem dL_law_822 : decode cL_law 822 = .ok (.aload_n 2, 1) := by decide +kernel
theorem dL_law_823 : decode cL_law 823 = .ok (.invokevirtual 116, 3) := by decide +kernel
theorem dL_law_826 : decode cL_law 826 = .ok (.if_icmp .eq 28, 3) := by decide +kernel
theorem dL_law_829 : decode cL_law 829 = .ok (.iconst 0, 1) := by decide +kernel
theorem dL_law_830 : decode cL_law 830 = .ok (.ireturn, 1) := by decide +kernel
theorem dL_law_831 : decode cL_law 831 = .ok (.aload_n 1, 1) := by decide +kernel
theorem dL_law_832 : decode cL_law 832 = .ok (.aload_n 0, 1) := by decide +kernel
theorem dL_law_833 : decode cL_law 833 = .ok (.iload_n 3, 1) := by decide +kernel
theorem dL_law_834 : decode cL_law 834 = .ok (.iconst 1, 1) := by decide +kernel
theorem dL_law_835 : decode cL_law 835 = .ok (.iadd, 1) := by decide +kernel
theorem dL_law_836 : decode cL_law 836 = .ok (.iaload, 1) := by decide +kernel
theorem dL_law_837 : decode cL_law 837 = .ok (.invokevirtual 117, 3) := by decide +kernel
theorem dL_law_840 : decode cL_law 840 = .ok (.aload_n 2, 1) := by decide +kernel
theorem dL_law_841 : decode cL_law 841 = .ok (.aload_n 0, 1) := by decide +kernel
theorem dL_law_842 : decode cL_law 842 = .ok (.iload_n 3, 1) := by decide +kernel
theorem dL_law_843 : decode cL_law 843 = .ok (.iconst 1, 1) := by decide +kernel
theorem dL_law_844 : decode cL_law 844 = .ok (.iadd, 1) := by decide +kernel
theorem dL_law_845 : decode cL_law 845 = .ok (.iaload, 1) := by decide +kernel
theorem dL_law_846 : decode cL_law 846 = .ok (.invokevirtual 120, 3) := by decide +kernel
theorem dL_law_849 : decode cL_law 849 = .ok (.if_icmp .eq 5, 3) := by decide +kernel
theorem dL_law_852 : decode cL_law 852 = .ok (.iconst 0, 1) := by decide +kernel
theorem dL_law_853 : decode cL_law 853 = .ok (.ireturn, 1) := by decide +kernel
theorem dL_law_854 : decode cL_law 854 = .ok (.iinc 3 4, 3) := by decide +kernel
theorem dL_law_857 : decode cL_law 857 = .ok (.goto (-839), 3) := by decide +kernel
theorem dL_law_860 : decode cL_law 860 = .ok (.iconst 1, 1) := by decide +kernel
theorem dL_law_861 : decode cL_law 861 = .ok (.ireturn, 1) := by decide +kernel
