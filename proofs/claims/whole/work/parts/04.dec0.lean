theorem dX0_init_0 : decode cX0_init 0 = .ok (.aload_n 0, 1) := by decide +kernel
theorem dX0_init_1 : decode cX0_init 1 = .ok (.invokespecial 1, 3) := by decide +kernel
theorem dX0_init_4 : decode cX0_init 4 = .ok (.aload_n 0, 1) := by decide +kernel
theorem dX0_init_5 : decode cX0_init 5 = .ok (.bipush 24, 2) := by decide +kernel
theorem dX0_init_7 : decode cX0_init 7 = .ok (.newarray .int, 2) := by decide +kernel
theorem dX0_init_9 : decode cX0_init 9 = .ok (.putfield 9, 3) := by decide +kernel
theorem dX0_init_12 : decode cX0_init 12 = .ok (.aload_n 0, 1) := by decide +kernel
theorem dX0_init_13 : decode cX0_init 13 = .ok (.bipush 24, 2) := by decide +kernel
theorem dX0_init_15 : decode cX0_init 15 = .ok (.newarray .int, 2) := by decide +kernel
theorem dX0_init_17 : decode cX0_init 17 = .ok (.putfield 13, 3) := by decide +kernel
theorem dX0_init_20 : decode cX0_init 20 = .ok (.aload_n 0, 1) := by decide +kernel
theorem dX0_init_21 : decode cX0_init 21 = .ok (.bipush 24, 2) := by decide +kernel
theorem dX0_init_23 : decode cX0_init 23 = .ok (.newarray .long, 2) := by decide +kernel
theorem dX0_init_25 : decode cX0_init 25 = .ok (.putfield 16, 3) := by decide +kernel
theorem dX0_init_28 : decode cX0_init 28 = .ok (.aload_n 0, 1) := by decide +kernel
theorem dX0_init_29 : decode cX0_init 29 = .ok (.iconst 0, 1) := by decide +kernel
theorem dX0_init_30 : decode cX0_init 30 = .ok (.putfield 20, 3) := by decide +kernel
theorem dX0_init_33 : decode cX0_init 33 = .ok (.aload_n 0, 1) := by decide +kernel
theorem dX0_init_34 : decode cX0_init 34 = .ok (.lconst 0, 1) := by decide +kernel
theorem dX0_init_35 : decode cX0_init 35 = .ok (.putfield 24, 3) := by decide +kernel
theorem dX0_init_38 : decode cX0_init 38 = .ok (.return_, 1) := by decide +kernel
theorem dX0_isFull_0 : decode cX0_isFull 0 = .ok (.aload_n 0, 1) := by decide +kernel
theorem dX0_isFull_1 : decode cX0_isFull 1 = .ok (.getfield 20, 3) := by decide +kernel
theorem dX0_isFull_4 : decode cX0_isFull 4 = .ok (.bipush 24, 2) := by decide +kernel
theorem dX0_isFull_6 : decode cX0_isFull 6 = .ok (.if_icmp .lt 7, 3) := by decide +kernel
theorem dX0_isFull_9 : decode cX0_isFull 9 = .ok (.iconst 1, 1) := by decide +kernel
theorem dX0_isFull_10 : decode cX0_isFull 10 = .ok (.goto 4, 3) := by decide +kernel
theorem dX0_isFull_13 : decode cX0_isFull 13 = .ok (.iconst 0, 1) := by decide +kernel
theorem dX0_isFull_14 : decode cX0_isFull 14 = .ok (.ireturn, 1) := by decide +kernel
theorem dX0_post_0 : decode cX0_post 0 = .ok (.aload_n 0, 1) := by decide +kernel
theorem dX0_post_1 : decode cX0_post 1 = .ok (.getfield 9, 3) := by decide +kernel
theorem dX0_post_4 : decode cX0_post 4 = .ok (.aload_n 0, 1) := by decide +kernel
theorem dX0_post_5 : decode cX0_post 5 = .ok (.getfield 20, 3) := by decide +kernel
theorem dX0_post_8 : decode cX0_post 8 = .ok (.iload_n 1, 1) := by decide +kernel
theorem dX0_post_9 : decode cX0_post 9 = .ok (.iastore, 1) := by decide +kernel
theorem dX0_post_10 : decode cX0_post 10 = .ok (.aload_n 0, 1) := by decide +kernel
theorem dX0_post_11 : decode cX0_post 11 = .ok (.getfield 13, 3) := by decide +kernel
theorem dX0_post_14 : decode cX0_post 14 = .ok (.aload_n 0, 1) := by decide +kernel
theorem dX0_post_15 : decode cX0_post 15 = .ok (.getfield 20, 3) := by decide +kernel
theorem dX0_post_18 : decode cX0_post 18 = .ok (.iload_n 2, 1) := by decide +kernel
theorem dX0_post_19 : decode cX0_post 19 = .ok (.iastore, 1) := by decide +kernel
theorem dX0_post_20 : decode cX0_post 20 = .ok (.aload_n 0, 1) := by decide +kernel
theorem dX0_post_21 : decode cX0_post 21 = .ok (.getfield 16, 3) := by decide +kernel
theorem dX0_post_24 : decode cX0_post 24 = .ok (.aload_n 0, 1) := by decide +kernel
theorem dX0_post_25 : decode cX0_post 25 = .ok (.getfield 20, 3) := by decide +kernel
theorem dX0_post_28 : decode cX0_post 28 = .ok (.lload_n 3, 1) := by decide +kernel
theorem dX0_post_29 : decode cX0_post 29 = .ok (.lastore, 1) := by decide +kernel
theorem dX0_post_30 : decode cX0_post 30 = .ok (.aload_n 0, 1) := by decide +kernel
theorem dX0_post_31 : decode cX0_post 31 = .ok (.dup, 1) := by decide +kernel
theorem dX0_post_32 : decode cX0_post 32 = .ok (.getfield 20, 3) := by decide +kernel
theorem dX0_post_35 : decode cX0_post 35 = .ok (.iconst 1, 1) := by decide +kernel
theorem dX0_post_36 : decode cX0_post 36 = .ok (.iadd, 1) := by decide +kernel
theorem dX0_post_37 : decode cX0_post 37 = .ok (.putfield 20, 3) := by decide +kernel
theorem dX0_post_40 : decode cX0_post 40 = .ok (.aload_n 0, 1) := by decide +kernel
theorem dX0_post_41 : decode cX0_post 41 = .ok (.dup, 1) := by decide +kernel
theorem dX0_post_42 : decode cX0_post 42 = .ok (.getfield 24, 3) := by decide +kernel
theorem dX0_post_45 : decode cX0_post 45 = .ok (.lload_n 3, 1) := by decide +kernel
theorem dX0_post_46 : decode cX0_post 46 = .ok (.ladd, 1) := by decide +kernel
theorem dX0_post_47 : decode cX0_post 47 = .ok (.putfield 24, 3) := by decide +kernel
theorem dX0_post_50 : decode cX0_post 50 = .ok (.return_, 1) := by decide +kernel
theorem dX0_interestFor_0 : decode cX0_interestFor 0 = .ok (.aload_n 0, 1) := by decide +kernel
theorem dX0_interestFor_1 : decode cX0_interestFor 1 = .ok (.getfield 24, 3) := by decide +kernel
theorem dX0_interestFor_4 : decode cX0_interestFor 4 = .ok (.lconst 0, 1) := by decide +kernel
theorem dX0_interestFor_5 : decode cX0_interestFor 5 = .ok (.lcmp, 1) := by decide +kernel
theorem dX0_interestFor_6 : decode cX0_interestFor 6 = .ok (.ifCond .gt 5, 3) := by decide +kernel
theorem dX0_interestFor_9 : decode cX0_interestFor 9 = .ok (.lconst 0, 1) := by decide +kernel
theorem dX0_interestFor_10 : decode cX0_interestFor 10 = .ok (.lreturn, 1) := by decide +kernel
theorem dX0_interestFor_11 : decode cX0_interestFor 11 = .ok (.aload_n 0, 1) := by decide +kernel
theorem dX0_interestFor_12 : decode cX0_interestFor 12 = .ok (.getfield 24, 3) := by decide +kernel
theorem dX0_interestFor_15 : decode cX0_interestFor 15 = .ok (.ldc2_w 28, 3) := by decide +kernel
theorem dX0_interestFor_18 : decode cX0_interestFor 18 = .ok (.lrem, 1) := by decide +kernel
theorem dX0_interestFor_19 : decode cX0_interestFor 19 = .ok (.iload_n 1, 1) := by decide +kernel
theorem dX0_interestFor_20 : decode cX0_interestFor 20 = .ok (.i2l, 1) := by decide +kernel
theorem dX0_interestFor_21 : decode cX0_interestFor 21 = .ok (.lmul, 1) := by decide +kernel
theorem dX0_interestFor_22 : decode cX0_interestFor 22 = .ok (.ldc2_w 28, 3) := by decide +kernel
theorem dX0_interestFor_25 : decode cX0_interestFor 25 = .ok (.ldiv, 1) := by decide +kernel
theorem dX0_interestFor_26 : decode cX0_interestFor 26 = .ok (.lstore_n 2, 1) := by decide +kernel
theorem dX0_interestFor_27 : decode cX0_interestFor 27 = .ok (.aload_n 0, 1) := by decide +kernel
theorem dX0_interestFor_28 : decode cX0_interestFor 28 = .ok (.getfield 24, 3) := by decide +kernel
theorem dX0_interestFor_31 : decode cX0_interestFor 31 = .ok (.ldc2_w 28, 3) := by decide +kernel
theorem dX0_interestFor_34 : decode cX0_interestFor 34 = .ok (.ldiv, 1) := by decide +kernel
theorem dX0_interestFor_35 : decode cX0_interestFor 35 = .ok (.iload_n 1, 1) := by decide +kernel
theorem dX0_interestFor_36 : decode cX0_interestFor 36 = .ok (.i2l, 1) := by decide +kernel
theorem dX0_interestFor_37 : decode cX0_interestFor 37 = .ok (.lmul, 1) := by decide +kernel
theorem dX0_interestFor_38 : decode cX0_interestFor 38 = .ok (.lload_n 2, 1) := by decide +kernel
theorem dX0_interestFor_39 : decode cX0_interestFor 39 = .ok (.ladd, 1) := by decide +kernel
theorem dX0_interestFor_40 : decode cX0_interestFor 40 = .ok (.lreturn, 1) := by decide +kernel
theorem dX1_init_0 : decode cX1_init 0 = .ok (.aload_n 0, 1) := by decide +kernel
theorem dX1_init_1 : decode cX1_init 1 = .ok (.invokespecial 3, 3) := by decide +kernel
theorem dX1_init_4 : decode cX1_init 4 = .ok (.aload_n 0, 1) := by decide +kernel
theorem dX1_init_5 : decode cX1_init 5 = .ok (.iconst 3, 1) := by decide +kernel
theorem dX1_init_6 : decode cX1_init 6 = .ok (.anewarray 9, 3) := by decide +kernel
theorem dX1_init_9 : decode cX1_init 9 = .ok (.putfield 11, 3) := by decide +kernel
theorem dX1_init_12 : decode cX1_init 12 = .ok (.aload_n 0, 1) := by decide +kernel
theorem dX1_init_13 : decode cX1_init 13 = .ok (.bipush 12, 2) := by decide +kernel
theorem dX1_init_15 : decode cX1_init 15 = .ok (.newarray .long, 2) := by decide +kernel
theorem dX1_init_17 : decode cX1_init 17 = .ok (.putfield 17, 3) := by decide +kernel
theorem dX1_init_20 : decode cX1_init 20 = .ok (.aload_n 0, 1) := by decide +kernel
theorem dX1_init_21 : decode cX1_init 21 = .ok (.new 21, 3) := by decide +kernel
theorem dX1_init_24 : decode cX1_init 24 = .ok (.dup, 1) := by decide +kernel
theorem dX1_init_25 : decode cX1_init 25 = .ok (.invokespecial 23, 3) := by decide +kernel
theorem dX1_init_28 : decode cX1_init 28 = .ok (.putfield 24, 3) := by decide +kernel
theorem dX1_init_31 : decode cX1_init 31 = .ok (.aload_n 0, 1) := by decide +kernel
theorem dX1_init_32 : decode cX1_init 32 = .ok (.iconst 0, 1) := by decide +kernel
theorem dX1_init_33 : decode cX1_init 33 = .ok (.putfield 28, 3) := by decide +kernel
theorem dX1_init_36 : decode cX1_init 36 = .ok (.aload_n 0, 1) := by decide +kernel
theorem dX1_init_37 : decode cX1_init 37 = .ok (.iconst 0, 1) := by decide +kernel
theorem dX1_init_38 : decode cX1_init 38 = .ok (.putfield 32, 3) := by decide +kernel
theorem dX1_init_41 : decode cX1_init 41 = .ok (.aload_n 0, 1) := by decide +kernel
theorem dX1_init_42 : decode cX1_init 42 = .ok (.aload_n 0, 1) := by decide +kernel
theorem dX1_init_43 : decode cX1_init 43 = .ok (.getfield 17, 3) := by decide +kernel
theorem dX1_init_46 : decode cX1_init 46 = .ok (.putfield 36, 3) := by decide +kernel
theorem dX1_init_49 : decode cX1_init 49 = .ok (.aload_n 0, 1) := by decide +kernel
theorem dX1_init_50 : decode cX1_init 50 = .ok (.aload_n 0, 1) := by decide +kernel
theorem dX1_init_51 : decode cX1_init 51 = .ok (.getfield 17, 3) := by decide +kernel
theorem dX1_init_54 : decode cX1_init 54 = .ok (.putfield 39, 3) := by decide +kernel
theorem dX1_init_57 : decode cX1_init 57 = .ok (.aload_n 0, 1) := by decide +kernel
theorem dX1_init_58 : decode cX1_init 58 = .ok (.iconst 0, 1) := by decide +kernel
theorem dX1_init_59 : decode cX1_init 59 = .ok (.putfield 42, 3) := by decide +kernel
theorem dX1_init_62 : decode cX1_init 62 = .ok (.aload_n 0, 1) := by decide +kernel
theorem dX1_init_63 : decode cX1_init 63 = .ok (.iconst 0, 1) := by decide +kernel
theorem dX1_init_64 : decode cX1_init 64 = .ok (.putfield 45, 3) := by decide +kernel
theorem dX1_init_67 : decode cX1_init 67 = .ok (.iconst 0, 1) := by decide +kernel
theorem dX1_init_68 : decode cX1_init 68 = .ok (.istore_n 1, 1) := by decide +kernel
theorem dX1_init_69 : decode cX1_init 69 = .ok (.iload_n 1, 1) := by decide +kernel
theorem dX1_init_70 : decode cX1_init 70 = .ok (.iconst 3, 1) := by decide +kernel
theorem dX1_init_71 : decode cX1_init 71 = .ok (.if_icmp .ge 22, 3) := by decide +kernel
theorem dX1_init_74 : decode cX1_init 74 = .ok (.aload_n 0, 1) := by decide +kernel
theorem dX1_init_75 : decode cX1_init 75 = .ok (.getfield 11, 3) := by decide +kernel
theorem dX1_init_78 : decode cX1_init 78 = .ok (.iload_n 1, 1) := by decide +kernel
theorem dX1_init_79 : decode cX1_init 79 = .ok (.new 9, 3) := by decide +kernel
theorem dX1_init_82 : decode cX1_init 82 = .ok (.dup, 1) := by decide +kernel
theorem dX1_init_83 : decode cX1_init 83 = .ok (.invokespecial 48, 3) := by decide +kernel
theorem dX1_init_86 : decode cX1_init 86 = .ok (.aastore, 1) := by decide +kernel
theorem dX1_init_87 : decode cX1_init 87 = .ok (.iinc 1 1, 3) := by decide +kernel
theorem dX1_init_90 : decode cX1_init 90 = .ok (.goto (-21), 3) := by decide +kernel
theorem dX1_init_93 : decode cX1_init 93 = .ok (.return_, 1) := by decide +kernel
theorem dX1_isFormula_0 : decode cX1_isFormula 0 = .ok (.aload_n 0, 1) := by decide +kernel
theorem dX1_isFormula_1 : decode cX1_isFormula 1 = .ok (.aload_n 1, 1) := by decide +kernel
theorem dX1_isFormula_2 : decode cX1_isFormula 2 = .ok (.aload_n 0, 1) := by decide +kernel
theorem dX1_isFormula_3 : decode cX1_isFormula 3 = .ok (.getfield 17, 3) := by decide +kernel
theorem dX1_isFormula_6 : decode cX1_isFormula 6 = .ok (.aload_n 0, 1) := by decide +kernel
theorem dX1_isFormula_7 : decode cX1_isFormula 7 = .ok (.getfield 17, 3) := by decide +kernel
theorem dX1_isFormula_10 : decode cX1_isFormula 10 = .ok (.invokevirtual 49, 3) := by decide +kernel
theorem dX1_isFormula_13 : decode cX1_isFormula 13 = .ok (.aload_n 0, 1) := by decide +kernel
theorem dX1_isFormula_14 : decode cX1_isFormula 14 = .ok (.iconst 0, 1) := by decide +kernel
theorem dX1_isFormula_15 : decode cX1_isFormula 15 = .ok (.iconst 0, 1) := by decide +kernel
theorem dX1_isFormula_16 : decode cX1_isFormula 16 = .ok (.iconst 0, 1) := by decide +kernel
theorem dX1_isFormula_17 : decode cX1_isFormula 17 = .ok (.invokevirtual 53, 3) := by decide +kernel
theorem dX1_isFormula_20 : decode cX1_isFormula 20 = .ok (.pop2, 1) := by decide +kernel
theorem dX1_isFormula_21 : decode cX1_isFormula 21 = .ok (.aload_n 0, 1) := by decide +kernel
theorem dX1_isFormula_22 : decode cX1_isFormula 22 = .ok (.getfield 32, 3) := by decide +kernel
theorem dX1_isFormula_25 : decode cX1_isFormula 25 = .ok (.ifCond .ne 18, 3) := by decide +kernel
theorem dX1_isFormula_28 : decode cX1_isFormula 28 = .ok (.aload_n 0, 1) := by decide +kernel
theorem dX1_isFormula_29 : decode cX1_isFormula 29 = .ok (.getfield 28, 3) := by decide +kernel
theorem dX1_isFormula_32 : decode cX1_isFormula 32 = .ok (.aload_n 1, 1) := by decide +kernel
theorem dX1_isFormula_33 : decode cX1_isFormula 33 = .ok (.getfield 57, 3) := by decide +kernel
theorem dX1_isFormula_36 : decode cX1_isFormula 36 = .ok (.if_icmp .ne 7, 3) := by decide +kernel
theorem dX1_isFormula_39 : decode cX1_isFormula 39 = .ok (.iconst 1, 1) := by decide +kernel
theorem dX1_isFormula_40 : decode cX1_isFormula 40 = .ok (.goto 4, 3) := by decide +kernel
theorem dX1_isFormula_43 : decode cX1_isFormula 43 = .ok (.iconst 0, 1) := by decide +kernel
theorem dX1_isFormula_44 : decode cX1_isFormula 44 = .ok (.ireturn, 1) := by decide +kernel
theorem dX1_work_0 : decode cX1_work 0 = .ok (.aload_n 0, 1) := by decide +kernel
theorem dX1_work_1 : decode cX1_work 1 = .ok (.aload_n 1, 1) := by decide +kernel
theorem dX1_work_2 : decode cX1_work 2 = .ok (.aload_n 2, 1) := by decide +kernel
theorem dX1_work_3 : decode cX1_work 3 = .ok (.aload_n 3, 1) := by decide +kernel
theorem dX1_work_4 : decode cX1_work 4 = .ok (.invokevirtual 49, 3) := by decide +kernel
theorem dX1_work_7 : decode cX1_work 7 = .ok (.aload_n 0, 1) := by decide +kernel
theorem dX1_work_8 : decode cX1_work 8 = .ok (.iconst 0, 1) := by decide +kernel
theorem dX1_work_9 : decode cX1_work 9 = .ok (.iconst 0, 1) := by decide +kernel
theorem dX1_work_10 : decode cX1_work 10 = .ok (.iconst 1, 1) := by decide +kernel
theorem dX1_work_11 : decode cX1_work 11 = .ok (.invokevirtual 53, 3) := by decide +kernel
theorem dX1_work_14 : decode cX1_work 14 = .ok (.lreturn, 1) := by decide +kernel
theorem dX1_begin_0 : decode cX1_begin 0 = .ok (.aload_n 0, 1) := by decide +kernel
theorem dX1_begin_1 : decode cX1_begin 1 = .ok (.aload_n 1, 1) := by decide +kernel
theorem dX1_begin_2 : decode cX1_begin 2 = .ok (.putfield 24, 3) := by decide +kernel
theorem dX1_begin_5 : decode cX1_begin 5 = .ok (.aload_n 0, 1) := by decide +kernel
theorem dX1_begin_6 : decode cX1_begin 6 = .ok (.iconst 0, 1) := by decide +kernel
theorem dX1_begin_7 : decode cX1_begin 7 = .ok (.putfield 28, 3) := by decide +kernel
theorem dX1_begin_10 : decode cX1_begin 10 = .ok (.aload_n 0, 1) := by decide +kernel
theorem dX1_begin_11 : decode cX1_begin 11 = .ok (.iconst 0, 1) := by decide +kernel
theorem dX1_begin_12 : decode cX1_begin 12 = .ok (.putfield 32, 3) := by decide +kernel
theorem dX1_begin_15 : decode cX1_begin 15 = .ok (.aload_n 0, 1) := by decide +kernel
theorem dX1_begin_16 : decode cX1_begin 16 = .ok (.aload_n 2, 1) := by decide +kernel
theorem dX1_begin_17 : decode cX1_begin 17 = .ok (.putfield 36, 3) := by decide +kernel
theorem dX1_begin_20 : decode cX1_begin 20 = .ok (.aload_n 0, 1) := by decide +kernel
theorem dX1_begin_21 : decode cX1_begin 21 = .ok (.aload_n 3, 1) := by decide +kernel
theorem dX1_begin_22 : decode cX1_begin 22 = .ok (.putfield 39, 3) := by decide +kernel
theorem dX1_begin_25 : decode cX1_begin 25 = .ok (.aload_n 0, 1) := by decide +kernel
theorem dX1_begin_26 : decode cX1_begin 26 = .ok (.iconst 0, 1) := by decide +kernel
theorem dX1_begin_27 : decode cX1_begin 27 = .ok (.putfield 42, 3) := by decide +kernel
theorem dX1_begin_30 : decode cX1_begin 30 = .ok (.aload_n 0, 1) := by decide +kernel
theorem dX1_begin_31 : decode cX1_begin 31 = .ok (.iconst 0, 1) := by decide +kernel
theorem dX1_begin_32 : decode cX1_begin 32 = .ok (.putfield 45, 3) := by decide +kernel
theorem dX1_begin_35 : decode cX1_begin 35 = .ok (.return_, 1) := by decide +kernel
theorem dX1_readFormula_0 : decode cX1_readFormula 0 = .ok (.iload_n 2, 1) := by decide +kernel
theorem dX1_readFormula_1 : decode cX1_readFormula 1 = .ok (.bipush 40, 2) := by decide +kernel
theorem dX1_readFormula_3 : decode cX1_readFormula 3 = .ok (.if_icmp .le 8, 3) := by decide +kernel
theorem dX1_readFormula_6 : decode cX1_readFormula 6 = .ok (.aload_n 0, 1) := by decide +kernel
theorem dX1_readFormula_7 : decode cX1_readFormula 7 = .ok (.invokevirtual 60, 3) := by decide +kernel
theorem dX1_readFormula_10 : decode cX1_readFormula 10 = .ok (.lreturn, 1) := by decide +kernel
theorem dX1_readFormula_11 : decode cX1_readFormula 11 = .ok (.aload_n 0, 1) := by decide +kernel
theorem dX1_readFormula_12 : decode cX1_readFormula 12 = .ok (.iload_n 1, 1) := by decide +kernel
theorem dX1_readFormula_13 : decode cX1_readFormula 13 = .ok (.iload_n 2, 1) := by decide +kernel
theorem dX1_readFormula_14 : decode cX1_readFormula 14 = .ok (.iload_n 3, 1) := by decide +kernel
theorem dX1_readFormula_15 : decode cX1_readFormula 15 = .ok (.invokevirtual 64, 3) := by decide +kernel
theorem dX1_readFormula_18 : decode cX1_readFormula 18 = .ok (.lstore 4, 2) := by decide +kernel
theorem dX1_readFormula_20 : decode cX1_readFormula 20 = .ok (.aload_n 0, 1) := by decide +kernel
theorem dX1_readFormula_21 : decode cX1_readFormula 21 = .ok (.bipush 60, 2) := by decide +kernel
theorem dX1_readFormula_23 : decode cX1_readFormula 23 = .ok (.invokevirtual 67, 3) := by decide +kernel
theorem dX1_readFormula_26 : decode cX1_readFormula 26 = .ok (.istore 6, 2) := by decide +kernel
theorem dX1_readFormula_28 : decode cX1_readFormula 28 = .ok (.iload 6, 2) := by decide +kernel
theorem dX1_readFormula_30 : decode cX1_readFormula 30 = .ok (.ifCond .ne 15, 3) := by decide +kernel
theorem dX1_readFormula_33 : decode cX1_readFormula 33 = .ok (.aload_n 0, 1) := by decide +kernel
theorem dX1_readFormula_34 : decode cX1_readFormula 34 = .ok (.bipush 62, 2) := by decide +kernel
theorem dX1_readFormula_36 : decode cX1_readFormula 36 = .ok (.invokevirtual 67, 3) := by decide +kernel
theorem dX1_readFormula_39 : decode cX1_readFormula 39 = .ok (.ifCond .ne 6, 3) := by decide +kernel
theorem dX1_readFormula_42 : decode cX1_readFormula 42 = .ok (.lload 4, 2) := by decide +kernel
theorem dX1_readFormula_44 : decode cX1_readFormula 44 = .ok (.lreturn, 1) := by decide +kernel
theorem dX1_readFormula_45 : decode cX1_readFormula 45 = .ok (.aload_n 0, 1) := by decide +kernel
theorem dX1_readFormula_46 : decode cX1_readFormula 46 = .ok (.iload_n 1, 1) := by decide +kernel
theorem dX1_readFormula_47 : decode cX1_readFormula 47 = .ok (.iload_n 2, 1) := by decide +kernel
theorem dX1_readFormula_48 : decode cX1_readFormula 48 = .ok (.iload_n 3, 1) := by decide +kernel
theorem dX1_readFormula_49 : decode cX1_readFormula 49 = .ok (.invokevirtual 64, 3) := by decide +kernel
theorem dX1_readFormula_52 : decode cX1_readFormula 52 = .ok (.lstore 7, 2) := by decide +kernel
theorem dX1_readFormula_54 : decode cX1_readFormula 54 = .ok (.iload 6, 2) := by decide +kernel
theorem dX1_readFormula_56 : decode cX1_readFormula 56 = .ok (.ifCond .eq 19, 3) := by decide +kernel
theorem dX1_readFormula_59 : decode cX1_readFormula 59 = .ok (.lload 4, 2) := by decide +kernel
theorem dX1_readFormula_61 : decode cX1_readFormula 61 = .ok (.lload 7, 2) := by decide +kernel
theorem dX1_readFormula_63 : decode cX1_readFormula 63 = .ok (.lcmp, 1) := by decide +kernel
theorem dX1_readFormula_64 : decode cX1_readFormula 64 = .ok (.ifCond .ge 7, 3) := by decide +kernel
theorem dX1_readFormula_67 : decode cX1_readFormula 67 = .ok (.iconst 1, 1) := by decide +kernel
theorem dX1_readFormula_68 : decode cX1_readFormula 68 = .ok (.goto 20, 3) := by decide +kernel
theorem dX1_readFormula_71 : decode cX1_readFormula 71 = .ok (.iconst 0, 1) := by decide +kernel
theorem dX1_readFormula_72 : decode cX1_readFormula 72 = .ok (.goto 16, 3) := by decide +kernel
theorem dX1_readFormula_75 : decode cX1_readFormula 75 = .ok (.lload 4, 2) := by decide +kernel
theorem dX1_readFormula_77 : decode cX1_readFormula 77 = .ok (.lload 7, 2) := by decide +kernel
theorem dX1_readFormula_79 : decode cX1_readFormula 79 = .ok (.lcmp, 1) := by decide +kernel
theorem dX1_readFormula_80 : decode cX1_readFormula 80 = .ok (.ifCond .le 7, 3) := by decide +kernel
theorem dX1_readFormula_83 : decode cX1_readFormula 83 = .ok (.iconst 1, 1) := by decide +kernel
theorem dX1_readFormula_84 : decode cX1_readFormula 84 = .ok (.goto 4, 3) := by decide +kernel
theorem dX1_readFormula_87 : decode cX1_readFormula 87 = .ok (.iconst 0, 1) := by decide +kernel
theorem dX1_readFormula_88 : decode cX1_readFormula 88 = .ok (.istore 9, 2) := by decide +kernel
theorem dX1_readFormula_90 : decode cX1_readFormula 90 = .ok (.aload_n 0, 1) := by decide +kernel
theorem dX1_readFormula_91 : decode cX1_readFormula 91 = .ok (.bipush 63, 2) := by decide +kernel
theorem dX1_readFormula_93 : decode cX1_readFormula 93 = .ok (.invokevirtual 71, 3) := by decide +kernel
theorem dX1_readFormula_96 : decode cX1_readFormula 96 = .ok (.aload_n 0, 1) := by decide +kernel
theorem dX1_readFormula_97 : decode cX1_readFormula 97 = .ok (.iload_n 1, 1) := by decide +kernel
theorem dX1_readFormula_98 : decode cX1_readFormula 98 = .ok (.iload_n 2, 1) := by decide +kernel
theorem dX1_readFormula_99 : decode cX1_readFormula 99 = .ok (.iconst 1, 1) := by decide +kernel
theorem dX1_readFormula_100 : decode cX1_readFormula 100 = .ok (.iadd, 1) := by decide +kernel
theorem dX1_readFormula_101 : decode cX1_readFormula 101 = .ok (.iload_n 3, 1) := by decide +kernel
theorem dX1_readFormula_102 : decode cX1_readFormula 102 = .ok (.ifCond .eq 12, 3) := by decide +kernel
theorem dX1_readFormula_105 : decode cX1_readFormula 105 = .ok (.iload 9, 2) := by decide +kernel
theorem dX1_readFormula_107 : decode cX1_readFormula 107 = .ok (.ifCond .eq 7, 3) := by decide +kernel
theorem dX1_readFormula_110 : decode cX1_readFormula 110 = .ok (.iconst 1, 1) := by decide +kernel
theorem dX1_readFormula_111 : decode cX1_readFormula 111 = .ok (.goto 4, 3) := by decide +kernel
theorem dX1_readFormula_114 : decode cX1_readFormula 114 = .ok (.iconst 0, 1) := by decide +kernel
theorem dX1_readFormula_115 : decode cX1_readFormula 115 = .ok (.invokevirtual 53, 3) := by decide +kernel
theorem dX1_readFormula_118 : decode cX1_readFormula 118 = .ok (.lstore 10, 2) := by decide +kernel
theorem dX1_readFormula_120 : decode cX1_readFormula 120 = .ok (.aload_n 0, 1) := by decide +kernel
theorem dX1_readFormula_121 : decode cX1_readFormula 121 = .ok (.bipush 58, 2) := by decide +kernel
theorem dX1_readFormula_123 : decode cX1_readFormula 123 = .ok (.invokevirtual 71, 3) := by decide +kernel
theorem dX1_readFormula_126 : decode cX1_readFormula 126 = .ok (.aload_n 0, 1) := by decide +kernel
theorem dX1_readFormula_127 : decode cX1_readFormula 127 = .ok (.iload_n 1, 1) := by decide +kernel
theorem dX1_readFormula_128 : decode cX1_readFormula 128 = .ok (.iload_n 2, 1) := by decide +kernel
theorem dX1_readFormula_129 : decode cX1_readFormula 129 = .ok (.iconst 1, 1) := by decide +kernel
theorem dX1_readFormula_130 : decode cX1_readFormula 130 = .ok (.iadd, 1) := by decide +kernel
theorem dX1_readFormula_131 : decode cX1_readFormula 131 = .ok (.iload_n 3, 1) := by decide +kernel
theorem dX1_readFormula_132 : decode cX1_readFormula 132 = .ok (.ifCond .eq 12, 3) := by decide +kernel
theorem dX1_readFormula_135 : decode cX1_readFormula 135 = .ok (.iload 9, 2) := by decide +kernel
theorem dX1_readFormula_137 : decode cX1_readFormula 137 = .ok (.ifCond .ne 7, 3) := by decide +kernel
theorem dX1_readFormula_140 : decode cX1_readFormula 140 = .ok (.iconst 1, 1) := by decide +kernel
theorem dX1_readFormula_141 : decode cX1_readFormula 141 = .ok (.goto 4, 3) := by decide +kernel
theorem dX1_readFormula_144 : decode cX1_readFormula 144 = .ok (.iconst 0, 1) := by decide +kernel
theorem dX1_readFormula_145 : decode cX1_readFormula 145 = .ok (.invokevirtual 53, 3) := by decide +kernel
theorem dX1_readFormula_148 : decode cX1_readFormula 148 = .ok (.lstore 12, 2) := by decide +kernel
theorem dX1_readFormula_150 : decode cX1_readFormula 150 = .ok (.iload 9, 2) := by decide +kernel
theorem dX1_readFormula_152 : decode cX1_readFormula 152 = .ok (.ifCond .eq 8, 3) := by decide +kernel
theorem dX1_readFormula_155 : decode cX1_readFormula 155 = .ok (.lload 10, 2) := by decide +kernel
theorem dX1_readFormula_157 : decode cX1_readFormula 157 = .ok (.goto 5, 3) := by decide +kernel
theorem dX1_readFormula_160 : decode cX1_readFormula 160 = .ok (.lload 12, 2) := by decide +kernel
theorem dX1_readFormula_162 : decode cX1_readFormula 162 = .ok (.lreturn, 1) := by decide +kernel
theorem dX1_readSum_0 : decode cX1_readSum 0 = .ok (.aload_n 0, 1) := by decide +kernel
theorem dX1_readSum_1 : decode cX1_readSum 1 = .ok (.iload_n 1, 1) := by decide +kernel
theorem dX1_readSum_2 : decode cX1_readSum 2 = .ok (.iload_n 2, 1) := by decide +kernel
theorem dX1_readSum_3 : decode cX1_readSum 3 = .ok (.iload_n 3, 1) := by decide +kernel
theorem dX1_readSum_4 : decode cX1_readSum 4 = .ok (.invokevirtual 75, 3) := by decide +kernel
theorem dX1_readSum_7 : decode cX1_readSum 7 = .ok (.lstore 4, 2) := by decide +kernel
theorem dX1_readSum_9 : decode cX1_readSum 9 = .ok (.iconst 0, 1) := by decide +kernel
theorem dX1_readSum_10 : decode cX1_readSum 10 = .ok (.istore 6, 2) := by decide +kernel
theorem dX1_readSum_12 : decode cX1_readSum 12 = .ok (.iload 6, 2) := by decide +kernel
theorem dX1_readSum_14 : decode cX1_readSum 14 = .ok (.bipush 40, 2) := by decide +kernel
theorem dX1_readSum_16 : decode cX1_readSum 16 = .ok (.if_icmp .ge 64, 3) := by decide +kernel
theorem dX1_readSum_19 : decode cX1_readSum 19 = .ok (.aload_n 0, 1) := by decide +kernel
theorem dX1_readSum_20 : decode cX1_readSum 20 = .ok (.bipush 43, 2) := by decide +kernel
theorem dX1_readSum_22 : decode cX1_readSum 22 = .ok (.invokevirtual 67, 3) := by decide +kernel
theorem dX1_readSum_25 : decode cX1_readSum 25 = .ok (.ifCond .eq 23, 3) := by decide +kernel
theorem dX1_readSum_28 : decode cX1_readSum 28 = .ok (.aload_n 0, 1) := by decide +kernel
theorem dX1_readSum_29 : decode cX1_readSum 29 = .ok (.lload 4, 2) := by decide +kernel
theorem dX1_readSum_31 : decode cX1_readSum 31 = .ok (.aload_n 0, 1) := by decide +kernel
theorem dX1_readSum_32 : decode cX1_readSum 32 = .ok (.iload_n 1, 1) := by decide +kernel
theorem dX1_readSum_33 : decode cX1_readSum 33 = .ok (.iload_n 2, 1) := by decide +kernel
theorem dX1_readSum_34 : decode cX1_readSum 34 = .ok (.iload_n 3, 1) := by decide +kernel
theorem dX1_readSum_35 : decode cX1_readSum 35 = .ok (.invokevirtual 75, 3) := by decide +kernel
theorem dX1_readSum_38 : decode cX1_readSum 38 = .ok (.ladd, 1) := by decide +kernel
theorem dX1_readSum_39 : decode cX1_readSum 39 = .ok (.iload_n 3, 1) := by decide +kernel
theorem dX1_readSum_40 : decode cX1_readSum 40 = .ok (.invokevirtual 78, 3) := by decide +kernel
theorem dX1_readSum_43 : decode cX1_readSum 43 = .ok (.lstore 4, 2) := by decide +kernel
theorem dX1_readSum_45 : decode cX1_readSum 45 = .ok (.goto 29, 3) := by decide +kernel
theorem dX1_readSum_48 : decode cX1_readSum 48 = .ok (.aload_n 0, 1) := by decide +kernel
theorem dX1_readSum_49 : decode cX1_readSum 49 = .ok (.bipush 45, 2) := by decide +kernel
theorem dX1_readSum_51 : decode cX1_readSum 51 = .ok (.invokevirtual 67, 3) := by decide +kernel
theorem dX1_readSum_54 : decode cX1_readSum 54 = .ok (.ifCond .eq 26, 3) := by decide +kernel
theorem dX1_readSum_57 : decode cX1_readSum 57 = .ok (.aload_n 0, 1) := by decide +kernel
theorem dX1_readSum_58 : decode cX1_readSum 58 = .ok (.lload 4, 2) := by decide +kernel
theorem dX1_readSum_60 : decode cX1_readSum 60 = .ok (.aload_n 0, 1) := by decide +kernel
theorem dX1_readSum_61 : decode cX1_readSum 61 = .ok (.iload_n 1, 1) := by decide +kernel
theorem dX1_readSum_62 : decode cX1_readSum 62 = .ok (.iload_n 2, 1) := by decide +kernel
theorem dX1_readSum_63 : decode cX1_readSum 63 = .ok (.iload_n 3, 1) := by decide +kernel
theorem dX1_readSum_64 : decode cX1_readSum 64 = .ok (.invokevirtual 75, 3) := by decide +kernel
theorem dX1_readSum_67 : decode cX1_readSum 67 = .ok (.lsub, 1) := by decide +kernel
theorem dX1_readSum_68 : decode cX1_readSum 68 = .ok (.iload_n 3, 1) := by decide +kernel
theorem dX1_readSum_69 : decode cX1_readSum 69 = .ok (.invokevirtual 78, 3) := by decide +kernel
theorem dX1_readSum_72 : decode cX1_readSum 72 = .ok (.lstore 4, 2) := by decide +kernel
theorem dX1_readSum_74 : decode cX1_readSum 74 = .ok (.iinc 6 1, 3) := by decide +kernel
theorem dX1_readSum_77 : decode cX1_readSum 77 = .ok (.goto (-65), 3) := by decide +kernel
theorem dX1_readSum_80 : decode cX1_readSum 80 = .ok (.lload 4, 2) := by decide +kernel
theorem dX1_readSum_82 : decode cX1_readSum 82 = .ok (.lreturn, 1) := by decide +kernel
theorem dX1_readPart_0 : decode cX1_readPart 0 = .ok (.aload_n 0, 1) := by decide +kernel
theorem dX1_readPart_1 : decode cX1_readPart 1 = .ok (.iload_n 1, 1) := by decide +kernel
theorem dX1_readPart_2 : decode cX1_readPart 2 = .ok (.iload_n 2, 1) := by decide +kernel
theorem dX1_readPart_3 : decode cX1_readPart 3 = .ok (.iload_n 3, 1) := by decide +kernel
theorem dX1_readPart_4 : decode cX1_readPart 4 = .ok (.invokevirtual 82, 3) := by decide +kernel
theorem dX1_readPart_7 : decode cX1_readPart 7 = .ok (.lstore 4, 2) := by decide +kernel
theorem dX1_readPart_9 : decode cX1_readPart 9 = .ok (.aload_n 0, 1) := by decide +kernel
theorem dX1_readPart_10 : decode cX1_readPart 10 = .ok (.bipush 42, 2) := by decide +kernel
theorem dX1_readPart_12 : decode cX1_readPart 12 = .ok (.invokevirtual 67, 3) := by decide +kernel
theorem dX1_readPart_15 : decode cX1_readPart 15 = .ok (.ifCond .ne 6, 3) := by decide +kernel
theorem dX1_readPart_18 : decode cX1_readPart 18 = .ok (.lload 4, 2) := by decide +kernel
theorem dX1_readPart_20 : decode cX1_readPart 20 = .ok (.lreturn, 1) := by decide +kernel
theorem dX1_readPart_21 : decode cX1_readPart 21 = .ok (.lload 4, 2) := by decide +kernel
theorem dX1_readPart_23 : decode cX1_readPart 23 = .ok (.aload_n 0, 1) := by decide +kernel
theorem dX1_readPart_24 : decode cX1_readPart 24 = .ok (.iconst 3, 1) := by decide +kernel
theorem dX1_readPart_25 : decode cX1_readPart 25 = .ok (.invokevirtual 85, 3) := by decide +kernel
theorem dX1_readPart_28 : decode cX1_readPart 28 = .ok (.lmul, 1) := by decide +kernel
theorem dX1_readPart_29 : decode cX1_readPart 29 = .ok (.lstore 6, 2) := by decide +kernel
theorem dX1_readPart_31 : decode cX1_readPart 31 = .ok (.aload_n 0, 1) := by decide +kernel
theorem dX1_readPart_32 : decode cX1_readPart 32 = .ok (.bipush 37, 2) := by decide +kernel
theorem dX1_readPart_34 : decode cX1_readPart 34 = .ok (.invokevirtual 71, 3) := by decide +kernel
theorem dX1_readPart_37 : decode cX1_readPart 37 = .ok (.lload 6, 2) := by decide +kernel
theorem dX1_readPart_39 : decode cX1_readPart 39 = .ok (.ldc2_w 89, 3) := by decide +kernel
theorem dX1_readPart_42 : decode cX1_readPart 42 = .ok (.invokestatic 91, 3) := by decide +kernel
theorem dX1_readPart_45 : decode cX1_readPart 45 = .ok (.lstore 8, 2) := by decide +kernel
theorem dX1_readPart_47 : decode cX1_readPart 47 = .ok (.lload 6, 2) := by decide +kernel
theorem dX1_readPart_49 : decode cX1_readPart 49 = .ok (.ldc2_w 89, 3) := by decide +kernel
theorem dX1_readPart_52 : decode cX1_readPart 52 = .ok (.invokestatic 97, 3) := by decide +kernel
theorem dX1_readPart_55 : decode cX1_readPart 55 = .ok (.lstore 10, 2) := by decide +kernel
theorem dX1_readPart_57 : decode cX1_readPart 57 = .ok (.aload_n 0, 1) := by decide +kernel
theorem dX1_readPart_58 : decode cX1_readPart 58 = .ok (.lload 8, 2) := by decide +kernel
theorem dX1_readPart_60 : decode cX1_readPart 60 = .ok (.lload 10, 2) := by decide +kernel
theorem dX1_readPart_62 : decode cX1_readPart 62 = .ok (.ldc2_w 100, 3) := by decide +kernel
theorem dX1_readPart_65 : decode cX1_readPart 65 = .ok (.invokestatic 102, 3) := by decide +kernel
theorem dX1_readPart_68 : decode cX1_readPart 68 = .ok (.ifCond .eq 10, 3) := by decide +kernel
theorem dX1_readPart_71 : decode cX1_readPart 71 = .ok (.lload 8, 2) := by decide +kernel
theorem dX1_readPart_73 : decode cX1_readPart 73 = .ok (.lconst 1, 1) := by decide +kernel
theorem dX1_readPart_74 : decode cX1_readPart 74 = .ok (.ladd, 1) := by decide +kernel
theorem dX1_readPart_75 : decode cX1_readPart 75 = .ok (.goto 5, 3) := by decide +kernel
theorem dX1_readPart_78 : decode cX1_readPart 78 = .ok (.lload 8, 2) := by decide +kernel
theorem dX1_readPart_80 : decode cX1_readPart 80 = .ok (.iload_n 3, 1) := by decide +kernel
theorem dX1_readPart_81 : decode cX1_readPart 81 = .ok (.invokevirtual 78, 3) := by decide +kernel
theorem dX1_readPart_84 : decode cX1_readPart 84 = .ok (.lreturn, 1) := by decide +kernel
theorem dX1_readUnit_0 : decode cX1_readUnit 0 = .ok (.aload_n 0, 1) := by decide +kernel
theorem dX1_readUnit_1 : decode cX1_readUnit 1 = .ok (.invokevirtual 106, 3) := by decide +kernel
theorem dX1_readUnit_4 : decode cX1_readUnit 4 = .ok (.istore 4, 2) := by decide +kernel
theorem dX1_readUnit_6 : decode cX1_readUnit 6 = .ok (.iload 4, 2) := by decide +kernel
theorem dX1_readUnit_8 : decode cX1_readUnit 8 = .ok (.bipush 65, 2) := by decide +kernel
theorem dX1_readUnit_10 : decode cX1_readUnit 10 = .ok (.if_icmp .lt 20, 3) := by decide +kernel
theorem dX1_readUnit_13 : decode cX1_readUnit 13 = .ok (.iload 4, 2) := by decide +kernel
theorem dX1_readUnit_15 : decode cX1_readUnit 15 = .ok (.bipush 76, 2) := by decide +kernel
theorem dX1_readUnit_17 : decode cX1_readUnit 17 = .ok (.if_icmp .gt 13, 3) := by decide +kernel
theorem dX1_readUnit_20 : decode cX1_readUnit 20 = .ok (.aload_n 0, 1) := by decide +kernel
theorem dX1_readUnit_21 : decode cX1_readUnit 21 = .ok (.iload 4, 2) := by decide +kernel
theorem dX1_readUnit_23 : decode cX1_readUnit 23 = .ok (.bipush 65, 2) := by decide +kernel
theorem dX1_readUnit_25 : decode cX1_readUnit 25 = .ok (.isub, 1) := by decide +kernel
theorem dX1_readUnit_26 : decode cX1_readUnit 26 = .ok (.invokevirtual 110, 3) := by decide +kernel
theorem dX1_readUnit_29 : decode cX1_readUnit 29 = .ok (.lreturn, 1) := by decide +kernel
theorem dX1_readUnit_30 : decode cX1_readUnit 30 = .ok (.iload 4, 2) := by decide +kernel
theorem dX1_readUnit_32 : decode cX1_readUnit 32 = .ok (.invokestatic 113, 3) := by decide +kernel
theorem dX1_readUnit_35 : decode cX1_readUnit 35 = .ok (.ifCond .eq 10, 3) := by decide +kernel
theorem dX1_readUnit_38 : decode cX1_readUnit 38 = .ok (.aload_n 0, 1) := by decide +kernel
theorem dX1_readUnit_39 : decode cX1_readUnit 39 = .ok (.bipush 6, 2) := by decide +kernel
theorem dX1_readUnit_41 : decode cX1_readUnit 41 = .ok (.invokevirtual 85, 3) := by decide +kernel
theorem dX1_readUnit_44 : decode cX1_readUnit 44 = .ok (.lreturn, 1) := by decide +kernel
theorem dX1_readUnit_45 : decode cX1_readUnit 45 = .ok (.iload_n 1, 1) := by decide +kernel
theorem dX1_readUnit_46 : decode cX1_readUnit 46 = .ok (.iconst 4, 1) := by decide +kernel
theorem dX1_readUnit_47 : decode cX1_readUnit 47 = .ok (.if_icmp .lt 8, 3) := by decide +kernel
theorem dX1_readUnit_50 : decode cX1_readUnit 50 = .ok (.aload_n 0, 1) := by decide +kernel
theorem dX1_readUnit_51 : decode cX1_readUnit 51 = .ok (.invokevirtual 60, 3) := by decide +kernel
theorem dX1_readUnit_54 : decode cX1_readUnit 54 = .ok (.lreturn, 1) := by decide +kernel
theorem dX1_readUnit_55 : decode cX1_readUnit 55 = .ok (.iload 4, 2) := by decide +kernel
theorem dX1_readUnit_57 : decode cX1_readUnit 57 = .ok (.bipush 40, 2) := by decide +kernel
theorem dX1_readUnit_59 : decode cX1_readUnit 59 = .ok (.if_icmp .ne 15, 3) := by decide +kernel
theorem dX1_readUnit_62 : decode cX1_readUnit 62 = .ok (.aload_n 0, 1) := by decide +kernel
theorem dX1_readUnit_63 : decode cX1_readUnit 63 = .ok (.iload_n 1, 1) := by decide +kernel
theorem dX1_readUnit_64 : decode cX1_readUnit 64 = .ok (.iconst 1, 1) := by decide +kernel
theorem dX1_readUnit_65 : decode cX1_readUnit 65 = .ok (.iadd, 1) := by decide +kernel
theorem dX1_readUnit_66 : decode cX1_readUnit 66 = .ok (.iload_n 2, 1) := by decide +kernel
theorem dX1_readUnit_67 : decode cX1_readUnit 67 = .ok (.iconst 1, 1) := by decide +kernel
theorem dX1_readUnit_68 : decode cX1_readUnit 68 = .ok (.iadd, 1) := by decide +kernel
theorem dX1_readUnit_69 : decode cX1_readUnit 69 = .ok (.iload_n 3, 1) := by decide +kernel
theorem dX1_readUnit_70 : decode cX1_readUnit 70 = .ok (.invokevirtual 116, 3) := by decide +kernel
theorem dX1_readUnit_73 : decode cX1_readUnit 73 = .ok (.lreturn, 1) := by decide +kernel
theorem dX1_readUnit_74 : decode cX1_readUnit 74 = .ok (.iload 4, 2) := by decide +kernel
theorem dX1_readUnit_76 : decode cX1_readUnit 76 = .ok (.bipush 109, 2) := by decide +kernel
theorem dX1_readUnit_78 : decode cX1_readUnit 78 = .ok (.if_icmp .eq 10, 3) := by decide +kernel
theorem dX1_readUnit_81 : decode cX1_readUnit 81 = .ok (.iload 4, 2) := by decide +kernel
theorem dX1_readUnit_83 : decode cX1_readUnit 83 = .ok (.bipush 120, 2) := by decide +kernel
theorem dX1_readUnit_85 : decode cX1_readUnit 85 = .ok (.if_icmp .ne 15, 3) := by decide +kernel
theorem dX1_readUnit_88 : decode cX1_readUnit 88 = .ok (.aload_n 0, 1) := by decide +kernel
theorem dX1_readUnit_89 : decode cX1_readUnit 89 = .ok (.iload_n 1, 1) := by decide +kernel
theorem dX1_readUnit_90 : decode cX1_readUnit 90 = .ok (.iconst 1, 1) := by decide +kernel
theorem dX1_readUnit_91 : decode cX1_readUnit 91 = .ok (.iadd, 1) := by decide +kernel
theorem dX1_readUnit_92 : decode cX1_readUnit 92 = .ok (.iload_n 2, 1) := by decide +kernel
theorem dX1_readUnit_93 : decode cX1_readUnit 93 = .ok (.iconst 1, 1) := by decide +kernel
theorem dX1_readUnit_94 : decode cX1_readUnit 94 = .ok (.iadd, 1) := by decide +kernel
theorem dX1_readUnit_95 : decode cX1_readUnit 95 = .ok (.iload_n 3, 1) := by decide +kernel
theorem dX1_readUnit_96 : decode cX1_readUnit 96 = .ok (.invokevirtual 119, 3) := by decide +kernel
theorem dX1_readUnit_99 : decode cX1_readUnit 99 = .ok (.lreturn, 1) := by decide +kernel
theorem dX1_readUnit_100 : decode cX1_readUnit 100 = .ok (.iload 4, 2) := by decide +kernel
theorem dX1_readUnit_102 : decode cX1_readUnit 102 = .ok (.bipush 116, 2) := by decide +kernel
theorem dX1_readUnit_104 : decode cX1_readUnit 104 = .ok (.if_icmp .ne 17, 3) := by decide +kernel
theorem dX1_readUnit_107 : decode cX1_readUnit 107 = .ok (.aload_n 0, 1) := by decide +kernel
theorem dX1_readUnit_108 : decode cX1_readUnit 108 = .ok (.iload_n 1, 1) := by decide +kernel
theorem dX1_readUnit_109 : decode cX1_readUnit 109 = .ok (.iconst 1, 1) := by decide +kernel
theorem dX1_readUnit_110 : decode cX1_readUnit 110 = .ok (.iadd, 1) := by decide +kernel
theorem dX1_readUnit_111 : decode cX1_readUnit 111 = .ok (.iload_n 2, 1) := by decide +kernel
theorem dX1_readUnit_112 : decode cX1_readUnit 112 = .ok (.iconst 1, 1) := by decide +kernel
theorem dX1_readUnit_113 : decode cX1_readUnit 113 = .ok (.iadd, 1) := by decide +kernel
theorem dX1_readUnit_114 : decode cX1_readUnit 114 = .ok (.iload_n 3, 1) := by decide +kernel
theorem dX1_readUnit_115 : decode cX1_readUnit 115 = .ok (.invokevirtual 122, 3) := by decide +kernel
theorem dX1_readUnit_118 : decode cX1_readUnit 118 = .ok (.goto 7, 3) := by decide +kernel
theorem dX1_readUnit_121 : decode cX1_readUnit 121 = .ok (.aload_n 0, 1) := by decide +kernel
theorem dX1_readUnit_122 : decode cX1_readUnit 122 = .ok (.invokevirtual 60, 3) := by decide +kernel
theorem dX1_readUnit_125 : decode cX1_readUnit 125 = .ok (.lreturn, 1) := by decide +kernel
theorem dX1_readName_0 : decode cX1_readName 0 = .ok (.aload_n 0, 1) := by decide +kernel
theorem dX1_readName_1 : decode cX1_readName 1 = .ok (.dup, 1) := by decide +kernel
theorem dX1_readName_2 : decode cX1_readName 2 = .ok (.getfield 28, 3) := by decide +kernel
theorem dX1_readName_5 : decode cX1_readName 5 = .ok (.iconst 1, 1) := by decide +kernel
theorem dX1_readName_6 : decode cX1_readName 6 = .ok (.iadd, 1) := by decide +kernel
theorem dX1_readName_7 : decode cX1_readName 7 = .ok (.putfield 28, 3) := by decide +kernel
theorem dX1_readName_10 : decode cX1_readName 10 = .ok (.aload_n 0, 1) := by decide +kernel
theorem dX1_readName_11 : decode cX1_readName 11 = .ok (.bipush 39, 2) := by decide +kernel
theorem dX1_readName_13 : decode cX1_readName 13 = .ok (.invokevirtual 67, 3) := by decide +kernel
theorem dX1_readName_16 : decode cX1_readName 16 = .ok (.ifCond .eq 10, 3) := by decide +kernel
theorem dX1_readName_19 : decode cX1_readName 19 = .ok (.aload_n 0, 1) := by decide +kernel
theorem dX1_readName_20 : decode cX1_readName 20 = .ok (.getfield 39, 3) := by decide +kernel
theorem dX1_readName_23 : decode cX1_readName 23 = .ok (.iload_n 1, 1) := by decide +kernel
theorem dX1_readName_24 : decode cX1_readName 24 = .ok (.laload, 1) := by decide +kernel
theorem dX1_readName_25 : decode cX1_readName 25 = .ok (.lreturn, 1) := by decide +kernel
theorem dX1_readName_26 : decode cX1_readName 26 = .ok (.aload_n 0, 1) := by decide +kernel
theorem dX1_readName_27 : decode cX1_readName 27 = .ok (.dup, 1) := by decide +kernel
theorem dX1_readName_28 : decode cX1_readName 28 = .ok (.getfield 42, 3) := by decide +kernel
theorem dX1_readName_31 : decode cX1_readName 31 = .ok (.iconst 1, 1) := by decide +kernel
theorem dX1_readName_32 : decode cX1_readName 32 = .ok (.iload_n 1, 1) := by decide +kernel
theorem dX1_readName_33 : decode cX1_readName 33 = .ok (.ishl, 1) := by decide +kernel
theorem dX1_readName_34 : decode cX1_readName 34 = .ok (.ior, 1) := by decide +kernel
theorem dX1_readName_35 : decode cX1_readName 35 = .ok (.putfield 42, 3) := by decide +kernel
theorem dX1_readName_38 : decode cX1_readName 38 = .ok (.aload_n 0, 1) := by decide +kernel
theorem dX1_readName_39 : decode cX1_readName 39 = .ok (.getfield 36, 3) := by decide +kernel
theorem dX1_readName_42 : decode cX1_readName 42 = .ok (.iload_n 1, 1) := by decide +kernel
theorem dX1_readName_43 : decode cX1_readName 43 = .ok (.laload, 1) := by decide +kernel
theorem dX1_readName_44 : decode cX1_readName 44 = .ok (.lreturn, 1) := by decide +kernel
theorem dX1_readNumber_0 : decode cX1_readNumber 0 = .ok (.aload_n 0, 1) := by decide +kernel
theorem dX1_readNumber_1 : decode cX1_readNumber 1 = .ok (.invokevirtual 106, 3) := by decide +kernel
theorem dX1_readNumber_4 : decode cX1_readNumber 4 = .ok (.invokestatic 113, 3) := by decide +kernel
theorem dX1_readNumber_7 : decode cX1_readNumber 7 = .ok (.ifCond .ne 8, 3) := by decide +kernel
theorem dX1_readNumber_10 : decode cX1_readNumber 10 = .ok (.aload_n 0, 1) := by decide +kernel
theorem dX1_readNumber_11 : decode cX1_readNumber 11 = .ok (.invokevirtual 60, 3) := by decide +kernel
theorem dX1_readNumber_14 : decode cX1_readNumber 14 = .ok (.lreturn, 1) := by decide +kernel
theorem dX1_readNumber_15 : decode cX1_readNumber 15 = .ok (.lconst 0, 1) := by decide +kernel
theorem dX1_readNumber_16 : decode cX1_readNumber 16 = .ok (.lstore_n 2, 1) := by decide +kernel
theorem dX1_readNumber_17 : decode cX1_readNumber 17 = .ok (.iconst 0, 1) := by decide +kernel
theorem dX1_readNumber_18 : decode cX1_readNumber 18 = .ok (.istore 4, 2) := by decide +kernel
theorem dX1_readNumber_20 : decode cX1_readNumber 20 = .ok (.iload 4, 2) := by decide +kernel
theorem dX1_readNumber_22 : decode cX1_readNumber 22 = .ok (.iload_n 1, 1) := by decide +kernel
theorem dX1_readNumber_23 : decode cX1_readNumber 23 = .ok (.if_icmp .ge 44, 3) := by decide +kernel
theorem dX1_readNumber_26 : decode cX1_readNumber 26 = .ok (.aload_n 0, 1) := by decide +kernel
theorem dX1_readNumber_27 : decode cX1_readNumber 27 = .ok (.invokevirtual 106, 3) := by decide +kernel
theorem dX1_readNumber_30 : decode cX1_readNumber 30 = .ok (.invokestatic 113, 3) := by decide +kernel
theorem dX1_readNumber_33 : decode cX1_readNumber 33 = .ok (.ifCond .eq 34, 3) := by decide +kernel
theorem dX1_readNumber_36 : decode cX1_readNumber 36 = .ok (.lload_n 2, 1) := by decide +kernel
theorem dX1_readNumber_37 : decode cX1_readNumber 37 = .ok (.ldc2_w 125, 3) := by decide +kernel
theorem dX1_readNumber_40 : decode cX1_readNumber 40 = .ok (.lmul, 1) := by decide +kernel
theorem dX1_readNumber_41 : decode cX1_readNumber 41 = .ok (.aload_n 0, 1) := by decide +kernel
theorem dX1_readNumber_42 : decode cX1_readNumber 42 = .ok (.invokevirtual 106, 3) := by decide +kernel
theorem dX1_readNumber_45 : decode cX1_readNumber 45 = .ok (.bipush 48, 2) := by decide +kernel
theorem dX1_readNumber_47 : decode cX1_readNumber 47 = .ok (.isub, 1) := by decide +kernel
theorem dX1_readNumber_48 : decode cX1_readNumber 48 = .ok (.i2l, 1) := by decide +kernel
theorem dX1_readNumber_49 : decode cX1_readNumber 49 = .ok (.ladd, 1) := by decide +kernel
theorem dX1_readNumber_50 : decode cX1_readNumber 50 = .ok (.lstore_n 2, 1) := by decide +kernel
theorem dX1_readNumber_51 : decode cX1_readNumber 51 = .ok (.aload_n 0, 1) := by decide +kernel
theorem dX1_readNumber_52 : decode cX1_readNumber 52 = .ok (.dup, 1) := by decide +kernel
theorem dX1_readNumber_53 : decode cX1_readNumber 53 = .ok (.getfield 28, 3) := by decide +kernel
theorem dX1_readNumber_56 : decode cX1_readNumber 56 = .ok (.iconst 1, 1) := by decide +kernel
theorem dX1_readNumber_57 : decode cX1_readNumber 57 = .ok (.iadd, 1) := by decide +kernel
theorem dX1_readNumber_58 : decode cX1_readNumber 58 = .ok (.putfield 28, 3) := by decide +kernel
theorem dX1_readNumber_61 : decode cX1_readNumber 61 = .ok (.iinc 4 1, 3) := by decide +kernel
theorem dX1_readNumber_64 : decode cX1_readNumber 64 = .ok (.goto (-44), 3) := by decide +kernel
theorem dX1_readNumber_67 : decode cX1_readNumber 67 = .ok (.lload_n 2, 1) := by decide +kernel
theorem dX1_readNumber_68 : decode cX1_readNumber 68 = .ok (.lreturn, 1) := by decide +kernel
theorem dX1_readInBrackets_0 : decode cX1_readInBrackets 0 = .ok (.aload_n 0, 1) := by decide +kernel
theorem dX1_readInBrackets_1 : decode cX1_readInBrackets 1 = .ok (.bipush 40, 2) := by decide +kernel
theorem dX1_readInBrackets_3 : decode cX1_readInBrackets 3 = .ok (.invokevirtual 71, 3) := by decide +kernel
theorem dX1_readInBrackets_6 : decode cX1_readInBrackets 6 = .ok (.aload_n 0, 1) := by decide +kernel
theorem dX1_readInBrackets_7 : decode cX1_readInBrackets 7 = .ok (.iload_n 1, 1) := by decide +kernel
theorem dX1_readInBrackets_8 : decode cX1_readInBrackets 8 = .ok (.iload_n 2, 1) := by decide +kernel
theorem dX1_readInBrackets_9 : decode cX1_readInBrackets 9 = .ok (.iload_n 3, 1) := by decide +kernel
theorem dX1_readInBrackets_10 : decode cX1_readInBrackets 10 = .ok (.invokevirtual 53, 3) := by decide +kernel
theorem dX1_readInBrackets_13 : decode cX1_readInBrackets 13 = .ok (.lstore 4, 2) := by decide +kernel
theorem dX1_readInBrackets_15 : decode cX1_readInBrackets 15 = .ok (.aload_n 0, 1) := by decide +kernel
theorem dX1_readInBrackets_16 : decode cX1_readInBrackets 16 = .ok (.bipush 41, 2) := by decide +kernel
theorem dX1_readInBrackets_18 : decode cX1_readInBrackets 18 = .ok (.invokevirtual 71, 3) := by decide +kernel
theorem dX1_readInBrackets_21 : decode cX1_readInBrackets 21 = .ok (.lload 4, 2) := by decide +kernel
theorem dX1_readInBrackets_23 : decode cX1_readInBrackets 23 = .ok (.lreturn, 1) := by decide +kernel
theorem dX1_readOneOfTwo_0 : decode cX1_readOneOfTwo 0 = .ok (.aload_n 0, 1) := by decide +kernel
theorem dX1_readOneOfTwo_1 : decode cX1_readOneOfTwo 1 = .ok (.invokevirtual 106, 3) := by decide +kernel
theorem dX1_readOneOfTwo_4 : decode cX1_readOneOfTwo 4 = .ok (.bipush 109, 2) := by decide +kernel
theorem dX1_readOneOfTwo_6 : decode cX1_readOneOfTwo 6 = .ok (.if_icmp .ne 7, 3) := by decide +kernel
theorem dX1_readOneOfTwo_9 : decode cX1_readOneOfTwo 9 = .ok (.iconst 1, 1) := by decide +kernel
theorem dX1_readOneOfTwo_10 : decode cX1_readOneOfTwo 10 = .ok (.goto 4, 3) := by decide +kernel
theorem dX1_readOneOfTwo_13 : decode cX1_readOneOfTwo 13 = .ok (.iconst 0, 1) := by decide +kernel
theorem dX1_readOneOfTwo_14 : decode cX1_readOneOfTwo 14 = .ok (.istore 4, 2) := by decide +kernel
theorem dX1_readOneOfTwo_16 : decode cX1_readOneOfTwo 16 = .ok (.aload_n 0, 1) := by decide +kernel
theorem dX1_readOneOfTwo_17 : decode cX1_readOneOfTwo 17 = .ok (.dup, 1) := by decide +kernel
theorem dX1_readOneOfTwo_18 : decode cX1_readOneOfTwo 18 = .ok (.getfield 28, 3) := by decide +kernel
theorem dX1_readOneOfTwo_21 : decode cX1_readOneOfTwo 21 = .ok (.iconst 1, 1) := by decide +kernel
theorem dX1_readOneOfTwo_22 : decode cX1_readOneOfTwo 22 = .ok (.iadd, 1) := by decide +kernel
theorem dX1_readOneOfTwo_23 : decode cX1_readOneOfTwo 23 = .ok (.putfield 28, 3) := by decide +kernel
theorem dX1_readOneOfTwo_26 : decode cX1_readOneOfTwo 26 = .ok (.aload_n 0, 1) := by decide +kernel
theorem dX1_readOneOfTwo_27 : decode cX1_readOneOfTwo 27 = .ok (.bipush 40, 2) := by decide +kernel
theorem dX1_readOneOfTwo_29 : decode cX1_readOneOfTwo 29 = .ok (.invokevirtual 71, 3) := by decide +kernel
theorem dX1_readOneOfTwo_32 : decode cX1_readOneOfTwo 32 = .ok (.aload_n 0, 1) := by decide +kernel
theorem dX1_readOneOfTwo_33 : decode cX1_readOneOfTwo 33 = .ok (.iload_n 1, 1) := by decide +kernel
theorem dX1_readOneOfTwo_34 : decode cX1_readOneOfTwo 34 = .ok (.iload_n 2, 1) := by decide +kernel
theorem dX1_readOneOfTwo_35 : decode cX1_readOneOfTwo 35 = .ok (.iload_n 3, 1) := by decide +kernel
theorem dX1_readOneOfTwo_36 : decode cX1_readOneOfTwo 36 = .ok (.invokevirtual 53, 3) := by decide +kernel
theorem dX1_readOneOfTwo_39 : decode cX1_readOneOfTwo 39 = .ok (.lstore 5, 2) := by decide +kernel
theorem dX1_readOneOfTwo_41 : decode cX1_readOneOfTwo 41 = .ok (.aload_n 0, 1) := by decide +kernel
theorem dX1_readOneOfTwo_42 : decode cX1_readOneOfTwo 42 = .ok (.bipush 44, 2) := by decide +kernel
theorem dX1_readOneOfTwo_44 : decode cX1_readOneOfTwo 44 = .ok (.invokevirtual 71, 3) := by decide +kernel
theorem dX1_readOneOfTwo_47 : decode cX1_readOneOfTwo 47 = .ok (.aload_n 0, 1) := by decide +kernel
theorem dX1_readOneOfTwo_48 : decode cX1_readOneOfTwo 48 = .ok (.iload_n 1, 1) := by decide +kernel
theorem dX1_readOneOfTwo_49 : decode cX1_readOneOfTwo 49 = .ok (.iload_n 2, 1) := by decide +kernel
theorem dX1_readOneOfTwo_50 : decode cX1_readOneOfTwo 50 = .ok (.iload_n 3, 1) := by decide +kernel
theorem dX1_readOneOfTwo_51 : decode cX1_readOneOfTwo 51 = .ok (.invokevirtual 53, 3) := by decide +kernel
theorem dX1_readOneOfTwo_54 : decode cX1_readOneOfTwo 54 = .ok (.lstore 7, 2) := by decide +kernel
theorem dX1_readOneOfTwo_56 : decode cX1_readOneOfTwo 56 = .ok (.aload_n 0, 1) := by decide +kernel
theorem dX1_readOneOfTwo_57 : decode cX1_readOneOfTwo 57 = .ok (.bipush 41, 2) := by decide +kernel
theorem dX1_readOneOfTwo_59 : decode cX1_readOneOfTwo 59 = .ok (.invokevirtual 71, 3) := by decide +kernel
theorem dX1_readOneOfTwo_62 : decode cX1_readOneOfTwo 62 = .ok (.iload 4, 2) := by decide +kernel
theorem dX1_readOneOfTwo_64 : decode cX1_readOneOfTwo 64 = .ok (.ifCond .eq 13, 3) := by decide +kernel
theorem dX1_readOneOfTwo_67 : decode cX1_readOneOfTwo 67 = .ok (.lload 5, 2) := by decide +kernel
theorem dX1_readOneOfTwo_69 : decode cX1_readOneOfTwo 69 = .ok (.lload 7, 2) := by decide +kernel
theorem dX1_readOneOfTwo_71 : decode cX1_readOneOfTwo 71 = .ok (.invokestatic 127, 3) := by decide +kernel
theorem dX1_readOneOfTwo_74 : decode cX1_readOneOfTwo 74 = .ok (.goto 10, 3) := by decide +kernel
theorem dX1_readOneOfTwo_77 : decode cX1_readOneOfTwo 77 = .ok (.lload 5, 2) := by decide +kernel
theorem dX1_readOneOfTwo_79 : decode cX1_readOneOfTwo 79 = .ok (.lload 7, 2) := by decide +kernel
theorem dX1_readOneOfTwo_81 : decode cX1_readOneOfTwo 81 = .ok (.invokestatic 130, 3) := by decide +kernel
theorem dX1_readOneOfTwo_84 : decode cX1_readOneOfTwo 84 = .ok (.lreturn, 1) := by decide +kernel
theorem dX1_readTable_0 : decode cX1_readTable 0 = .ok (.aload_n 0, 1) := by decide +kernel
theorem dX1_readTable_1 : decode cX1_readTable 1 = .ok (.dup, 1) := by decide +kernel
theorem dX1_readTable_2 : decode cX1_readTable 2 = .ok (.getfield 28, 3) := by decide +kernel
theorem dX1_readTable_5 : decode cX1_readTable 5 = .ok (.iconst 1, 1) := by decide +kernel
theorem dX1_readTable_6 : decode cX1_readTable 6 = .ok (.iadd, 1) := by decide +kernel
theorem dX1_readTable_7 : decode cX1_readTable 7 = .ok (.putfield 28, 3) := by decide +kernel
theorem dX1_readTable_10 : decode cX1_readTable 10 = .ok (.aload_n 0, 1) := by decide +kernel
theorem dX1_readTable_11 : decode cX1_readTable 11 = .ok (.invokevirtual 106, 3) := by decide +kernel
theorem dX1_readTable_14 : decode cX1_readTable 14 = .ok (.bipush 48, 2) := by decide +kernel
theorem dX1_readTable_16 : decode cX1_readTable 16 = .ok (.isub, 1) := by decide +kernel
theorem dX1_readTable_17 : decode cX1_readTable 17 = .ok (.istore 4, 2) := by decide +kernel
theorem dX1_readTable_19 : decode cX1_readTable 19 = .ok (.iload 4, 2) := by decide +kernel
theorem dX1_readTable_21 : decode cX1_readTable 21 = .ok (.ifCond .lt 9, 3) := by decide +kernel
theorem dX1_readTable_24 : decode cX1_readTable 24 = .ok (.iload 4, 2) := by decide +kernel
theorem dX1_readTable_26 : decode cX1_readTable 26 = .ok (.iconst 3, 1) := by decide +kernel
theorem dX1_readTable_27 : decode cX1_readTable 27 = .ok (.if_icmp .lt 8, 3) := by decide +kernel
theorem dX1_readTable_30 : decode cX1_readTable 30 = .ok (.aload_n 0, 1) := by decide +kernel
theorem dX1_readTable_31 : decode cX1_readTable 31 = .ok (.invokevirtual 60, 3) := by decide +kernel
theorem dX1_readTable_34 : decode cX1_readTable 34 = .ok (.lreturn, 1) := by decide +kernel
theorem dX1_readTable_35 : decode cX1_readTable 35 = .ok (.aload_n 0, 1) := by decide +kernel
theorem dX1_readTable_36 : decode cX1_readTable 36 = .ok (.dup, 1) := by decide +kernel
theorem dX1_readTable_37 : decode cX1_readTable 37 = .ok (.getfield 28, 3) := by decide +kernel
theorem dX1_readTable_40 : decode cX1_readTable 40 = .ok (.iconst 1, 1) := by decide +kernel
theorem dX1_readTable_41 : decode cX1_readTable 41 = .ok (.iadd, 1) := by decide +kernel
theorem dX1_readTable_42 : decode cX1_readTable 42 = .ok (.putfield 28, 3) := by decide +kernel
theorem dX1_readTable_45 : decode cX1_readTable 45 = .ok (.aload_n 0, 1) := by decide +kernel
theorem dX1_readTable_46 : decode cX1_readTable 46 = .ok (.getfield 11, 3) := by decide +kernel
theorem dX1_readTable_49 : decode cX1_readTable 49 = .ok (.iload 4, 2) := by decide +kernel
theorem dX1_readTable_51 : decode cX1_readTable 51 = .ok (.aaload, 1) := by decide +kernel
theorem dX1_readTable_52 : decode cX1_readTable 52 = .ok (.aload_n 0, 1) := by decide +kernel
theorem dX1_readTable_53 : decode cX1_readTable 53 = .ok (.iload_n 1, 1) := by decide +kernel
theorem dX1_readTable_54 : decode cX1_readTable 54 = .ok (.iload_n 2, 1) := by decide +kernel
theorem dX1_readTable_55 : decode cX1_readTable 55 = .ok (.iload_n 3, 1) := by decide +kernel
theorem dX1_readTable_56 : decode cX1_readTable 56 = .ok (.invokevirtual 116, 3) := by decide +kernel
theorem dX1_readTable_59 : decode cX1_readTable 59 = .ok (.invokevirtual 133, 3) := by decide +kernel
theorem dX1_readTable_62 : decode cX1_readTable 62 = .ok (.lreturn, 1) := by decide +kernel
theorem dX1_next_0 : decode cX1_next 0 = .ok (.aload_n 0, 1) := by decide +kernel
theorem dX1_next_1 : decode cX1_next 1 = .ok (.getfield 32, 3) := by decide +kernel
theorem dX1_next_4 : decode cX1_next 4 = .ok (.ifCond .ne 17, 3) := by decide +kernel
theorem dX1_next_7 : decode cX1_next 7 = .ok (.aload_n 0, 1) := by decide +kernel
theorem dX1_next_8 : decode cX1_next 8 = .ok (.getfield 28, 3) := by decide +kernel
theorem dX1_next_11 : decode cX1_next 11 = .ok (.aload_n 0, 1) := by decide +kernel
theorem dX1_next_12 : decode cX1_next 12 = .ok (.getfield 24, 3) := by decide +kernel
theorem dX1_next_15 : decode cX1_next 15 = .ok (.getfield 57, 3) := by decide +kernel
theorem dX1_next_18 : decode cX1_next 18 = .ok (.if_icmp .lt 7, 3) := by decide +kernel
theorem dX1_next_21 : decode cX1_next 21 = .ok (.iconst 0, 1) := by decide +kernel
theorem dX1_next_22 : decode cX1_next 22 = .ok (.goto 15, 3) := by decide +kernel
theorem dX1_next_25 : decode cX1_next 25 = .ok (.aload_n 0, 1) := by decide +kernel
theorem dX1_next_26 : decode cX1_next 26 = .ok (.getfield 24, 3) := by decide +kernel
theorem dX1_next_29 : decode cX1_next 29 = .ok (.getfield 137, 3) := by decide +kernel
theorem dX1_next_32 : decode cX1_next 32 = .ok (.aload_n 0, 1) := by decide +kernel
theorem dX1_next_33 : decode cX1_next 33 = .ok (.getfield 28, 3) := by decide +kernel
theorem dX1_next_36 : decode cX1_next 36 = .ok (.caload, 1) := by decide +kernel
theorem dX1_next_37 : decode cX1_next 37 = .ok (.ireturn, 1) := by decide +kernel
theorem dX1_take_0 : decode cX1_take 0 = .ok (.aload_n 0, 1) := by decide +kernel
theorem dX1_take_1 : decode cX1_take 1 = .ok (.invokevirtual 106, 3) := by decide +kernel
theorem dX1_take_4 : decode cX1_take 4 = .ok (.iload_n 1, 1) := by decide +kernel
theorem dX1_take_5 : decode cX1_take 5 = .ok (.if_icmp .eq 5, 3) := by decide +kernel
theorem dX1_take_8 : decode cX1_take 8 = .ok (.iconst 0, 1) := by decide +kernel
theorem dX1_take_9 : decode cX1_take 9 = .ok (.ireturn, 1) := by decide +kernel
theorem dX1_take_10 : decode cX1_take 10 = .ok (.aload_n 0, 1) := by decide +kernel
theorem dX1_take_11 : decode cX1_take 11 = .ok (.dup, 1) := by decide +kernel
theorem dX1_take_12 : decode cX1_take 12 = .ok (.getfield 28, 3) := by decide +kernel
theorem dX1_take_15 : decode cX1_take 15 = .ok (.iconst 1, 1) := by decide +kernel
theorem dX1_take_16 : decode cX1_take 16 = .ok (.iadd, 1) := by decide +kernel
theorem dX1_take_17 : decode cX1_take 17 = .ok (.putfield 28, 3) := by decide +kernel
theorem dX1_take_20 : decode cX1_take 20 = .ok (.iconst 1, 1) := by decide +kernel
theorem dX1_take_21 : decode cX1_take 21 = .ok (.ireturn, 1) := by decide +kernel
theorem dX1_expect_0 : decode cX1_expect 0 = .ok (.aload_n 0, 1) := by decide +kernel
theorem dX1_expect_1 : decode cX1_expect 1 = .ok (.iload_n 1, 1) := by decide +kernel
theorem dX1_expect_2 : decode cX1_expect 2 = .ok (.invokevirtual 67, 3) := by decide +kernel
theorem dX1_expect_5 : decode cX1_expect 5 = .ok (.ifCond .ne 8, 3) := by decide +kernel
theorem dX1_expect_8 : decode cX1_expect 8 = .ok (.aload_n 0, 1) := by decide +kernel
theorem dX1_expect_9 : decode cX1_expect 9 = .ok (.iconst 1, 1) := by decide +kernel
theorem dX1_expect_10 : decode cX1_expect 10 = .ok (.putfield 32, 3) := by decide +kernel
theorem dX1_expect_13 : decode cX1_expect 13 = .ok (.return_, 1) := by decide +kernel
theorem dX1_refuse_0 : decode cX1_refuse 0 = .ok (.aload_n 0, 1) := by decide +kernel
theorem dX1_refuse_1 : decode cX1_refuse 1 = .ok (.iconst 1, 1) := by decide +kernel
theorem dX1_refuse_2 : decode cX1_refuse 2 = .ok (.putfield 32, 3) := by decide +kernel
theorem dX1_refuse_5 : decode cX1_refuse 5 = .ok (.lconst 0, 1) := by decide +kernel
theorem dX1_refuse_6 : decode cX1_refuse 6 = .ok (.lreturn, 1) := by decide +kernel
theorem dX1_checked_0 : decode cX1_checked 0 = .ok (.lload_n 1, 1) := by decide +kernel
theorem dX1_checked_1 : decode cX1_checked 1 = .ok (.ldc2_w 141, 3) := by decide +kernel
theorem dX1_checked_4 : decode cX1_checked 4 = .ok (.lcmp, 1) := by decide +kernel
theorem dX1_checked_5 : decode cX1_checked 5 = .ok (.ifCond .lt 13, 3) := by decide +kernel
theorem dX1_checked_8 : decode cX1_checked 8 = .ok (.lload_n 1, 1) := by decide +kernel
theorem dX1_checked_9 : decode cX1_checked 9 = .ok (.ldc2_w 143, 3) := by decide +kernel
theorem dX1_checked_12 : decode cX1_checked 12 = .ok (.lcmp, 1) := by decide +kernel
theorem dX1_checked_13 : decode cX1_checked 13 = .ok (.ifCond .gt 5, 3) := by decide +kernel
theorem dX1_checked_16 : decode cX1_checked 16 = .ok (.lload_n 1, 1) := by decide +kernel
theorem dX1_checked_17 : decode cX1_checked 17 = .ok (.lreturn, 1) := by decide +kernel
theorem dX1_checked_18 : decode cX1_checked 18 = .ok (.aload_n 0, 1) := by decide +kernel
theorem dX1_checked_19 : decode cX1_checked 19 = .ok (.aload_n 0, 1) := by decide +kernel
theorem dX1_checked_20 : decode cX1_checked 20 = .ok (.getfield 45, 3) := by decide +kernel
theorem dX1_checked_23 : decode cX1_checked 23 = .ok (.ifCond .ne 7, 3) := by decide +kernel
theorem dX1_checked_26 : decode cX1_checked 26 = .ok (.iload_n 3, 1) := by decide +kernel
theorem dX1_checked_27 : decode cX1_checked 27 = .ok (.ifCond .eq 7, 3) := by decide +kernel
theorem dX1_checked_30 : decode cX1_checked 30 = .ok (.iconst 1, 1) := by decide +kernel
theorem dX1_checked_31 : decode cX1_checked 31 = .ok (.goto 4, 3) := by decide +kernel
theorem dX1_checked_34 : decode cX1_checked 34 = .ok (.iconst 0, 1) := by decide +kernel
theorem dX1_checked_35 : decode cX1_checked 35 = .ok (.putfield 45, 3) := by decide +kernel
theorem dX1_checked_38 : decode cX1_checked 38 = .ok (.lconst 0, 1) := by decide +kernel
theorem dX1_checked_39 : decode cX1_checked 39 = .ok (.lreturn, 1) := by decide +kernel
theorem dX1_isDigit_0 : decode cX1_isDigit 0 = .ok (.iload_n 0, 1) := by decide +kernel
theorem dX1_isDigit_1 : decode cX1_isDigit 1 = .ok (.bipush 48, 2) := by decide +kernel
theorem dX1_isDigit_3 : decode cX1_isDigit 3 = .ok (.if_icmp .lt 13, 3) := by decide +kernel
theorem dX1_isDigit_6 : decode cX1_isDigit 6 = .ok (.iload_n 0, 1) := by decide +kernel
theorem dX1_isDigit_7 : decode cX1_isDigit 7 = .ok (.bipush 57, 2) := by decide +kernel
theorem dX1_isDigit_9 : decode cX1_isDigit 9 = .ok (.if_icmp .gt 7, 3) := by decide +kernel
theorem dX1_isDigit_12 : decode cX1_isDigit 12 = .ok (.iconst 1, 1) := by decide +kernel
theorem dX1_isDigit_13 : decode cX1_isDigit 13 = .ok (.goto 4, 3) := by decide +kernel
theorem dX1_isDigit_16 : decode cX1_isDigit 16 = .ok (.iconst 0, 1) := by decide +kernel
theorem dX1_isDigit_17 : decode cX1_isDigit 17 = .ok (.ireturn, 1) := by decide +kernel
theorem dX2_init_0 : decode cX2_init 0 = .ok (.aload_n 0, 1) := by decide +kernel
theorem dX2_init_1 : decode cX2_init 1 = .ok (.invokespecial 3, 3) := by decide +kernel
theorem dX2_init_4 : decode cX2_init 4 = .ok (.aload_n 0, 1) := by decide +kernel
theorem dX2_init_5 : decode cX2_init 5 = .ok (.bipush 12, 2) := by decide +kernel
theorem dX2_init_7 : decode cX2_init 7 = .ok (.newarray .int, 2) := by decide +kernel
theorem dX2_init_9 : decode cX2_init 9 = .ok (.putfield 9, 3) := by decide +kernel
theorem dX2_init_12 : decode cX2_init 12 = .ok (.aload_n 0, 1) := by decide +kernel
theorem dX2_init_13 : decode cX2_init 13 = .ok (.bipush 12, 2) := by decide +kernel
theorem dX2_init_15 : decode cX2_init 15 = .ok (.newarray .long, 2) := by decide +kernel
theorem dX2_init_17 : decode cX2_init 17 = .ok (.putfield 15, 3) := by decide +kernel
theorem dX2_init_20 : decode cX2_init 20 = .ok (.aload_n 0, 1) := by decide +kernel
theorem dX2_init_21 : decode cX2_init 21 = .ok (.lconst 0, 1) := by decide +kernel
theorem dX2_init_22 : decode cX2_init 22 = .ok (.putfield 19, 3) := by decide +kernel
theorem dX2_init_25 : decode cX2_init 25 = .ok (.aload_n 0, 1) := by decide +kernel
theorem dX2_init_26 : decode cX2_init 26 = .ok (.iconst 0, 1) := by decide +kernel
theorem dX2_init_27 : decode cX2_init 27 = .ok (.putfield 23, 3) := by decide +kernel
theorem dX2_init_30 : decode cX2_init 30 = .ok (.return_, 1) := by decide +kernel
theorem dX2_keep_0 : decode cX2_keep 0 = .ok (.aload_n 1, 1) := by decide +kernel
theorem dX2_keep_1 : decode cX2_keep 1 = .ok (.iconst 0, 1) := by decide +kernel
theorem dX2_keep_2 : decode cX2_keep 2 = .ok (.aload_n 0, 1) := by decide +kernel
theorem dX2_keep_3 : decode cX2_keep 3 = .ok (.getfield 15, 3) := by decide +kernel
theorem dX2_keep_6 : decode cX2_keep 6 = .ok (.iconst 0, 1) := by decide +kernel
theorem dX2_keep_7 : decode cX2_keep 7 = .ok (.bipush 12, 2) := by decide +kernel
theorem dX2_keep_9 : decode cX2_keep 9 = .ok (.invokestatic 27, 3) := by decide +kernel
theorem dX2_keep_12 : decode cX2_keep 12 = .ok (.aload_n 0, 1) := by decide +kernel
theorem dX2_keep_13 : decode cX2_keep 13 = .ok (.lload_n 2, 1) := by decide +kernel
theorem dX2_keep_14 : decode cX2_keep 14 = .ok (.putfield 19, 3) := by decide +kernel
theorem dX2_keep_17 : decode cX2_keep 17 = .ok (.aload_n 0, 1) := by decide +kernel
theorem dX2_keep_18 : decode cX2_keep 18 = .ok (.iconst 1, 1) := by decide +kernel
theorem dX2_keep_19 : decode cX2_keep 19 = .ok (.putfield 23, 3) := by decide +kernel
theorem dX2_keep_22 : decode cX2_keep 22 = .ok (.return_, 1) := by decide +kernel
theorem dX3_init_0 : decode cX3_init 0 = .ok (.aload_n 0, 1) := by decide +kernel
theorem dX3_init_1 : decode cX3_init 1 = .ok (.invokespecial 1, 3) := by decide +kernel
theorem dX3_init_4 : decode cX3_init 4 = .ok (.aload_n 0, 1) := by decide +kernel
theorem dX3_init_5 : decode cX3_init 5 = .ok (.iconst 4, 1) := by decide +kernel
theorem dX3_init_6 : decode cX3_init 6 = .ok (.newarray .int, 2) := by decide +kernel
theorem dX3_init_8 : decode cX3_init 8 = .ok (.putfield 9, 3) := by decide +kernel
theorem dX3_init_11 : decode cX3_init 11 = .ok (.aload_n 0, 1) := by decide +kernel
theorem dX3_init_12 : decode cX3_init 12 = .ok (.iconst 4, 1) := by decide +kernel
theorem dX3_init_13 : decode cX3_init 13 = .ok (.newarray .int, 2) := by decide +kernel
theorem dX3_init_15 : decode cX3_init 15 = .ok (.putfield 13, 3) := by decide +kernel
theorem dX3_init_18 : decode cX3_init 18 = .ok (.aload_n 0, 1) := by decide +kernel
theorem dX3_init_19 : decode cX3_init 19 = .ok (.iconst 0, 1) := by decide +kernel
theorem dX3_init_20 : decode cX3_init 20 = .ok (.putfield 16, 3) := by decide +kernel
theorem dX3_init_23 : decode cX3_init 23 = .ok (.aload_n 0, 1) := by decide +kernel
theorem dX3_init_24 : decode cX3_init 24 = .ok (.iconst 0, 1) := by decide +kernel
theorem dX3_init_25 : decode cX3_init 25 = .ok (.putfield 20, 3) := by decide +kernel
theorem dX3_init_28 : decode cX3_init 28 = .ok (.return_, 1) := by decide +kernel
theorem dX3_isFull_0 : decode cX3_isFull 0 = .ok (.aload_n 0, 1) := by decide +kernel
theorem dX3_isFull_1 : decode cX3_isFull 1 = .ok (.getfield 16, 3) := by decide +kernel
theorem dX3_isFull_4 : decode cX3_isFull 4 = .ok (.iconst 4, 1) := by decide +kernel
theorem dX3_isFull_5 : decode cX3_isFull 5 = .ok (.if_icmp .lt 7, 3) := by decide +kernel
theorem dX3_isFull_8 : decode cX3_isFull 8 = .ok (.iconst 1, 1) := by decide +kernel
theorem dX3_isFull_9 : decode cX3_isFull 9 = .ok (.goto 4, 3) := by decide +kernel
theorem dX3_isFull_12 : decode cX3_isFull 12 = .ok (.iconst 0, 1) := by decide +kernel
theorem dX3_isFull_13 : decode cX3_isFull 13 = .ok (.ireturn, 1) := by decide +kernel
theorem dX3_allowsBeginning_0 : decode cX3_allowsBeginning 0 = .ok (.iload_n 1, 1) := by decide +kernel
theorem dX3_allowsBeginning_1 : decode cX3_allowsBeginning 1 = .ok (.ifCond .lt 35, 3) := by decide +kernel
theorem dX3_allowsBeginning_4 : decode cX3_allowsBeginning 4 = .ok (.iload_n 1, 1) := by decide +kernel
theorem dX3_allowsBeginning_5 : decode cX3_allowsBeginning 5 = .ok (.ldc 23, 2) := by decide +kernel
theorem dX3_allowsBeginning_7 : decode cX3_allowsBeginning 7 = .ok (.if_icmp .gt 29, 3) := by decide +kernel
theorem dX3_allowsBeginning_10 : decode cX3_allowsBeginning 10 = .ok (.aload_n 0, 1) := by decide +kernel
theorem dX3_allowsBeginning_11 : decode cX3_allowsBeginning 11 = .ok (.getfield 16, 3) := by decide +kernel
theorem dX3_allowsBeginning_14 : decode cX3_allowsBeginning 14 = .ok (.ifCond .eq 18, 3) := by decide +kernel
theorem dX3_allowsBeginning_17 : decode cX3_allowsBeginning 17 = .ok (.iload_n 1, 1) := by decide +kernel
theorem dX3_allowsBeginning_18 : decode cX3_allowsBeginning 18 = .ok (.aload_n 0, 1) := by decide +kernel
theorem dX3_allowsBeginning_19 : decode cX3_allowsBeginning 19 = .ok (.getfield 9, 3) := by decide +kernel
theorem dX3_allowsBeginning_22 : decode cX3_allowsBeginning 22 = .ok (.aload_n 0, 1) := by decide +kernel
theorem dX3_allowsBeginning_23 : decode cX3_allowsBeginning 23 = .ok (.getfield 16, 3) := by decide +kernel
theorem dX3_allowsBeginning_26 : decode cX3_allowsBeginning 26 = .ok (.iconst 1, 1) := by decide +kernel
theorem dX3_allowsBeginning_27 : decode cX3_allowsBeginning 27 = .ok (.isub, 1) := by decide +kernel
theorem dX3_allowsBeginning_28 : decode cX3_allowsBeginning 28 = .ok (.iaload, 1) := by decide +kernel
theorem dX3_allowsBeginning_29 : decode cX3_allowsBeginning 29 = .ok (.if_icmp .le 7, 3) := by decide +kernel
theorem dX3_allowsBeginning_32 : decode cX3_allowsBeginning 32 = .ok (.iconst 1, 1) := by decide +kernel
theorem dX3_allowsBeginning_33 : decode cX3_allowsBeginning 33 = .ok (.goto 4, 3) := by decide +kernel
theorem dX3_allowsBeginning_36 : decode cX3_allowsBeginning 36 = .ok (.iconst 0, 1) := by decide +kernel
theorem dX3_allowsBeginning_37 : decode cX3_allowsBeginning 37 = .ok (.ireturn, 1) := by decide +kernel
theorem dX3_append_0 : decode cX3_append 0 = .ok (.aload_n 0, 1) := by decide +kernel
theorem dX3_append_1 : decode cX3_append 1 = .ok (.getfield 9, 3) := by decide +kernel
theorem dX3_append_4 : decode cX3_append 4 = .ok (.aload_n 0, 1) := by decide +kernel
theorem dX3_append_5 : decode cX3_append 5 = .ok (.getfield 16, 3) := by decide +kernel
theorem dX3_append_8 : decode cX3_append 8 = .ok (.iload_n 1, 1) := by decide +kernel
theorem dX3_append_9 : decode cX3_append 9 = .ok (.iastore, 1) := by decide +kernel
theorem dX3_append_10 : decode cX3_append 10 = .ok (.aload_n 0, 1) := by decide +kernel
theorem dX3_append_11 : decode cX3_append 11 = .ok (.getfield 13, 3) := by decide +kernel
theorem dX3_append_14 : decode cX3_append 14 = .ok (.aload_n 0, 1) := by decide +kernel
theorem dX3_append_15 : decode cX3_append 15 = .ok (.getfield 16, 3) := by decide +kernel
theorem dX3_append_18 : decode cX3_append 18 = .ok (.iload_n 2, 1) := by decide +kernel
theorem dX3_append_19 : decode cX3_append 19 = .ok (.iastore, 1) := by decide +kernel
theorem dX3_append_20 : decode cX3_append 20 = .ok (.aload_n 0, 1) := by decide +kernel
theorem dX3_append_21 : decode cX3_append 21 = .ok (.dup, 1) := by decide +kernel
theorem dX3_append_22 : decode cX3_append 22 = .ok (.getfield 16, 3) := by decide +kernel
theorem dX3_append_25 : decode cX3_append 25 = .ok (.iconst 1, 1) := by decide +kernel
theorem dX3_append_26 : decode cX3_append 26 = .ok (.iadd, 1) := by decide +kernel
theorem dX3_append_27 : decode cX3_append 27 = .ok (.putfield 16, 3) := by decide +kernel
theorem dX3_append_30 : decode cX3_append 30 = .ok (.return_, 1) := by decide +kernel
theorem dX3_makeOf_0 : decode cX3_makeOf 0 = .ok (.lconst 0, 1) := by decide +kernel
theorem dX3_makeOf_1 : decode cX3_makeOf 1 = .ok (.lstore_n 3, 1) := by decide +kernel
theorem dX3_makeOf_2 : decode cX3_makeOf 2 = .ok (.iconst 0, 1) := by decide +kernel
theorem dX3_makeOf_3 : decode cX3_makeOf 3 = .ok (.istore 5, 2) := by decide +kernel
theorem dX3_makeOf_5 : decode cX3_makeOf 5 = .ok (.iload 5, 2) := by decide +kernel
theorem dX3_makeOf_7 : decode cX3_makeOf 7 = .ok (.aload_n 0, 1) := by decide +kernel
theorem dX3_makeOf_8 : decode cX3_makeOf 8 = .ok (.getfield 16, 3) := by decide +kernel
theorem dX3_makeOf_11 : decode cX3_makeOf 11 = .ok (.if_icmp .ge 77, 3) := by decide +kernel
theorem dX3_makeOf_14 : decode cX3_makeOf 14 = .ok (.iload 5, 2) := by decide +kernel
theorem dX3_makeOf_16 : decode cX3_makeOf 16 = .ok (.iconst 1, 1) := by decide +kernel
theorem dX3_makeOf_17 : decode cX3_makeOf 17 = .ok (.iadd, 1) := by decide +kernel
theorem dX3_makeOf_18 : decode cX3_makeOf 18 = .ok (.aload_n 0, 1) := by decide +kernel
theorem dX3_makeOf_19 : decode cX3_makeOf 19 = .ok (.getfield 16, 3) := by decide +kernel
theorem dX3_makeOf_22 : decode cX3_makeOf 22 = .ok (.if_icmp .ge 20, 3) := by decide +kernel
theorem dX3_makeOf_25 : decode cX3_makeOf 25 = .ok (.lload_n 1, 1) := by decide +kernel
theorem dX3_makeOf_26 : decode cX3_makeOf 26 = .ok (.aload_n 0, 1) := by decide +kernel
theorem dX3_makeOf_27 : decode cX3_makeOf 27 = .ok (.getfield 9, 3) := by decide +kernel
theorem dX3_makeOf_30 : decode cX3_makeOf 30 = .ok (.iload 5, 2) := by decide +kernel
theorem dX3_makeOf_32 : decode cX3_makeOf 32 = .ok (.iconst 1, 1) := by decide +kernel
theorem dX3_makeOf_33 : decode cX3_makeOf 33 = .ok (.iadd, 1) := by decide +kernel
theorem dX3_makeOf_34 : decode cX3_makeOf 34 = .ok (.iaload, 1) := by decide +kernel
theorem dX3_makeOf_35 : decode cX3_makeOf 35 = .ok (.i2l, 1) := by decide +kernel
theorem dX3_makeOf_36 : decode cX3_makeOf 36 = .ok (.invokestatic 24, 3) := by decide +kernel
theorem dX3_makeOf_39 : decode cX3_makeOf 39 = .ok (.goto 4, 3) := by decide +kernel
theorem dX3_makeOf_42 : decode cX3_makeOf 42 = .ok (.lload_n 1, 1) := by decide +kernel
theorem dX3_makeOf_43 : decode cX3_makeOf 43 = .ok (.lstore 6, 2) := by decide +kernel
theorem dX3_makeOf_45 : decode cX3_makeOf 45 = .ok (.lload 6, 2) := by decide +kernel
theorem dX3_makeOf_47 : decode cX3_makeOf 47 = .ok (.aload_n 0, 1) := by decide +kernel
theorem dX3_makeOf_48 : decode cX3_makeOf 48 = .ok (.getfield 9, 3) := by decide +kernel
theorem dX3_makeOf_51 : decode cX3_makeOf 51 = .ok (.iload 5, 2) := by decide +kernel
theorem dX3_makeOf_53 : decode cX3_makeOf 53 = .ok (.iaload, 1) := by decide +kernel
theorem dX3_makeOf_54 : decode cX3_makeOf 54 = .ok (.i2l, 1) := by decide +kernel
theorem dX3_makeOf_55 : decode cX3_makeOf 55 = .ok (.lcmp, 1) := by decide +kernel
theorem dX3_makeOf_56 : decode cX3_makeOf 56 = .ok (.ifCond .le 26, 3) := by decide +kernel
theorem dX3_makeOf_59 : decode cX3_makeOf 59 = .ok (.lload_n 3, 1) := by decide +kernel
theorem dX3_makeOf_60 : decode cX3_makeOf 60 = .ok (.aload_n 0, 1) := by decide +kernel
theorem dX3_makeOf_61 : decode cX3_makeOf 61 = .ok (.getfield 13, 3) := by decide +kernel
theorem dX3_makeOf_64 : decode cX3_makeOf 64 = .ok (.iload 5, 2) := by decide +kernel
theorem dX3_makeOf_66 : decode cX3_makeOf 66 = .ok (.iaload, 1) := by decide +kernel
theorem dX3_makeOf_67 : decode cX3_makeOf 67 = .ok (.i2l, 1) := by decide +kernel
theorem dX3_makeOf_68 : decode cX3_makeOf 68 = .ok (.lload 6, 2) := by decide +kernel
theorem dX3_makeOf_70 : decode cX3_makeOf 70 = .ok (.aload_n 0, 1) := by decide +kernel
theorem dX3_makeOf_71 : decode cX3_makeOf 71 = .ok (.getfield 9, 3) := by decide +kernel
theorem dX3_makeOf_74 : decode cX3_makeOf 74 = .ok (.iload 5, 2) := by decide +kernel
theorem dX3_makeOf_76 : decode cX3_makeOf 76 = .ok (.iaload, 1) := by decide +kernel
theorem dX3_makeOf_77 : decode cX3_makeOf 77 = .ok (.i2l, 1) := by decide +kernel
theorem dX3_makeOf_78 : decode cX3_makeOf 78 = .ok (.lsub, 1) := by decide +kernel
theorem dX3_makeOf_79 : decode cX3_makeOf 79 = .ok (.lmul, 1) := by decide +kernel
theorem dX3_makeOf_80 : decode cX3_makeOf 80 = .ok (.ladd, 1) := by decide +kernel
theorem dX3_makeOf_81 : decode cX3_makeOf 81 = .ok (.lstore_n 3, 1) := by decide +kernel
theorem dX3_makeOf_82 : decode cX3_makeOf 82 = .ok (.iinc 5 1, 3) := by decide +kernel
theorem dX3_makeOf_85 : decode cX3_makeOf 85 = .ok (.goto (-80), 3) := by decide +kernel
theorem dX3_makeOf_88 : decode cX3_makeOf 88 = .ok (.aload_n 0, 1) := by decide +kernel
theorem dX3_makeOf_89 : decode cX3_makeOf 89 = .ok (.lload_n 3, 1) := by decide +kernel
theorem dX3_makeOf_90 : decode cX3_makeOf 90 = .ok (.invokevirtual 30, 3) := by decide +kernel
theorem dX3_makeOf_93 : decode cX3_makeOf 93 = .ok (.lreturn, 1) := by decide +kernel
theorem dX3_rounded_0 : decode cX3_rounded 0 = .ok (.lload_n 1, 1) := by decide +kernel
theorem dX3_rounded_1 : decode cX3_rounded 1 = .ok (.ldc2_w 34, 3) := by decide +kernel
theorem dX3_rounded_4 : decode cX3_rounded 4 = .ok (.ldiv, 1) := by decide +kernel
theorem dX3_rounded_5 : decode cX3_rounded 5 = .ok (.lstore_n 3, 1) := by decide +kernel
theorem dX3_rounded_6 : decode cX3_rounded 6 = .ok (.lload_n 1, 1) := by decide +kernel
theorem dX3_rounded_7 : decode cX3_rounded 7 = .ok (.ldc2_w 34, 3) := by decide +kernel
theorem dX3_rounded_10 : decode cX3_rounded 10 = .ok (.lrem, 1) := by decide +kernel
theorem dX3_rounded_11 : decode cX3_rounded 11 = .ok (.lstore 5, 2) := by decide +kernel
theorem dX3_rounded_13 : decode cX3_rounded 13 = .ok (.aload_n 0, 1) := by decide +kernel
theorem dX3_rounded_14 : decode cX3_rounded 14 = .ok (.getfield 20, 3) := by decide +kernel
theorem dX3_rounded_17 : decode cX3_rounded 17 = .ok (.iconst 1, 1) := by decide +kernel
theorem dX3_rounded_18 : decode cX3_rounded 18 = .ok (.if_icmp .ne 12, 3) := by decide +kernel
theorem dX3_rounded_21 : decode cX3_rounded 21 = .ok (.lload 5, 2) := by decide +kernel
theorem dX3_rounded_23 : decode cX3_rounded 23 = .ok (.ldc2_w 36, 3) := by decide +kernel
theorem dX3_rounded_26 : decode cX3_rounded 26 = .ok (.lcmp, 1) := by decide +kernel
theorem dX3_rounded_27 : decode cX3_rounded 27 = .ok (.ifCond .ge 23, 3) := by decide +kernel
theorem dX3_rounded_30 : decode cX3_rounded 30 = .ok (.aload_n 0, 1) := by decide +kernel
theorem dX3_rounded_31 : decode cX3_rounded 31 = .ok (.getfield 20, 3) := by decide +kernel
theorem dX3_rounded_34 : decode cX3_rounded 34 = .ok (.iconst 2, 1) := by decide +kernel
theorem dX3_rounded_35 : decode cX3_rounded 35 = .ok (.if_icmp .ne 19, 3) := by decide +kernel
theorem dX3_rounded_38 : decode cX3_rounded 38 = .ok (.lload_n 3, 1) := by decide +kernel
theorem dX3_rounded_39 : decode cX3_rounded 39 = .ok (.lload 5, 2) := by decide +kernel
theorem dX3_rounded_41 : decode cX3_rounded 41 = .ok (.ldc2_w 36, 3) := by decide +kernel
theorem dX3_rounded_44 : decode cX3_rounded 44 = .ok (.invokestatic 38, 3) := by decide +kernel
theorem dX3_rounded_47 : decode cX3_rounded 47 = .ok (.ifCond .eq 7, 3) := by decide +kernel
theorem dX3_rounded_50 : decode cX3_rounded 50 = .ok (.iconst 1, 1) := by decide +kernel
theorem dX3_rounded_51 : decode cX3_rounded 51 = .ok (.goto 4, 3) := by decide +kernel
theorem dX3_rounded_54 : decode cX3_rounded 54 = .ok (.iconst 0, 1) := by decide +kernel
theorem dX3_rounded_55 : decode cX3_rounded 55 = .ok (.istore 7, 2) := by decide +kernel
theorem dX3_rounded_57 : decode cX3_rounded 57 = .ok (.iload 7, 2) := by decide +kernel
theorem dX3_rounded_59 : decode cX3_rounded 59 = .ok (.ifCond .eq 9, 3) := by decide +kernel
theorem dX3_rounded_62 : decode cX3_rounded 62 = .ok (.lload_n 3, 1) := by decide +kernel
theorem dX3_rounded_63 : decode cX3_rounded 63 = .ok (.lconst 1, 1) := by decide +kernel
theorem dX3_rounded_64 : decode cX3_rounded 64 = .ok (.ladd, 1) := by decide +kernel
theorem dX3_rounded_65 : decode cX3_rounded 65 = .ok (.goto 4, 3) := by decide +kernel
theorem dX3_rounded_68 : decode cX3_rounded 68 = .ok (.lload_n 3, 1) := by decide +kernel
theorem dX3_rounded_69 : decode cX3_rounded 69 = .ok (.lreturn, 1) := by decide +kernel
theorem dX4_init_0 : decode cX4_init 0 = .ok (.aload_n 0, 1) := by decide +kernel
theorem dX4_init_1 : decode cX4_init 1 = .ok (.invokespecial 3, 3) := by decide +kernel
theorem dX4_init_4 : decode cX4_init 4 = .ok (.aload_n 0, 1) := by decide +kernel
theorem dX4_init_5 : decode cX4_init 5 = .ok (.bipush 40, 2) := by decide +kernel
theorem dX4_init_7 : decode cX4_init 7 = .ok (.newarray .char, 2) := by decide +kernel
theorem dX4_init_9 : decode cX4_init 9 = .ok (.putfield 9, 3) := by decide +kernel
theorem dX4_init_12 : decode cX4_init 12 = .ok (.aload_n 0, 1) := by decide +kernel
theorem dX4_init_13 : decode cX4_init 13 = .ok (.iconst 0, 1) := by decide +kernel
theorem dX4_init_14 : decode cX4_init 14 = .ok (.putfield 15, 3) := by decide +kernel
theorem dX4_init_17 : decode cX4_init 17 = .ok (.return_, 1) := by decide +kernel
theorem dX4_isFull_0 : decode cX4_isFull 0 = .ok (.aload_n 0, 1) := by decide +kernel
theorem dX4_isFull_1 : decode cX4_isFull 1 = .ok (.getfield 15, 3) := by decide +kernel
theorem dX4_isFull_4 : decode cX4_isFull 4 = .ok (.bipush 40, 2) := by decide +kernel
theorem dX4_isFull_6 : decode cX4_isFull 6 = .ok (.if_icmp .lt 7, 3) := by decide +kernel
theorem dX4_isFull_9 : decode cX4_isFull 9 = .ok (.iconst 1, 1) := by decide +kernel
theorem dX4_isFull_10 : decode cX4_isFull 10 = .ok (.goto 4, 3) := by decide +kernel
theorem dX4_isFull_13 : decode cX4_isFull 13 = .ok (.iconst 0, 1) := by decide +kernel
theorem dX4_isFull_14 : decode cX4_isFull 14 = .ok (.ireturn, 1) := by decide +kernel
theorem dX4_append_0 : decode cX4_append 0 = .ok (.aload_n 0, 1) := by decide +kernel
theorem dX4_append_1 : decode cX4_append 1 = .ok (.getfield 9, 3) := by decide +kernel
theorem dX4_append_4 : decode cX4_append 4 = .ok (.aload_n 0, 1) := by decide +kernel
theorem dX4_append_5 : decode cX4_append 5 = .ok (.getfield 15, 3) := by decide +kernel
theorem dX4_append_8 : decode cX4_append 8 = .ok (.iload_n 1, 1) := by decide +kernel
theorem dX4_append_9 : decode cX4_append 9 = .ok (.castore, 1) := by decide +kernel
theorem dX4_append_10 : decode cX4_append 10 = .ok (.aload_n 0, 1) := by decide +kernel
theorem dX4_append_11 : decode cX4_append 11 = .ok (.dup, 1) := by decide +kernel
theorem dX4_append_12 : decode cX4_append 12 = .ok (.getfield 15, 3) := by decide +kernel
theorem dX4_append_15 : decode cX4_append 15 = .ok (.iconst 1, 1) := by decide +kernel
theorem dX4_append_16 : decode cX4_append 16 = .ok (.iadd, 1) := by decide +kernel
theorem dX4_append_17 : decode cX4_append 17 = .ok (.putfield 15, 3) := by decide +kernel
theorem dX4_append_20 : decode cX4_append 20 = .ok (.return_, 1) := by decide +kernel
theorem dX4_copy_0 : decode cX4_copy 0 = .ok (.aload_n 1, 1) := by decide +kernel
theorem dX4_copy_1 : decode cX4_copy 1 = .ok (.getfield 9, 3) := by decide +kernel
theorem dX4_copy_4 : decode cX4_copy 4 = .ok (.iconst 0, 1) := by decide +kernel
theorem dX4_copy_5 : decode cX4_copy 5 = .ok (.aload_n 0, 1) := by decide +kernel
theorem dX4_copy_6 : decode cX4_copy 6 = .ok (.getfield 9, 3) := by decide +kernel
theorem dX4_copy_9 : decode cX4_copy 9 = .ok (.iconst 0, 1) := by decide +kernel
theorem dX4_copy_10 : decode cX4_copy 10 = .ok (.aload_n 1, 1) := by decide +kernel
theorem dX4_copy_11 : decode cX4_copy 11 = .ok (.getfield 15, 3) := by decide +kernel
theorem dX4_copy_14 : decode cX4_copy 14 = .ok (.invokestatic 19, 3) := by decide +kernel
theorem dX4_copy_17 : decode cX4_copy 17 = .ok (.aload_n 0, 1) := by decide +kernel
theorem dX4_copy_18 : decode cX4_copy 18 = .ok (.aload_n 1, 1) := by decide +kernel
theorem dX4_copy_19 : decode cX4_copy 19 = .ok (.getfield 15, 3) := by decide +kernel
theorem dX4_copy_22 : decode cX4_copy 22 = .ok (.putfield 15, 3) := by decide +kernel
theorem dX4_copy_25 : decode cX4_copy 25 = .ok (.return_, 1) := by decide +kernel
theorem dX5_init_0 : decode cX5_init 0 = .ok (.aload_n 0, 1) := by decide +kernel
theorem dX5_init_1 : decode cX5_init 1 = .ok (.invokespecial 1, 3) := by decide +kernel
theorem dX5_init_4 : decode cX5_init 4 = .ok (.aload_n 0, 1) := by decide +kernel
theorem dX5_init_5 : decode cX5_init 5 = .ok (.new 7, 3) := by decide +kernel
theorem dX5_init_8 : decode cX5_init 8 = .ok (.dup, 1) := by decide +kernel
theorem dX5_init_9 : decode cX5_init 9 = .ok (.invokespecial 9, 3) := by decide +kernel
theorem dX5_init_12 : decode cX5_init 12 = .ok (.putfield 10, 3) := by decide +kernel
theorem dX5_init_15 : decode cX5_init 15 = .ok (.aload_n 0, 1) := by decide +kernel
theorem dX5_init_16 : decode cX5_init 16 = .ok (.bipush 12, 2) := by decide +kernel
theorem dX5_init_18 : decode cX5_init 18 = .ok (.anewarray 7, 3) := by decide +kernel
theorem dX5_init_21 : decode cX5_init 21 = .ok (.putfield 16, 3) := by decide +kernel
theorem dX5_init_24 : decode cX5_init 24 = .ok (.aload_n 0, 1) := by decide +kernel
theorem dX5_init_25 : decode cX5_init 25 = .ok (.bipush 12, 2) := by decide +kernel
theorem dX5_init_27 : decode cX5_init 27 = .ok (.newarray .int, 2) := by decide +kernel
theorem dX5_init_29 : decode cX5_init 29 = .ok (.putfield 20, 3) := by decide +kernel
theorem dX5_init_32 : decode cX5_init 32 = .ok (.aload_n 0, 1) := by decide +kernel
theorem dX5_init_33 : decode cX5_init 33 = .ok (.bipush 12, 2) := by decide +kernel
theorem dX5_init_35 : decode cX5_init 35 = .ok (.anewarray 24, 3) := by decide +kernel
theorem dX5_init_38 : decode cX5_init 38 = .ok (.putfield 26, 3) := by decide +kernel
theorem dX5_init_41 : decode cX5_init 41 = .ok (.aload_n 0, 1) := by decide +kernel
theorem dX5_init_42 : decode cX5_init 42 = .ok (.iconst 3, 1) := by decide +kernel
theorem dX5_init_43 : decode cX5_init 43 = .ok (.anewarray 30, 3) := by decide +kernel
theorem dX5_init_46 : decode cX5_init 46 = .ok (.putfield 32, 3) := by decide +kernel
theorem dX5_init_49 : decode cX5_init 49 = .ok (.aload_n 0, 1) := by decide +kernel
theorem dX5_init_50 : decode cX5_init 50 = .ok (.new 36, 3) := by decide +kernel
theorem dX5_init_53 : decode cX5_init 53 = .ok (.dup, 1) := by decide +kernel
theorem dX5_init_54 : decode cX5_init 54 = .ok (.invokespecial 38, 3) := by decide +kernel
theorem dX5_init_57 : decode cX5_init 57 = .ok (.putfield 39, 3) := by decide +kernel
theorem dX5_init_60 : decode cX5_init 60 = .ok (.aload_n 0, 1) := by decide +kernel
theorem dX5_init_61 : decode cX5_init 61 = .ok (.bipush 12, 2) := by decide +kernel
theorem dX5_init_63 : decode cX5_init 63 = .ok (.newarray .int, 2) := by decide +kernel
theorem dX5_init_65 : decode cX5_init 65 = .ok (.putfield 43, 3) := by decide +kernel
theorem dX5_init_68 : decode cX5_init 68 = .ok (.aload_n 0, 1) := by decide +kernel
theorem dX5_init_69 : decode cX5_init 69 = .ok (.bipush 12, 2) := by decide +kernel
theorem dX5_init_71 : decode cX5_init 71 = .ok (.newarray .long, 2) := by decide +kernel
theorem dX5_init_73 : decode cX5_init 73 = .ok (.putfield 46, 3) := by decide +kernel
theorem dX5_init_76 : decode cX5_init 76 = .ok (.aload_n 0, 1) := by decide +kernel
theorem dX5_init_77 : decode cX5_init 77 = .ok (.bipush 12, 2) := by decide +kernel
theorem dX5_init_79 : decode cX5_init 79 = .ok (.newarray .long, 2) := by decide +kernel
theorem dX5_init_81 : decode cX5_init 81 = .ok (.putfield 50, 3) := by decide +kernel
theorem dX5_init_84 : decode cX5_init 84 = .ok (.aload_n 0, 1) := by decide +kernel
theorem dX5_init_85 : decode cX5_init 85 = .ok (.bipush 11, 2) := by decide +kernel
theorem dX5_init_87 : decode cX5_init 87 = .ok (.putfield 53, 3) := by decide +kernel
theorem dX5_init_90 : decode cX5_init 90 = .ok (.aload_n 0, 1) := by decide +kernel
theorem dX5_init_91 : decode cX5_init 91 = .ok (.iconst 0, 1) := by decide +kernel
theorem dX5_init_92 : decode cX5_init 92 = .ok (.putfield 57, 3) := by decide +kernel
theorem dX5_init_95 : decode cX5_init 95 = .ok (.iconst 0, 1) := by decide +kernel
theorem dX5_init_96 : decode cX5_init 96 = .ok (.istore_n 1, 1) := by decide +kernel
theorem dX5_init_97 : decode cX5_init 97 = .ok (.iload_n 1, 1) := by decide +kernel
theorem dX5_init_98 : decode cX5_init 98 = .ok (.bipush 12, 2) := by decide +kernel
theorem dX5_init_100 : decode cX5_init 100 = .ok (.if_icmp .ge 22, 3) := by decide +kernel
theorem dX5_init_103 : decode cX5_init 103 = .ok (.aload_n 0, 1) := by decide +kernel
theorem dX5_init_104 : decode cX5_init 104 = .ok (.getfield 16, 3) := by decide +kernel
theorem dX5_init_107 : decode cX5_init 107 = .ok (.iload_n 1, 1) := by decide +kernel
theorem dX5_init_108 : decode cX5_init 108 = .ok (.new 7, 3) := by decide +kernel
theorem dX5_init_111 : decode cX5_init 111 = .ok (.dup, 1) := by decide +kernel
theorem dX5_init_112 : decode cX5_init 112 = .ok (.invokespecial 9, 3) := by decide +kernel
theorem dX5_init_115 : decode cX5_init 115 = .ok (.aastore, 1) := by decide +kernel
theorem dX5_init_116 : decode cX5_init 116 = .ok (.iinc 1 1, 3) := by decide +kernel
theorem dX5_init_119 : decode cX5_init 119 = .ok (.goto (-22), 3) := by decide +kernel
theorem dX5_init_122 : decode cX5_init 122 = .ok (.iconst 0, 1) := by decide +kernel
theorem dX5_init_123 : decode cX5_init 123 = .ok (.istore_n 1, 1) := by decide +kernel
theorem dX5_init_124 : decode cX5_init 124 = .ok (.iload_n 1, 1) := by decide +kernel
theorem dX5_init_125 : decode cX5_init 125 = .ok (.bipush 12, 2) := by decide +kernel
theorem dX5_init_127 : decode cX5_init 127 = .ok (.if_icmp .ge 22, 3) := by decide +kernel
theorem dX5_init_130 : decode cX5_init 130 = .ok (.aload_n 0, 1) := by decide +kernel
theorem dX5_init_131 : decode cX5_init 131 = .ok (.getfield 26, 3) := by decide +kernel
theorem dX5_init_134 : decode cX5_init 134 = .ok (.iload_n 1, 1) := by decide +kernel
theorem dX5_init_135 : decode cX5_init 135 = .ok (.new 24, 3) := by decide +kernel
theorem dX5_init_138 : decode cX5_init 138 = .ok (.dup, 1) := by decide +kernel
theorem dX5_init_139 : decode cX5_init 139 = .ok (.invokespecial 60, 3) := by decide +kernel
theorem dX5_init_142 : decode cX5_init 142 = .ok (.aastore, 1) := by decide +kernel
theorem dX5_init_143 : decode cX5_init 143 = .ok (.iinc 1 1, 3) := by decide +kernel
theorem dX5_init_146 : decode cX5_init 146 = .ok (.goto (-22), 3) := by decide +kernel
theorem dX5_init_149 : decode cX5_init 149 = .ok (.iconst 0, 1) := by decide +kernel
theorem dX5_init_150 : decode cX5_init 150 = .ok (.istore_n 1, 1) := by decide +kernel
theorem dX5_init_151 : decode cX5_init 151 = .ok (.iload_n 1, 1) := by decide +kernel
theorem dX5_init_152 : decode cX5_init 152 = .ok (.iconst 3, 1) := by decide +kernel
theorem dX5_init_153 : decode cX5_init 153 = .ok (.if_icmp .ge 22, 3) := by decide +kernel
theorem dX5_init_156 : decode cX5_init 156 = .ok (.aload_n 0, 1) := by decide +kernel
theorem dX5_init_157 : decode cX5_init 157 = .ok (.getfield 32, 3) := by decide +kernel
theorem dX5_init_160 : decode cX5_init 160 = .ok (.iload_n 1, 1) := by decide +kernel
theorem dX5_init_161 : decode cX5_init 161 = .ok (.new 30, 3) := by decide +kernel
theorem dX5_init_164 : decode cX5_init 164 = .ok (.dup, 1) := by decide +kernel
theorem dX5_init_165 : decode cX5_init 165 = .ok (.invokespecial 61, 3) := by decide +kernel
theorem dX5_init_168 : decode cX5_init 168 = .ok (.aastore, 1) := by decide +kernel
theorem dX5_init_169 : decode cX5_init 169 = .ok (.iinc 1 1, 3) := by decide +kernel
theorem dX5_init_172 : decode cX5_init 172 = .ok (.goto (-21), 3) := by decide +kernel
theorem dX5_init_175 : decode cX5_init 175 = .ok (.return_, 1) := by decide +kernel
theorem dX5_type_0 : decode cX5_type 0 = .ok (.ldc 62, 2) := by decide +kernel
theorem dX5_type_2 : decode cX5_type 2 = .ok (.iload_n 1, 1) := by decide +kernel
theorem dX5_type_3 : decode cX5_type 3 = .ok (.invokevirtual 64, 3) := by decide +kernel
theorem dX5_type_6 : decode cX5_type 6 = .ok (.ifCond .lt 13, 3) := by decide +kernel
theorem dX5_type_9 : decode cX5_type 9 = .ok (.aload_n 0, 1) := by decide +kernel
theorem dX5_type_10 : decode cX5_type 10 = .ok (.getfield 10, 3) := by decide +kernel
theorem dX5_type_13 : decode cX5_type 13 = .ok (.invokevirtual 70, 3) := by decide +kernel
theorem dX5_type_16 : decode cX5_type 16 = .ok (.ifCond .eq 5, 3) := by decide +kernel
theorem dX5_type_19 : decode cX5_type 19 = .ok (.iconst 0, 1) := by decide +kernel
theorem dX5_type_20 : decode cX5_type 20 = .ok (.ireturn, 1) := by decide +kernel
theorem dX5_type_21 : decode cX5_type 21 = .ok (.aload_n 0, 1) := by decide +kernel
theorem dX5_type_22 : decode cX5_type 22 = .ok (.getfield 10, 3) := by decide +kernel
theorem dX5_type_25 : decode cX5_type 25 = .ok (.iload_n 1, 1) := by decide +kernel
theorem dX5_type_26 : decode cX5_type 26 = .ok (.invokevirtual 74, 3) := by decide +kernel
theorem dX5_type_29 : decode cX5_type 29 = .ok (.iconst 1, 1) := by decide +kernel
theorem dX5_type_30 : decode cX5_type 30 = .ok (.ireturn, 1) := by decide +kernel
theorem dX5_clear_0 : decode cX5_clear 0 = .ok (.aload_n 0, 1) := by decide +kernel
theorem dX5_clear_1 : decode cX5_clear 1 = .ok (.getfield 10, 3) := by decide +kernel
theorem dX5_clear_4 : decode cX5_clear 4 = .ok (.getfield 78, 3) := by decide +kernel
theorem dX5_clear_7 : decode cX5_clear 7 = .ok (.istore_n 1, 1) := by decide +kernel
theorem dX5_clear_8 : decode cX5_clear 8 = .ok (.aload_n 0, 1) := by decide +kernel
theorem dX5_clear_9 : decode cX5_clear 9 = .ok (.getfield 10, 3) := by decide +kernel
theorem dX5_clear_12 : decode cX5_clear 12 = .ok (.iconst 0, 1) := by decide +kernel
theorem dX5_clear_13 : decode cX5_clear 13 = .ok (.putfield 78, 3) := by decide +kernel
theorem dX5_clear_16 : decode cX5_clear 16 = .ok (.iload_n 1, 1) := by decide +kernel
theorem dX5_clear_17 : decode cX5_clear 17 = .ok (.ireturn, 1) := by decide +kernel
theorem dX5_define_0 : decode cX5_define 0 = .ok (.iload_n 1, 1) := by decide +kernel
theorem dX5_define_1 : decode cX5_define 1 = .ok (.invokestatic 81, 3) := by decide +kernel
theorem dX5_define_4 : decode cX5_define 4 = .ok (.aload_n 0, 1) := by decide +kernel
theorem dX5_define_5 : decode cX5_define 5 = .ok (.getfield 39, 3) := by decide +kernel
theorem dX5_define_8 : decode cX5_define 8 = .ok (.aload_n 0, 1) := by decide +kernel
theorem dX5_define_9 : decode cX5_define 9 = .ok (.getfield 10, 3) := by decide +kernel
theorem dX5_define_12 : decode cX5_define 12 = .ok (.invokevirtual 85, 3) := by decide +kernel
theorem dX5_define_15 : decode cX5_define 15 = .ok (.ifCond .ne 13, 3) := by decide +kernel
theorem dX5_define_18 : decode cX5_define 18 = .ok (.new 89, 3) := by decide +kernel
theorem dX5_define_21 : decode cX5_define 21 = .ok (.dup, 1) := by decide +kernel
theorem dX5_define_22 : decode cX5_define 22 = .ok (.ldc 91, 2) := by decide +kernel
theorem dX5_define_24 : decode cX5_define 24 = .ok (.invokespecial 93, 3) := by decide +kernel
theorem dX5_define_27 : decode cX5_define 27 = .ok (.athrow, 1) := by decide +kernel
theorem dX5_define_28 : decode cX5_define 28 = .ok (.aload_n 0, 1) := by decide +kernel
theorem dX5_define_29 : decode cX5_define 29 = .ok (.getfield 16, 3) := by decide +kernel
theorem dX5_define_32 : decode cX5_define 32 = .ok (.iload_n 1, 1) := by decide +kernel
theorem dX5_define_33 : decode cX5_define 33 = .ok (.aaload, 1) := by decide +kernel
theorem dX5_define_34 : decode cX5_define 34 = .ok (.aload_n 0, 1) := by decide +kernel
theorem dX5_define_35 : decode cX5_define 35 = .ok (.getfield 10, 3) := by decide +kernel
theorem dX5_define_38 : decode cX5_define 38 = .ok (.invokevirtual 96, 3) := by decide +kernel
theorem dX5_define_41 : decode cX5_define 41 = .ok (.aload_n 0, 1) := by decide +kernel
theorem dX5_define_42 : decode cX5_define 42 = .ok (.getfield 20, 3) := by decide +kernel
theorem dX5_define_45 : decode cX5_define 45 = .ok (.iload_n 1, 1) := by decide +kernel
theorem dX5_define_46 : decode cX5_define 46 = .ok (.aload_n 0, 1) := by decide +kernel
theorem dX5_define_47 : decode cX5_define 47 = .ok (.getfield 39, 3) := by decide +kernel
theorem dX5_define_50 : decode cX5_define 50 = .ok (.getfield 100, 3) := by decide +kernel
theorem dX5_define_53 : decode cX5_define 53 = .ok (.iastore, 1) := by decide +kernel
theorem dX5_define_54 : decode cX5_define 54 = .ok (.aload_n 0, 1) := by decide +kernel
theorem dX5_define_55 : decode cX5_define 55 = .ok (.getfield 10, 3) := by decide +kernel
theorem dX5_define_58 : decode cX5_define 58 = .ok (.iconst 0, 1) := by decide +kernel
theorem dX5_define_59 : decode cX5_define 59 = .ok (.putfield 78, 3) := by decide +kernel
theorem dX5_define_62 : decode cX5_define 62 = .ok (.aload_n 0, 1) := by decide +kernel
theorem dX5_define_63 : decode cX5_define 63 = .ok (.getfield 20, 3) := by decide +kernel
theorem dX5_define_66 : decode cX5_define 66 = .ok (.iload_n 1, 1) := by decide +kernel
theorem dX5_define_67 : decode cX5_define 67 = .ok (.iaload, 1) := by decide +kernel
theorem dX5_define_68 : decode cX5_define 68 = .ok (.invokestatic 103, 3) := by decide +kernel
theorem dX5_define_71 : decode cX5_define 71 = .ok (.ireturn, 1) := by decide +kernel
theorem dX5_input_0 : decode cX5_input 0 = .ok (.iload_n 1, 1) := by decide +kernel
theorem dX5_input_1 : decode cX5_input 1 = .ok (.invokestatic 81, 3) := by decide +kernel
theorem dX5_input_4 : decode cX5_input 4 = .ok (.aload_n 0, 1) := by decide +kernel
theorem dX5_input_5 : decode cX5_input 5 = .ok (.iload_n 1, 1) := by decide +kernel
theorem dX5_input_6 : decode cX5_input 6 = .ok (.invokevirtual 108, 3) := by decide +kernel
theorem dX5_input_9 : decode cX5_input 9 = .ok (.istore_n 2, 1) := by decide +kernel
theorem dX5_input_10 : decode cX5_input 10 = .ok (.aload_n 0, 1) := by decide +kernel
theorem dX5_input_11 : decode cX5_input 11 = .ok (.getfield 16, 3) := by decide +kernel
theorem dX5_input_14 : decode cX5_input 14 = .ok (.iload_n 1, 1) := by decide +kernel
theorem dX5_input_15 : decode cX5_input 15 = .ok (.aaload, 1) := by decide +kernel
theorem dX5_input_16 : decode cX5_input 16 = .ok (.iconst 0, 1) := by decide +kernel
theorem dX5_input_17 : decode cX5_input 17 = .ok (.putfield 78, 3) := by decide +kernel
theorem dX5_input_20 : decode cX5_input 20 = .ok (.aload_n 0, 1) := by decide +kernel
theorem dX5_input_21 : decode cX5_input 21 = .ok (.getfield 20, 3) := by decide +kernel
theorem dX5_input_24 : decode cX5_input 24 = .ok (.iload_n 1, 1) := by decide +kernel
theorem dX5_input_25 : decode cX5_input 25 = .ok (.iconst 0, 1) := by decide +kernel
theorem dX5_input_26 : decode cX5_input 26 = .ok (.iastore, 1) := by decide +kernel
theorem dX5_input_27 : decode cX5_input 27 = .ok (.iload_n 2, 1) := by decide +kernel
theorem dX5_input_28 : decode cX5_input 28 = .ok (.ireturn, 1) := by decide +kernel
theorem dX5_total_0 : decode cX5_total 0 = .ok (.iload_n 1, 1) := by decide +kernel
theorem dX5_total_1 : decode cX5_total 1 = .ok (.invokestatic 81, 3) := by decide +kernel
theorem dX5_total_4 : decode cX5_total 4 = .ok (.aload_n 0, 1) := by decide +kernel
theorem dX5_total_5 : decode cX5_total 5 = .ok (.getfield 53, 3) := by decide +kernel
theorem dX5_total_8 : decode cX5_total 8 = .ok (.istore_n 2, 1) := by decide +kernel
theorem dX5_total_9 : decode cX5_total 9 = .ok (.aload_n 0, 1) := by decide +kernel
theorem dX5_total_10 : decode cX5_total 10 = .ok (.iload_n 1, 1) := by decide +kernel
theorem dX5_total_11 : decode cX5_total 11 = .ok (.putfield 53, 3) := by decide +kernel
theorem dX5_total_14 : decode cX5_total 14 = .ok (.iload_n 2, 1) := by decide +kernel
theorem dX5_total_15 : decode cX5_total 15 = .ok (.ireturn, 1) := by decide +kernel
theorem dX5_bracket_0 : decode cX5_bracket 0 = .ok (.iload_n 1, 1) := by decide +kernel
theorem dX5_bracket_1 : decode cX5_bracket 1 = .ok (.invokestatic 112, 3) := by decide +kernel
theorem dX5_bracket_4 : decode cX5_bracket 4 = .ok (.aload_n 0, 1) := by decide +kernel
theorem dX5_bracket_5 : decode cX5_bracket 5 = .ok (.getfield 39, 3) := by decide +kernel
theorem dX5_bracket_8 : decode cX5_bracket 8 = .ok (.getfield 115, 3) := by decide +kernel
theorem dX5_bracket_11 : decode cX5_bracket 11 = .ok (.iload_n 1, 1) := by decide +kernel
theorem dX5_bracket_12 : decode cX5_bracket 12 = .ok (.aaload, 1) := by decide +kernel
theorem dX5_bracket_13 : decode cX5_bracket 13 = .ok (.astore 4, 2) := by decide +kernel
theorem dX5_bracket_15 : decode cX5_bracket 15 = .ok (.aload 4, 2) := by decide +kernel
theorem dX5_bracket_17 : decode cX5_bracket 17 = .ok (.iload_n 2, 1) := by decide +kernel
theorem dX5_bracket_18 : decode cX5_bracket 18 = .ok (.invokevirtual 119, 3) := by decide +kernel
theorem dX5_bracket_21 : decode cX5_bracket 21 = .ok (.ifCond .eq 14, 3) := by decide +kernel
theorem dX5_bracket_24 : decode cX5_bracket 24 = .ok (.iload_n 3, 1) := by decide +kernel
theorem dX5_bracket_25 : decode cX5_bracket 25 = .ok (.ifCond .lt 10, 3) := by decide +kernel
theorem dX5_bracket_28 : decode cX5_bracket 28 = .ok (.iload_n 3, 1) := by decide +kernel
theorem dX5_bracket_29 : decode cX5_bracket 29 = .ok (.sipush 1000, 3) := by decide +kernel
theorem dX5_bracket_32 : decode cX5_bracket 32 = .ok (.if_icmp .le 13, 3) := by decide +kernel
theorem dX5_bracket_35 : decode cX5_bracket 35 = .ok (.new 89, 3) := by decide +kernel
theorem dX5_bracket_38 : decode cX5_bracket 38 = .ok (.dup, 1) := by decide +kernel
theorem dX5_bracket_39 : decode cX5_bracket 39 = .ok (.ldc 124, 2) := by decide +kernel
theorem dX5_bracket_41 : decode cX5_bracket 41 = .ok (.invokespecial 93, 3) := by decide +kernel
theorem dX5_bracket_44 : decode cX5_bracket 44 = .ok (.athrow, 1) := by decide +kernel
theorem dX5_bracket_45 : decode cX5_bracket 45 = .ok (.aload 4, 2) := by decide +kernel
theorem dX5_bracket_47 : decode cX5_bracket 47 = .ok (.invokevirtual 126, 3) := by decide +kernel
theorem dX5_bracket_50 : decode cX5_bracket 50 = .ok (.ifCond .eq 13, 3) := by decide +kernel
theorem dX5_bracket_53 : decode cX5_bracket 53 = .ok (.new 127, 3) := by decide +kernel
theorem dX5_bracket_56 : decode cX5_bracket 56 = .ok (.dup, 1) := by decide +kernel
theorem dX5_bracket_57 : decode cX5_bracket 57 = .ok (.ldc 129, 2) := by decide +kernel
theorem dX5_bracket_59 : decode cX5_bracket 59 = .ok (.invokespecial 131, 3) := by decide +kernel
theorem dX5_bracket_62 : decode cX5_bracket 62 = .ok (.athrow, 1) := by decide +kernel
theorem dX5_bracket_63 : decode cX5_bracket 63 = .ok (.aload 4, 2) := by decide +kernel
theorem dX5_bracket_65 : decode cX5_bracket 65 = .ok (.iload_n 2, 1) := by decide +kernel
theorem dX5_bracket_66 : decode cX5_bracket 66 = .ok (.iload_n 3, 1) := by decide +kernel
theorem dX5_bracket_67 : decode cX5_bracket 67 = .ok (.invokevirtual 132, 3) := by decide +kernel
theorem dX5_bracket_70 : decode cX5_bracket 70 = .ok (.aload 4, 2) := by decide +kernel
theorem dX5_bracket_72 : decode cX5_bracket 72 = .ok (.getfield 135, 3) := by decide +kernel
theorem dX5_bracket_75 : decode cX5_bracket 75 = .ok (.ireturn, 1) := by decide +kernel
theorem dX5_reset_0 : decode cX5_reset 0 = .ok (.iload_n 1, 1) := by decide +kernel
theorem dX5_reset_1 : decode cX5_reset 1 = .ok (.invokestatic 112, 3) := by decide +kernel
theorem dX5_reset_4 : decode cX5_reset 4 = .ok (.iload_n 2, 1) := by decide +kernel
theorem dX5_reset_5 : decode cX5_reset 5 = .ok (.ifCond .lt 8, 3) := by decide +kernel
theorem dX5_reset_8 : decode cX5_reset 8 = .ok (.iload_n 2, 1) := by decide +kernel
theorem dX5_reset_9 : decode cX5_reset 9 = .ok (.iconst 2, 1) := by decide +kernel
theorem dX5_reset_10 : decode cX5_reset 10 = .ok (.if_icmp .le 13, 3) := by decide +kernel
theorem dX5_reset_13 : decode cX5_reset 13 = .ok (.new 89, 3) := by decide +kernel
theorem dX5_reset_16 : decode cX5_reset 16 = .ok (.dup, 1) := by decide +kernel
theorem dX5_reset_17 : decode cX5_reset 17 = .ok (.ldc 138, 2) := by decide +kernel
theorem dX5_reset_19 : decode cX5_reset 19 = .ok (.invokespecial 93, 3) := by decide +kernel
theorem dX5_reset_22 : decode cX5_reset 22 = .ok (.athrow, 1) := by decide +kernel
theorem dX5_reset_23 : decode cX5_reset 23 = .ok (.aload_n 0, 1) := by decide +kernel
theorem dX5_reset_24 : decode cX5_reset 24 = .ok (.getfield 39, 3) := by decide +kernel
theorem dX5_reset_27 : decode cX5_reset 27 = .ok (.getfield 115, 3) := by decide +kernel
theorem dX5_reset_30 : decode cX5_reset 30 = .ok (.iload_n 1, 1) := by decide +kernel
theorem dX5_reset_31 : decode cX5_reset 31 = .ok (.aaload, 1) := by decide +kernel
theorem dX5_reset_32 : decode cX5_reset 32 = .ok (.astore_n 3, 1) := by decide +kernel
theorem dX5_reset_33 : decode cX5_reset 33 = .ok (.aload_n 3, 1) := by decide +kernel
theorem dX5_reset_34 : decode cX5_reset 34 = .ok (.getfield 135, 3) := by decide +kernel
theorem dX5_reset_37 : decode cX5_reset 37 = .ok (.istore 4, 2) := by decide +kernel
theorem dX5_reset_39 : decode cX5_reset 39 = .ok (.aload_n 3, 1) := by decide +kernel
theorem dX5_reset_40 : decode cX5_reset 40 = .ok (.iconst 0, 1) := by decide +kernel
theorem dX5_reset_41 : decode cX5_reset 41 = .ok (.putfield 135, 3) := by decide +kernel
theorem dX5_reset_44 : decode cX5_reset 44 = .ok (.aload_n 3, 1) := by decide +kernel
theorem dX5_reset_45 : decode cX5_reset 45 = .ok (.iload_n 2, 1) := by decide +kernel
theorem dX5_reset_46 : decode cX5_reset 46 = .ok (.putfield 140, 3) := by decide +kernel
theorem dX5_reset_49 : decode cX5_reset 49 = .ok (.iload 4, 2) := by decide +kernel
theorem dX5_reset_51 : decode cX5_reset 51 = .ok (.ireturn, 1) := by decide +kernel
theorem dX5_order_0 : decode cX5_order 0 = .ok (.iload_n 1, 1) := by decide +kernel
theorem dX5_order_1 : decode cX5_order 1 = .ok (.ifCond .lt 9, 3) := by decide +kernel
theorem dX5_order_4 : decode cX5_order 4 = .ok (.iload_n 1, 1) := by decide +kernel
theorem dX5_order_5 : decode cX5_order 5 = .ok (.bipush 12, 2) := by decide +kernel
theorem dX5_order_7 : decode cX5_order 7 = .ok (.if_icmp .lt 13, 3) := by decide +kernel
theorem dX5_order_10 : decode cX5_order 10 = .ok (.new 89, 3) := by decide +kernel
theorem dX5_order_13 : decode cX5_order 13 = .ok (.dup, 1) := by decide +kernel
theorem dX5_order_14 : decode cX5_order 14 = .ok (.ldc 143, 2) := by decide +kernel
theorem dX5_order_16 : decode cX5_order 16 = .ok (.invokespecial 93, 3) := by decide +kernel
theorem dX5_order_19 : decode cX5_order 19 = .ok (.athrow, 1) := by decide +kernel
theorem dX5_order_20 : decode cX5_order 20 = .ok (.iload_n 1, 1) := by decide +kernel
theorem dX5_order_21 : decode cX5_order 21 = .ok (.aload_n 0, 1) := by decide +kernel
theorem dX5_order_22 : decode cX5_order 22 = .ok (.invokevirtual 145, 3) := by decide +kernel
theorem dX5_order_25 : decode cX5_order 25 = .ok (.if_icmp .lt 13, 3) := by decide +kernel
theorem dX5_order_28 : decode cX5_order 28 = .ok (.new 127, 3) := by decide +kernel
theorem dX5_order_31 : decode cX5_order 31 = .ok (.dup, 1) := by decide +kernel
theorem dX5_order_32 : decode cX5_order 32 = .ok (.ldc 149, 2) := by decide +kernel
theorem dX5_order_34 : decode cX5_order 34 = .ok (.invokespecial 131, 3) := by decide +kernel
theorem dX5_order_37 : decode cX5_order 37 = .ok (.athrow, 1) := by decide +kernel
theorem dX5_order_38 : decode cX5_order 38 = .ok (.aload_n 0, 1) := by decide +kernel
theorem dX5_order_39 : decode cX5_order 39 = .ok (.getfield 43, 3) := by decide +kernel
theorem dX5_order_42 : decode cX5_order 42 = .ok (.iload_n 1, 1) := by decide +kernel
theorem dX5_order_43 : decode cX5_order 43 = .ok (.iaload, 1) := by decide +kernel
theorem dX5_order_44 : decode cX5_order 44 = .ok (.ireturn, 1) := by decide +kernel
theorem dX5_file_0 : decode cX5_file 0 = .ok (.iload_n 1, 1) := by decide +kernel
theorem dX5_file_1 : decode cX5_file 1 = .ok (.iload_n 2, 1) := by decide +kernel
theorem dX5_file_2 : decode cX5_file 2 = .ok (.invokestatic 151, 3) := by decide +kernel
theorem dX5_file_5 : decode cX5_file 5 = .ok (.iload_n 3, 1) := by decide +kernel
theorem dX5_file_6 : decode cX5_file 6 = .ok (.invokestatic 81, 3) := by decide +kernel
theorem dX5_file_9 : decode cX5_file 9 = .ok (.aload_n 0, 1) := by decide +kernel
theorem dX5_file_10 : decode cX5_file 10 = .ok (.iload_n 3, 1) := by decide +kernel
theorem dX5_file_11 : decode cX5_file 11 = .ok (.invokevirtual 108, 3) := by decide +kernel
theorem dX5_file_14 : decode cX5_file 14 = .ok (.ifCond .ne 17, 3) := by decide +kernel
theorem dX5_file_17 : decode cX5_file 17 = .ok (.iload 4, 2) := by decide +kernel
theorem dX5_file_19 : decode cX5_file 19 = .ok (.ldc 154, 2) := by decide +kernel
theorem dX5_file_21 : decode cX5_file 21 = .ok (.if_icmp .lt 10, 3) := by decide +kernel
theorem dX5_file_24 : decode cX5_file 24 = .ok (.iload 4, 2) := by decide +kernel
theorem dX5_file_26 : decode cX5_file 26 = .ok (.ldc 155, 2) := by decide +kernel
theorem dX5_file_28 : decode cX5_file 28 = .ok (.if_icmp .le 13, 3) := by decide +kernel
theorem dX5_file_31 : decode cX5_file 31 = .ok (.new 89, 3) := by decide +kernel
theorem dX5_file_34 : decode cX5_file 34 = .ok (.dup, 1) := by decide +kernel
theorem dX5_file_35 : decode cX5_file 35 = .ok (.ldc 156, 2) := by decide +kernel
theorem dX5_file_37 : decode cX5_file 37 = .ok (.invokespecial 93, 3) := by decide +kernel
theorem dX5_file_40 : decode cX5_file 40 = .ok (.athrow, 1) := by decide +kernel
theorem dX5_file_41 : decode cX5_file 41 = .ok (.aload_n 0, 1) := by decide +kernel
theorem dX5_file_42 : decode cX5_file 42 = .ok (.iload_n 1, 1) := by decide +kernel
theorem dX5_file_43 : decode cX5_file 43 = .ok (.iload_n 2, 1) := by decide +kernel
theorem dX5_file_44 : decode cX5_file 44 = .ok (.invokevirtual 158, 3) := by decide +kernel
theorem dX5_file_47 : decode cX5_file 47 = .ok (.astore 5, 2) := by decide +kernel
theorem dX5_file_49 : decode cX5_file 49 = .ok (.aload 5, 2) := by decide +kernel
theorem dX5_file_51 : decode cX5_file 51 = .ok (.getfield 162, 3) := by decide +kernel
theorem dX5_file_54 : decode cX5_file 54 = .ok (.iload_n 3, 1) := by decide +kernel
theorem dX5_file_55 : decode cX5_file 55 = .ok (.iaload, 1) := by decide +kernel
theorem dX5_file_56 : decode cX5_file 56 = .ok (.istore 6, 2) := by decide +kernel
theorem dX5_file_58 : decode cX5_file 58 = .ok (.aload 5, 2) := by decide +kernel
theorem dX5_file_60 : decode cX5_file 60 = .ok (.getfield 162, 3) := by decide +kernel
theorem dX5_file_63 : decode cX5_file 63 = .ok (.iload_n 3, 1) := by decide +kernel
theorem dX5_file_64 : decode cX5_file 64 = .ok (.iload 4, 2) := by decide +kernel
theorem dX5_file_66 : decode cX5_file 66 = .ok (.iastore, 1) := by decide +kernel
theorem dX5_file_67 : decode cX5_file 67 = .ok (.iload 6, 2) := by decide +kernel
theorem dX5_file_69 : decode cX5_file 69 = .ok (.ireturn, 1) := by decide +kernel
theorem dX5_assess_0 : decode cX5_assess 0 = .ok (.iload_n 1, 1) := by decide +kernel
theorem dX5_assess_1 : decode cX5_assess 1 = .ok (.iload_n 2, 1) := by decide +kernel
theorem dX5_assess_2 : decode cX5_assess 2 = .ok (.invokestatic 151, 3) := by decide +kernel
theorem dX5_assess_5 : decode cX5_assess 5 = .ok (.aload_n 0, 1) := by decide +kernel
theorem dX5_assess_6 : decode cX5_assess 6 = .ok (.getfield 32, 3) := by decide +kernel
theorem dX5_assess_9 : decode cX5_assess 9 = .ok (.iload_n 1, 1) := by decide +kernel
theorem dX5_assess_10 : decode cX5_assess 10 = .ok (.aaload, 1) := by decide +kernel
theorem dX5_assess_11 : decode cX5_assess 11 = .ok (.astore_n 3, 1) := by decide +kernel
theorem dX5_assess_12 : decode cX5_assess 12 = .ok (.aload_n 0, 1) := by decide +kernel
theorem dX5_assess_13 : decode cX5_assess 13 = .ok (.invokevirtual 145, 3) := by decide +kernel
theorem dX5_assess_16 : decode cX5_assess 16 = .ok (.bipush 12, 2) := by decide +kernel
theorem dX5_assess_18 : decode cX5_assess 18 = .ok (.if_icmp .lt 10, 3) := by decide +kernel
theorem dX5_assess_21 : decode cX5_assess 21 = .ok (.aload_n 3, 1) := by decide +kernel
theorem dX5_assess_22 : decode cX5_assess 22 = .ok (.invokevirtual 165, 3) := by decide +kernel
theorem dX5_assess_25 : decode cX5_assess 25 = .ok (.ifCond .eq 13, 3) := by decide +kernel
theorem dX5_assess_28 : decode cX5_assess 28 = .ok (.new 127, 3) := by decide +kernel
theorem dX5_assess_31 : decode cX5_assess 31 = .ok (.dup, 1) := by decide +kernel
theorem dX5_assess_32 : decode cX5_assess 32 = .ok (.ldc 166, 2) := by decide +kernel
theorem dX5_assess_34 : decode cX5_assess 34 = .ok (.invokespecial 131, 3) := by decide +kernel
theorem dX5_assess_37 : decode cX5_assess 37 = .ok (.athrow, 1) := by decide +kernel
theorem dX5_assess_38 : decode cX5_assess 38 = .ok (.aload_n 0, 1) := by decide +kernel
theorem dX5_assess_39 : decode cX5_assess 39 = .ok (.iload_n 1, 1) := by decide +kernel
theorem dX5_assess_40 : decode cX5_assess 40 = .ok (.iload_n 2, 1) := by decide +kernel
theorem dX5_assess_41 : decode cX5_assess 41 = .ok (.invokevirtual 158, 3) := by decide +kernel
theorem dX5_assess_44 : decode cX5_assess 44 = .ok (.astore 4, 2) := by decide +kernel
theorem dX5_assess_46 : decode cX5_assess 46 = .ok (.aload_n 0, 1) := by decide +kernel
theorem dX5_assess_47 : decode cX5_assess 47 = .ok (.aload 4, 2) := by decide +kernel
theorem dX5_assess_49 : decode cX5_assess 49 = .ok (.iload_n 2, 1) := by decide +kernel
theorem dX5_assess_50 : decode cX5_assess 50 = .ok (.ifCond .ne 10, 3) := by decide +kernel
theorem dX5_assess_53 : decode cX5_assess 53 = .ok (.aload_n 0, 1) := by decide +kernel
theorem dX5_assess_54 : decode cX5_assess 54 = .ok (.getfield 50, 3) := by decide +kernel
theorem dX5_assess_57 : decode cX5_assess 57 = .ok (.goto 14, 3) := by decide +kernel
theorem dX5_assess_60 : decode cX5_assess 60 = .ok (.aload_n 0, 1) := by decide +kernel
theorem dX5_assess_61 : decode cX5_assess 61 = .ok (.iload_n 1, 1) := by decide +kernel
theorem dX5_assess_62 : decode cX5_assess 62 = .ok (.iload_n 2, 1) := by decide +kernel
theorem dX5_assess_63 : decode cX5_assess 63 = .ok (.iconst 1, 1) := by decide +kernel
theorem dX5_assess_64 : decode cX5_assess 64 = .ok (.isub, 1) := by decide +kernel
theorem dX5_assess_65 : decode cX5_assess 65 = .ok (.invokevirtual 158, 3) := by decide +kernel
theorem dX5_assess_68 : decode cX5_assess 68 = .ok (.getfield 168, 3) := by decide +kernel
theorem dX5_assess_71 : decode cX5_assess 71 = .ok (.invokevirtual 171, 3) := by decide +kernel
theorem dX5_assess_74 : decode cX5_assess 74 = .ok (.ifCond .ne 13, 3) := by decide +kernel
theorem dX5_assess_77 : decode cX5_assess 77 = .ok (.new 175, 3) := by decide +kernel
theorem dX5_assess_80 : decode cX5_assess 80 = .ok (.dup, 1) := by decide +kernel
theorem dX5_assess_81 : decode cX5_assess 81 = .ok (.ldc 177, 2) := by decide +kernel
theorem dX5_assess_83 : decode cX5_assess 83 = .ok (.invokespecial 179, 3) := by decide +kernel
theorem dX5_assess_86 : decode cX5_assess 86 = .ok (.athrow, 1) := by decide +kernel
theorem dX5_assess_87 : decode cX5_assess 87 = .ok (.aload_n 0, 1) := by decide +kernel
theorem dX5_assess_88 : decode cX5_assess 88 = .ok (.getfield 46, 3) := by decide +kernel
theorem dX5_assess_91 : decode cX5_assess 91 = .ok (.aload_n 0, 1) := by decide +kernel
theorem dX5_assess_92 : decode cX5_assess 92 = .ok (.getfield 53, 3) := by decide +kernel
theorem dX5_assess_95 : decode cX5_assess 95 = .ok (.laload, 1) := by decide +kernel
theorem dX5_assess_96 : decode cX5_assess 96 = .ok (.lstore 5, 2) := by decide +kernel
theorem dX5_assess_98 : decode cX5_assess 98 = .ok (.aload_n 3, 1) := by decide +kernel
theorem dX5_assess_99 : decode cX5_assess 99 = .ok (.iconst 0, 1) := by decide +kernel
theorem dX5_assess_100 : decode cX5_assess 100 = .ok (.iload_n 2, 1) := by decide +kernel
theorem dX5_assess_101 : decode cX5_assess 101 = .ok (.lload 5, 2) := by decide +kernel
theorem dX5_assess_103 : decode cX5_assess 103 = .ok (.aload 4, 2) := by decide +kernel
theorem dX5_assess_105 : decode cX5_assess 105 = .ok (.getfield 180, 3) := by decide +kernel
theorem dX5_assess_108 : decode cX5_assess 108 = .ok (.lsub, 1) := by decide +kernel
theorem dX5_assess_109 : decode cX5_assess 109 = .ok (.invokevirtual 184, 3) := by decide +kernel
theorem dX5_assess_112 : decode cX5_assess 112 = .ok (.aload 4, 2) := by decide +kernel
theorem dX5_assess_114 : decode cX5_assess 114 = .ok (.aload_n 0, 1) := by decide +kernel
theorem dX5_assess_115 : decode cX5_assess 115 = .ok (.getfield 46, 3) := by decide +kernel
theorem dX5_assess_118 : decode cX5_assess 118 = .ok (.lload 5, 2) := by decide +kernel
theorem dX5_assess_120 : decode cX5_assess 120 = .ok (.invokevirtual 188, 3) := by decide +kernel
theorem dX5_assess_123 : decode cX5_assess 123 = .ok (.lload 5, 2) := by decide +kernel
theorem dX5_assess_125 : decode cX5_assess 125 = .ok (.lreturn, 1) := by decide +kernel
theorem dX5_value_0 : decode cX5_value 0 = .ok (.iload_n 1, 1) := by decide +kernel
theorem dX5_value_1 : decode cX5_value 1 = .ok (.iload_n 2, 1) := by decide +kernel
theorem dX5_value_2 : decode cX5_value 2 = .ok (.invokestatic 151, 3) := by decide +kernel
theorem dX5_value_5 : decode cX5_value 5 = .ok (.iload_n 3, 1) := by decide +kernel
theorem dX5_value_6 : decode cX5_value 6 = .ok (.invokestatic 81, 3) := by decide +kernel
theorem dX5_value_9 : decode cX5_value 9 = .ok (.aload_n 0, 1) := by decide +kernel
theorem dX5_value_10 : decode cX5_value 10 = .ok (.iload_n 1, 1) := by decide +kernel
theorem dX5_value_11 : decode cX5_value 11 = .ok (.iload_n 2, 1) := by decide +kernel
