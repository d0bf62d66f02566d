/-! decode rows, cut out of the printed names -/
theorem dX1_init_0 : decode cX1_init 0 = .ok (.aload_n 0, 1) := by decide +kernel
theorem dX1_init_1 : decode cX1_init 1 = .ok (.invokespecial 1, 3) := by decide +kernel
theorem dX1_init_4 : decode cX1_init 4 = .ok (.aload_n 0, 1) := by decide +kernel
theorem dX1_init_5 : decode cX1_init 5 = .ok (.bipush 6, 2) := by decide +kernel
theorem dX1_init_7 : decode cX1_init 7 = .ok (.newarray .int, 2) := by decide +kernel
theorem dX1_init_9 : decode cX1_init 9 = .ok (.putfield 9, 3) := by decide +kernel
theorem dX1_init_12 : decode cX1_init 12 = .ok (.aload_n 0, 1) := by decide +kernel
theorem dX1_init_13 : decode cX1_init 13 = .ok (.bipush 6, 2) := by decide +kernel
theorem dX1_init_15 : decode cX1_init 15 = .ok (.newarray .int, 2) := by decide +kernel
theorem dX1_init_17 : decode cX1_init 17 = .ok (.putfield 13, 3) := by decide +kernel
theorem dX1_init_20 : decode cX1_init 20 = .ok (.aload_n 0, 1) := by decide +kernel
theorem dX1_init_21 : decode cX1_init 21 = .ok (.bipush 6, 2) := by decide +kernel
theorem dX1_init_23 : decode cX1_init 23 = .ok (.newarray .int, 2) := by decide +kernel
theorem dX1_init_25 : decode cX1_init 25 = .ok (.putfield 16, 3) := by decide +kernel
theorem dX1_init_28 : decode cX1_init 28 = .ok (.aload_n 0, 1) := by decide +kernel
theorem dX1_init_29 : decode cX1_init 29 = .ok (.bipush 6, 2) := by decide +kernel
theorem dX1_init_31 : decode cX1_init 31 = .ok (.newarray .int, 2) := by decide +kernel
theorem dX1_init_33 : decode cX1_init 33 = .ok (.putfield 19, 3) := by decide +kernel
theorem dX1_init_36 : decode cX1_init 36 = .ok (.return_, 1) := by decide +kernel
theorem dX1_isLimit_0 : decode cX1_isLimit 0 = .ok (.iload_n 0, 1) := by decide +kernel
theorem dX1_isLimit_1 : decode cX1_isLimit 1 = .ok (.ifCond .lt 13, 3) := by decide +kernel
theorem dX1_isLimit_4 : decode cX1_isLimit 4 = .ok (.iload_n 0, 1) := by decide +kernel
theorem dX1_isLimit_5 : decode cX1_isLimit 5 = .ok (.bipush 40, 2) := by decide +kernel
theorem dX1_isLimit_7 : decode cX1_isLimit 7 = .ok (.if_icmp .gt 7, 3) := by decide +kernel
theorem dX1_isLimit_10 : decode cX1_isLimit 10 = .ok (.iconst 1, 1) := by decide +kernel
theorem dX1_isLimit_11 : decode cX1_isLimit 11 = .ok (.goto 4, 3) := by decide +kernel
theorem dX1_isLimit_14 : decode cX1_isLimit 14 = .ok (.iconst 0, 1) := by decide +kernel
theorem dX1_isLimit_15 : decode cX1_isLimit 15 = .ok (.ireturn, 1) := by decide +kernel
theorem dX1_copyFrom_0 : decode cX1_copyFrom 0 = .ok (.aload_n 1, 1) := by decide +kernel
theorem dX1_copyFrom_1 : decode cX1_copyFrom 1 = .ok (.getfield 9, 3) := by decide +kernel
theorem dX1_copyFrom_4 : decode cX1_copyFrom 4 = .ok (.iconst 0, 1) := by decide +kernel
theorem dX1_copyFrom_5 : decode cX1_copyFrom 5 = .ok (.aload_n 0, 1) := by decide +kernel
theorem dX1_copyFrom_6 : decode cX1_copyFrom 6 = .ok (.getfield 9, 3) := by decide +kernel
theorem dX1_copyFrom_9 : decode cX1_copyFrom 9 = .ok (.iconst 0, 1) := by decide +kernel
theorem dX1_copyFrom_10 : decode cX1_copyFrom 10 = .ok (.bipush 6, 2) := by decide +kernel
theorem dX1_copyFrom_12 : decode cX1_copyFrom 12 = .ok (.invokestatic 22, 3) := by decide +kernel
theorem dX1_copyFrom_15 : decode cX1_copyFrom 15 = .ok (.aload_n 1, 1) := by decide +kernel
theorem dX1_copyFrom_16 : decode cX1_copyFrom 16 = .ok (.getfield 13, 3) := by decide +kernel
theorem dX1_copyFrom_19 : decode cX1_copyFrom 19 = .ok (.iconst 0, 1) := by decide +kernel
theorem dX1_copyFrom_20 : decode cX1_copyFrom 20 = .ok (.aload_n 0, 1) := by decide +kernel
theorem dX1_copyFrom_21 : decode cX1_copyFrom 21 = .ok (.getfield 13, 3) := by decide +kernel
theorem dX1_copyFrom_24 : decode cX1_copyFrom 24 = .ok (.iconst 0, 1) := by decide +kernel
theorem dX1_copyFrom_25 : decode cX1_copyFrom 25 = .ok (.bipush 6, 2) := by decide +kernel
theorem dX1_copyFrom_27 : decode cX1_copyFrom 27 = .ok (.invokestatic 22, 3) := by decide +kernel
theorem dX1_copyFrom_30 : decode cX1_copyFrom 30 = .ok (.aload_n 1, 1) := by decide +kernel
theorem dX1_copyFrom_31 : decode cX1_copyFrom 31 = .ok (.getfield 16, 3) := by decide +kernel
theorem dX1_copyFrom_34 : decode cX1_copyFrom 34 = .ok (.iconst 0, 1) := by decide +kernel
theorem dX1_copyFrom_35 : decode cX1_copyFrom 35 = .ok (.aload_n 0, 1) := by decide +kernel
theorem dX1_copyFrom_36 : decode cX1_copyFrom 36 = .ok (.getfield 16, 3) := by decide +kernel
theorem dX1_copyFrom_39 : decode cX1_copyFrom 39 = .ok (.iconst 0, 1) := by decide +kernel
theorem dX1_copyFrom_40 : decode cX1_copyFrom 40 = .ok (.bipush 6, 2) := by decide +kernel
theorem dX1_copyFrom_42 : decode cX1_copyFrom 42 = .ok (.invokestatic 22, 3) := by decide +kernel
theorem dX1_copyFrom_45 : decode cX1_copyFrom 45 = .ok (.aload_n 1, 1) := by decide +kernel
theorem dX1_copyFrom_46 : decode cX1_copyFrom 46 = .ok (.getfield 19, 3) := by decide +kernel
theorem dX1_copyFrom_49 : decode cX1_copyFrom 49 = .ok (.iconst 0, 1) := by decide +kernel
theorem dX1_copyFrom_50 : decode cX1_copyFrom 50 = .ok (.aload_n 0, 1) := by decide +kernel
theorem dX1_copyFrom_51 : decode cX1_copyFrom 51 = .ok (.getfield 19, 3) := by decide +kernel
theorem dX1_copyFrom_54 : decode cX1_copyFrom 54 = .ok (.iconst 0, 1) := by decide +kernel
theorem dX1_copyFrom_55 : decode cX1_copyFrom 55 = .ok (.bipush 6, 2) := by decide +kernel
theorem dX1_copyFrom_57 : decode cX1_copyFrom 57 = .ok (.invokestatic 22, 3) := by decide +kernel
theorem dX1_copyFrom_60 : decode cX1_copyFrom 60 = .ok (.aload_n 0, 1) := by decide +kernel
theorem dX1_copyFrom_61 : decode cX1_copyFrom 61 = .ok (.aload_n 1, 1) := by decide +kernel
theorem dX1_copyFrom_62 : decode cX1_copyFrom 62 = .ok (.getfield 28, 3) := by decide +kernel
theorem dX1_copyFrom_65 : decode cX1_copyFrom 65 = .ok (.putfield 28, 3) := by decide +kernel
theorem dX1_copyFrom_68 : decode cX1_copyFrom 68 = .ok (.return_, 1) := by decide +kernel
theorem dX1_holds_0 : decode cX1_holds 0 = .ok (.iload_n 1, 1) := by decide +kernel
theorem dX1_holds_1 : decode cX1_holds 1 = .ok (.ifCond .lt 15, 3) := by decide +kernel
theorem dX1_holds_4 : decode cX1_holds 4 = .ok (.iload_n 1, 1) := by decide +kernel
theorem dX1_holds_5 : decode cX1_holds 5 = .ok (.aload_n 0, 1) := by decide +kernel
theorem dX1_holds_6 : decode cX1_holds 6 = .ok (.getfield 28, 3) := by decide +kernel
theorem dX1_holds_9 : decode cX1_holds 9 = .ok (.if_icmp .ge 7, 3) := by decide +kernel
theorem dX1_holds_12 : decode cX1_holds 12 = .ok (.iconst 1, 1) := by decide +kernel
theorem dX1_holds_13 : decode cX1_holds 13 = .ok (.goto 4, 3) := by decide +kernel
theorem dX1_holds_16 : decode cX1_holds 16 = .ok (.iconst 0, 1) := by decide +kernel
theorem dX1_holds_17 : decode cX1_holds 17 = .ok (.ireturn, 1) := by decide +kernel
theorem dX1_isFull_0 : decode cX1_isFull 0 = .ok (.aload_n 0, 1) := by decide +kernel
theorem dX1_isFull_1 : decode cX1_isFull 1 = .ok (.getfield 28, 3) := by decide +kernel
theorem dX1_isFull_4 : decode cX1_isFull 4 = .ok (.bipush 6, 2) := by decide +kernel
theorem dX1_isFull_6 : decode cX1_isFull 6 = .ok (.if_icmp .lt 7, 3) := by decide +kernel
theorem dX1_isFull_9 : decode cX1_isFull 9 = .ok (.iconst 1, 1) := by decide +kernel
theorem dX1_isFull_10 : decode cX1_isFull 10 = .ok (.goto 4, 3) := by decide +kernel
theorem dX1_isFull_13 : decode cX1_isFull 13 = .ok (.iconst 0, 1) := by decide +kernel
theorem dX1_isFull_14 : decode cX1_isFull 14 = .ok (.ireturn, 1) := by decide +kernel
theorem dX1_between_0 : decode cX1_between 0 = .ok (.iload_n 1, 1) := by decide +kernel
theorem dX1_between_1 : decode cX1_between 1 = .ok (.iload_n 2, 1) := by decide +kernel
theorem dX1_between_2 : decode cX1_between 2 = .ok (.invokestatic 32, 3) := by decide +kernel
theorem dX1_between_5 : decode cX1_between 5 = .ok (.istore_n 3, 1) := by decide +kernel
theorem dX1_between_6 : decode cX1_between 6 = .ok (.iload_n 1, 1) := by decide +kernel
theorem dX1_between_7 : decode cX1_between 7 = .ok (.iload_n 2, 1) := by decide +kernel
theorem dX1_between_8 : decode cX1_between 8 = .ok (.invokestatic 38, 3) := by decide +kernel
theorem dX1_between_11 : decode cX1_between 11 = .ok (.istore 4, 2) := by decide +kernel
theorem dX1_between_13 : decode cX1_between 13 = .ok (.iconst 0, 1) := by decide +kernel
theorem dX1_between_14 : decode cX1_between 14 = .ok (.istore 5, 2) := by decide +kernel
theorem dX1_between_16 : decode cX1_between 16 = .ok (.iload 5, 2) := by decide +kernel
theorem dX1_between_18 : decode cX1_between 18 = .ok (.aload_n 0, 1) := by decide +kernel
theorem dX1_between_19 : decode cX1_between 19 = .ok (.getfield 28, 3) := by decide +kernel
theorem dX1_between_22 : decode cX1_between 22 = .ok (.if_icmp .ge 35, 3) := by decide +kernel
theorem dX1_between_25 : decode cX1_between 25 = .ok (.aload_n 0, 1) := by decide +kernel
theorem dX1_between_26 : decode cX1_between 26 = .ok (.getfield 9, 3) := by decide +kernel
theorem dX1_between_29 : decode cX1_between 29 = .ok (.iload 5, 2) := by decide +kernel
theorem dX1_between_31 : decode cX1_between 31 = .ok (.iaload, 1) := by decide +kernel
theorem dX1_between_32 : decode cX1_between 32 = .ok (.iload_n 3, 1) := by decide +kernel
theorem dX1_between_33 : decode cX1_between 33 = .ok (.if_icmp .ne 18, 3) := by decide +kernel
theorem dX1_between_36 : decode cX1_between 36 = .ok (.aload_n 0, 1) := by decide +kernel
theorem dX1_between_37 : decode cX1_between 37 = .ok (.getfield 13, 3) := by decide +kernel
theorem dX1_between_40 : decode cX1_between 40 = .ok (.iload 5, 2) := by decide +kernel
theorem dX1_between_42 : decode cX1_between 42 = .ok (.iaload, 1) := by decide +kernel
theorem dX1_between_43 : decode cX1_between 43 = .ok (.iload 4, 2) := by decide +kernel
theorem dX1_between_45 : decode cX1_between 45 = .ok (.if_icmp .ne 6, 3) := by decide +kernel
theorem dX1_between_48 : decode cX1_between 48 = .ok (.iload 5, 2) := by decide +kernel
theorem dX1_between_50 : decode cX1_between 50 = .ok (.ireturn, 1) := by decide +kernel
theorem dX1_between_51 : decode cX1_between 51 = .ok (.iinc 5 1, 3) := by decide +kernel
theorem dX1_between_54 : decode cX1_between 54 = .ok (.goto (-38), 3) := by decide +kernel
theorem dX1_between_57 : decode cX1_between 57 = .ok (.iconst (-1), 1) := by decide +kernel
theorem dX1_between_58 : decode cX1_between 58 = .ok (.ireturn, 1) := by decide +kernel
theorem dX1_put_0 : decode cX1_put 0 = .ok (.aload_n 0, 1) := by decide +kernel
theorem dX1_put_1 : decode cX1_put 1 = .ok (.getfield 28, 3) := by decide +kernel
theorem dX1_put_4 : decode cX1_put 4 = .ok (.istore 4, 2) := by decide +kernel
theorem dX1_put_6 : decode cX1_put 6 = .ok (.aload_n 0, 1) := by decide +kernel
theorem dX1_put_7 : decode cX1_put 7 = .ok (.getfield 9, 3) := by decide +kernel
theorem dX1_put_10 : decode cX1_put 10 = .ok (.iload 4, 2) := by decide +kernel
theorem dX1_put_12 : decode cX1_put 12 = .ok (.iload_n 1, 1) := by decide +kernel
theorem dX1_put_13 : decode cX1_put 13 = .ok (.iload_n 2, 1) := by decide +kernel
theorem dX1_put_14 : decode cX1_put 14 = .ok (.invokestatic 32, 3) := by decide +kernel
theorem dX1_put_17 : decode cX1_put 17 = .ok (.iastore, 1) := by decide +kernel
theorem dX1_put_18 : decode cX1_put 18 = .ok (.aload_n 0, 1) := by decide +kernel
theorem dX1_put_19 : decode cX1_put 19 = .ok (.getfield 13, 3) := by decide +kernel
theorem dX1_put_22 : decode cX1_put 22 = .ok (.iload 4, 2) := by decide +kernel
theorem dX1_put_24 : decode cX1_put 24 = .ok (.iload_n 1, 1) := by decide +kernel
theorem dX1_put_25 : decode cX1_put 25 = .ok (.iload_n 2, 1) := by decide +kernel
theorem dX1_put_26 : decode cX1_put 26 = .ok (.invokestatic 38, 3) := by decide +kernel
theorem dX1_put_29 : decode cX1_put 29 = .ok (.iastore, 1) := by decide +kernel
theorem dX1_put_30 : decode cX1_put 30 = .ok (.aload_n 0, 1) := by decide +kernel
theorem dX1_put_31 : decode cX1_put 31 = .ok (.getfield 16, 3) := by decide +kernel
theorem dX1_put_34 : decode cX1_put 34 = .ok (.iload 4, 2) := by decide +kernel
theorem dX1_put_36 : decode cX1_put 36 = .ok (.iload_n 3, 1) := by decide +kernel
theorem dX1_put_37 : decode cX1_put 37 = .ok (.iastore, 1) := by decide +kernel
theorem dX1_put_38 : decode cX1_put 38 = .ok (.aload_n 0, 1) := by decide +kernel
theorem dX1_put_39 : decode cX1_put 39 = .ok (.getfield 19, 3) := by decide +kernel
theorem dX1_put_42 : decode cX1_put 42 = .ok (.iload 4, 2) := by decide +kernel
theorem dX1_put_44 : decode cX1_put 44 = .ok (.iconst 0, 1) := by decide +kernel
theorem dX1_put_45 : decode cX1_put 45 = .ok (.iastore, 1) := by decide +kernel
theorem dX1_put_46 : decode cX1_put 46 = .ok (.aload_n 0, 1) := by decide +kernel
theorem dX1_put_47 : decode cX1_put 47 = .ok (.dup, 1) := by decide +kernel
theorem dX1_put_48 : decode cX1_put 48 = .ok (.getfield 28, 3) := by decide +kernel
theorem dX1_put_51 : decode cX1_put 51 = .ok (.iconst 1, 1) := by decide +kernel
theorem dX1_put_52 : decode cX1_put 52 = .ok (.iadd, 1) := by decide +kernel
theorem dX1_put_53 : decode cX1_put 53 = .ok (.putfield 28, 3) := by decide +kernel
theorem dX1_put_56 : decode cX1_put 56 = .ok (.iload 4, 2) := by decide +kernel
theorem dX1_put_58 : decode cX1_put 58 = .ok (.ireturn, 1) := by decide +kernel
theorem dX1_takeAway_0 : decode cX1_takeAway 0 = .ok (.iload_n 1, 1) := by decide +kernel
theorem dX1_takeAway_1 : decode cX1_takeAway 1 = .ok (.iconst 1, 1) := by decide +kernel
theorem dX1_takeAway_2 : decode cX1_takeAway 2 = .ok (.iadd, 1) := by decide +kernel
theorem dX1_takeAway_3 : decode cX1_takeAway 3 = .ok (.istore_n 2, 1) := by decide +kernel
theorem dX1_takeAway_4 : decode cX1_takeAway 4 = .ok (.iload_n 2, 1) := by decide +kernel
theorem dX1_takeAway_5 : decode cX1_takeAway 5 = .ok (.aload_n 0, 1) := by decide +kernel
theorem dX1_takeAway_6 : decode cX1_takeAway 6 = .ok (.getfield 28, 3) := by decide +kernel
theorem dX1_takeAway_9 : decode cX1_takeAway 9 = .ok (.if_icmp .ge 65, 3) := by decide +kernel
theorem dX1_takeAway_12 : decode cX1_takeAway 12 = .ok (.aload_n 0, 1) := by decide +kernel
theorem dX1_takeAway_13 : decode cX1_takeAway 13 = .ok (.getfield 9, 3) := by decide +kernel
theorem dX1_takeAway_16 : decode cX1_takeAway 16 = .ok (.iload_n 2, 1) := by decide +kernel
theorem dX1_takeAway_17 : decode cX1_takeAway 17 = .ok (.iconst 1, 1) := by decide +kernel
theorem dX1_takeAway_18 : decode cX1_takeAway 18 = .ok (.isub, 1) := by decide +kernel
theorem dX1_takeAway_19 : decode cX1_takeAway 19 = .ok (.aload_n 0, 1) := by decide +kernel
theorem dX1_takeAway_20 : decode cX1_takeAway 20 = .ok (.getfield 9, 3) := by decide +kernel
theorem dX1_takeAway_23 : decode cX1_takeAway 23 = .ok (.iload_n 2, 1) := by decide +kernel
theorem dX1_takeAway_24 : decode cX1_takeAway 24 = .ok (.iaload, 1) := by decide +kernel
theorem dX1_takeAway_25 : decode cX1_takeAway 25 = .ok (.iastore, 1) := by decide +kernel
theorem dX1_takeAway_26 : decode cX1_takeAway 26 = .ok (.aload_n 0, 1) := by decide +kernel
theorem dX1_takeAway_27 : decode cX1_takeAway 27 = .ok (.getfield 13, 3) := by decide +kernel
theorem dX1_takeAway_30 : decode cX1_takeAway 30 = .ok (.iload_n 2, 1) := by decide +kernel
theorem dX1_takeAway_31 : decode cX1_takeAway 31 = .ok (.iconst 1, 1) := by decide +kernel
theorem dX1_takeAway_32 : decode cX1_takeAway 32 = .ok (.isub, 1) := by decide +kernel
theorem dX1_takeAway_33 : decode cX1_takeAway 33 = .ok (.aload_n 0, 1) := by decide +kernel
theorem dX1_takeAway_34 : decode cX1_takeAway 34 = .ok (.getfield 13, 3) := by decide +kernel
theorem dX1_takeAway_37 : decode cX1_takeAway 37 = .ok (.iload_n 2, 1) := by decide +kernel
theorem dX1_takeAway_38 : decode cX1_takeAway 38 = .ok (.iaload, 1) := by decide +kernel
theorem dX1_takeAway_39 : decode cX1_takeAway 39 = .ok (.iastore, 1) := by decide +kernel
theorem dX1_takeAway_40 : decode cX1_takeAway 40 = .ok (.aload_n 0, 1) := by decide +kernel
theorem dX1_takeAway_41 : decode cX1_takeAway 41 = .ok (.getfield 16, 3) := by decide +kernel
theorem dX1_takeAway_44 : decode cX1_takeAway 44 = .ok (.iload_n 2, 1) := by decide +kernel
theorem dX1_takeAway_45 : decode cX1_takeAway 45 = .ok (.iconst 1, 1) := by decide +kernel
theorem dX1_takeAway_46 : decode cX1_takeAway 46 = .ok (.isub, 1) := by decide +kernel
theorem dX1_takeAway_47 : decode cX1_takeAway 47 = .ok (.aload_n 0, 1) := by decide +kernel
theorem dX1_takeAway_48 : decode cX1_takeAway 48 = .ok (.getfield 16, 3) := by decide +kernel
theorem dX1_takeAway_51 : decode cX1_takeAway 51 = .ok (.iload_n 2, 1) := by decide +kernel
theorem dX1_takeAway_52 : decode cX1_takeAway 52 = .ok (.iaload, 1) := by decide +kernel
theorem dX1_takeAway_53 : decode cX1_takeAway 53 = .ok (.iastore, 1) := by decide +kernel
theorem dX1_takeAway_54 : decode cX1_takeAway 54 = .ok (.aload_n 0, 1) := by decide +kernel
theorem dX1_takeAway_55 : decode cX1_takeAway 55 = .ok (.getfield 19, 3) := by decide +kernel
theorem dX1_takeAway_58 : decode cX1_takeAway 58 = .ok (.iload_n 2, 1) := by decide +kernel
theorem dX1_takeAway_59 : decode cX1_takeAway 59 = .ok (.iconst 1, 1) := by decide +kernel
theorem dX1_takeAway_60 : decode cX1_takeAway 60 = .ok (.isub, 1) := by decide +kernel
theorem dX1_takeAway_61 : decode cX1_takeAway 61 = .ok (.aload_n 0, 1) := by decide +kernel
theorem dX1_takeAway_62 : decode cX1_takeAway 62 = .ok (.getfield 19, 3) := by decide +kernel
theorem dX1_takeAway_65 : decode cX1_takeAway 65 = .ok (.iload_n 2, 1) := by decide +kernel
theorem dX1_takeAway_66 : decode cX1_takeAway 66 = .ok (.iaload, 1) := by decide +kernel
theorem dX1_takeAway_67 : decode cX1_takeAway 67 = .ok (.iastore, 1) := by decide +kernel
theorem dX1_takeAway_68 : decode cX1_takeAway 68 = .ok (.iinc 2 1, 3) := by decide +kernel
theorem dX1_takeAway_71 : decode cX1_takeAway 71 = .ok (.goto (-67), 3) := by decide +kernel
theorem dX1_takeAway_74 : decode cX1_takeAway 74 = .ok (.aload_n 0, 1) := by decide +kernel
theorem dX1_takeAway_75 : decode cX1_takeAway 75 = .ok (.dup, 1) := by decide +kernel
theorem dX1_takeAway_76 : decode cX1_takeAway 76 = .ok (.getfield 28, 3) := by decide +kernel
theorem dX1_takeAway_79 : decode cX1_takeAway 79 = .ok (.iconst 1, 1) := by decide +kernel
theorem dX1_takeAway_80 : decode cX1_takeAway 80 = .ok (.isub, 1) := by decide +kernel
theorem dX1_takeAway_81 : decode cX1_takeAway 81 = .ok (.putfield 28, 3) := by decide +kernel
theorem dX1_takeAway_84 : decode cX1_takeAway 84 = .ok (.return_, 1) := by decide +kernel
theorem dX1_differenceAt_0 : decode cX1_differenceAt 0 = .ok (.aload_n 2, 1) := by decide +kernel
theorem dX1_differenceAt_1 : decode cX1_differenceAt 1 = .ok (.aload_n 0, 1) := by decide +kernel
theorem dX1_differenceAt_2 : decode cX1_differenceAt 2 = .ok (.getfield 9, 3) := by decide +kernel
theorem dX1_differenceAt_5 : decode cX1_differenceAt 5 = .ok (.iload_n 1, 1) := by decide +kernel
theorem dX1_differenceAt_6 : decode cX1_differenceAt 6 = .ok (.iaload, 1) := by decide +kernel
theorem dX1_differenceAt_7 : decode cX1_differenceAt 7 = .ok (.aload_n 0, 1) := by decide +kernel
theorem dX1_differenceAt_8 : decode cX1_differenceAt 8 = .ok (.getfield 13, 3) := by decide +kernel
theorem dX1_differenceAt_11 : decode cX1_differenceAt 11 = .ok (.iload_n 1, 1) := by decide +kernel
theorem dX1_differenceAt_12 : decode cX1_differenceAt 12 = .ok (.iaload, 1) := by decide +kernel
theorem dX1_differenceAt_13 : decode cX1_differenceAt 13 = .ok (.invokevirtual 41, 3) := by decide +kernel
theorem dX1_differenceAt_16 : decode cX1_differenceAt 16 = .ok (.ireturn, 1) := by decide +kernel
theorem dX1_isOverstrained_0 : decode cX1_isOverstrained 0 = .ok (.aload_n 0, 1) := by decide +kernel
theorem dX1_isOverstrained_1 : decode cX1_isOverstrained 1 = .ok (.iload_n 1, 1) := by decide +kernel
theorem dX1_isOverstrained_2 : decode cX1_isOverstrained 2 = .ok (.aload_n 2, 1) := by decide +kernel
theorem dX1_isOverstrained_3 : decode cX1_isOverstrained 3 = .ok (.invokevirtual 46, 3) := by decide +kernel
theorem dX1_isOverstrained_6 : decode cX1_isOverstrained 6 = .ok (.aload_n 0, 1) := by decide +kernel
theorem dX1_isOverstrained_7 : decode cX1_isOverstrained 7 = .ok (.getfield 16, 3) := by decide +kernel
theorem dX1_isOverstrained_10 : decode cX1_isOverstrained 10 = .ok (.iload_n 1, 1) := by decide +kernel
theorem dX1_isOverstrained_11 : decode cX1_isOverstrained 11 = .ok (.iaload, 1) := by decide +kernel
theorem dX1_isOverstrained_12 : decode cX1_isOverstrained 12 = .ok (.if_icmp .le 7, 3) := by decide +kernel
theorem dX1_isOverstrained_15 : decode cX1_isOverstrained 15 = .ok (.iconst 1, 1) := by decide +kernel
theorem dX1_isOverstrained_16 : decode cX1_isOverstrained 16 = .ok (.goto 4, 3) := by decide +kernel
theorem dX1_isOverstrained_19 : decode cX1_isOverstrained 19 = .ok (.iconst 0, 1) := by decide +kernel
theorem dX1_isOverstrained_20 : decode cX1_isOverstrained 20 = .ok (.ireturn, 1) := by decide +kernel
theorem dX1_creakAll_0 : decode cX1_creakAll 0 = .ok (.iconst 0, 1) := by decide +kernel
theorem dX1_creakAll_1 : decode cX1_creakAll 1 = .ok (.istore_n 2, 1) := by decide +kernel
theorem dX1_creakAll_2 : decode cX1_creakAll 2 = .ok (.iconst 0, 1) := by decide +kernel
theorem dX1_creakAll_3 : decode cX1_creakAll 3 = .ok (.istore_n 3, 1) := by decide +kernel
theorem dX1_creakAll_4 : decode cX1_creakAll 4 = .ok (.iload_n 3, 1) := by decide +kernel
theorem dX1_creakAll_5 : decode cX1_creakAll 5 = .ok (.aload_n 0, 1) := by decide +kernel
theorem dX1_creakAll_6 : decode cX1_creakAll 6 = .ok (.getfield 28, 3) := by decide +kernel
theorem dX1_creakAll_9 : decode cX1_creakAll 9 = .ok (.if_icmp .ge 31, 3) := by decide +kernel
theorem dX1_creakAll_12 : decode cX1_creakAll 12 = .ok (.aload_n 0, 1) := by decide +kernel
theorem dX1_creakAll_13 : decode cX1_creakAll 13 = .ok (.iload_n 3, 1) := by decide +kernel
theorem dX1_creakAll_14 : decode cX1_creakAll 14 = .ok (.aload_n 1, 1) := by decide +kernel
theorem dX1_creakAll_15 : decode cX1_creakAll 15 = .ok (.invokevirtual 50, 3) := by decide +kernel
theorem dX1_creakAll_18 : decode cX1_creakAll 18 = .ok (.ifCond .eq 16, 3) := by decide +kernel
theorem dX1_creakAll_21 : decode cX1_creakAll 21 = .ok (.aload_n 0, 1) := by decide +kernel
theorem dX1_creakAll_22 : decode cX1_creakAll 22 = .ok (.getfield 19, 3) := by decide +kernel
theorem dX1_creakAll_25 : decode cX1_creakAll 25 = .ok (.iload_n 3, 1) := by decide +kernel
theorem dX1_creakAll_26 : decode cX1_creakAll 26 = .ok (.dup2, 1) := by decide +kernel
theorem dX1_creakAll_27 : decode cX1_creakAll 27 = .ok (.iaload, 1) := by decide +kernel
theorem dX1_creakAll_28 : decode cX1_creakAll 28 = .ok (.iconst 1, 1) := by decide +kernel
theorem dX1_creakAll_29 : decode cX1_creakAll 29 = .ok (.iadd, 1) := by decide +kernel
theorem dX1_creakAll_30 : decode cX1_creakAll 30 = .ok (.iastore, 1) := by decide +kernel
theorem dX1_creakAll_31 : decode cX1_creakAll 31 = .ok (.iinc 2 1, 3) := by decide +kernel
theorem dX1_creakAll_34 : decode cX1_creakAll 34 = .ok (.iinc 3 1, 3) := by decide +kernel
theorem dX1_creakAll_37 : decode cX1_creakAll 37 = .ok (.goto (-33), 3) := by decide +kernel
theorem dX1_creakAll_40 : decode cX1_creakAll 40 = .ok (.iload_n 2, 1) := by decide +kernel
theorem dX1_creakAll_41 : decode cX1_creakAll 41 = .ok (.ireturn, 1) := by decide +kernel
theorem dX1_breakAll_0 : decode cX1_breakAll 0 = .ok (.iconst 0, 1) := by decide +kernel
theorem dX1_breakAll_1 : decode cX1_breakAll 1 = .ok (.istore_n 1, 1) := by decide +kernel
theorem dX1_breakAll_2 : decode cX1_breakAll 2 = .ok (.aload_n 0, 1) := by decide +kernel
theorem dX1_breakAll_3 : decode cX1_breakAll 3 = .ok (.getfield 28, 3) := by decide +kernel
theorem dX1_breakAll_6 : decode cX1_breakAll 6 = .ok (.iconst 1, 1) := by decide +kernel
theorem dX1_breakAll_7 : decode cX1_breakAll 7 = .ok (.isub, 1) := by decide +kernel
theorem dX1_breakAll_8 : decode cX1_breakAll 8 = .ok (.istore_n 2, 1) := by decide +kernel
theorem dX1_breakAll_9 : decode cX1_breakAll 9 = .ok (.iload_n 2, 1) := by decide +kernel
theorem dX1_breakAll_10 : decode cX1_breakAll 10 = .ok (.ifCond .lt 27, 3) := by decide +kernel
theorem dX1_breakAll_13 : decode cX1_breakAll 13 = .ok (.aload_n 0, 1) := by decide +kernel
theorem dX1_breakAll_14 : decode cX1_breakAll 14 = .ok (.getfield 19, 3) := by decide +kernel
theorem dX1_breakAll_17 : decode cX1_breakAll 17 = .ok (.iload_n 2, 1) := by decide +kernel
theorem dX1_breakAll_18 : decode cX1_breakAll 18 = .ok (.iaload, 1) := by decide +kernel
theorem dX1_breakAll_19 : decode cX1_breakAll 19 = .ok (.iconst 3, 1) := by decide +kernel
theorem dX1_breakAll_20 : decode cX1_breakAll 20 = .ok (.if_icmp .lt 11, 3) := by decide +kernel
theorem dX1_breakAll_23 : decode cX1_breakAll 23 = .ok (.aload_n 0, 1) := by decide +kernel
theorem dX1_breakAll_24 : decode cX1_breakAll 24 = .ok (.iload_n 2, 1) := by decide +kernel
theorem dX1_breakAll_25 : decode cX1_breakAll 25 = .ok (.invokevirtual 54, 3) := by decide +kernel
theorem dX1_breakAll_28 : decode cX1_breakAll 28 = .ok (.iinc 1 1, 3) := by decide +kernel
theorem dX1_breakAll_31 : decode cX1_breakAll 31 = .ok (.iinc 2 (-1), 3) := by decide +kernel
theorem dX1_breakAll_34 : decode cX1_breakAll 34 = .ok (.goto (-25), 3) := by decide +kernel
theorem dX1_breakAll_37 : decode cX1_breakAll 37 = .ok (.iload_n 1, 1) := by decide +kernel
theorem dX1_breakAll_38 : decode cX1_breakAll 38 = .ok (.ireturn, 1) := by decide +kernel
theorem dX1_atPlace_0 : decode cX1_atPlace 0 = .ok (.iconst 0, 1) := by decide +kernel
theorem dX1_atPlace_1 : decode cX1_atPlace 1 = .ok (.istore_n 3, 1) := by decide +kernel
theorem dX1_atPlace_2 : decode cX1_atPlace 2 = .ok (.iload_n 3, 1) := by decide +kernel
theorem dX1_atPlace_3 : decode cX1_atPlace 3 = .ok (.aload_n 0, 1) := by decide +kernel
theorem dX1_atPlace_4 : decode cX1_atPlace 4 = .ok (.getfield 28, 3) := by decide +kernel
theorem dX1_atPlace_7 : decode cX1_atPlace 7 = .ok (.if_icmp .ge 52, 3) := by decide +kernel
theorem dX1_atPlace_10 : decode cX1_atPlace 10 = .ok (.iconst 0, 1) := by decide +kernel
theorem dX1_atPlace_11 : decode cX1_atPlace 11 = .ok (.istore 4, 2) := by decide +kernel
theorem dX1_atPlace_13 : decode cX1_atPlace 13 = .ok (.iconst 0, 1) := by decide +kernel
theorem dX1_atPlace_14 : decode cX1_atPlace 14 = .ok (.istore 5, 2) := by decide +kernel
theorem dX1_atPlace_16 : decode cX1_atPlace 16 = .ok (.iload 5, 2) := by decide +kernel
theorem dX1_atPlace_18 : decode cX1_atPlace 18 = .ok (.aload_n 0, 1) := by decide +kernel
theorem dX1_atPlace_19 : decode cX1_atPlace 19 = .ok (.getfield 28, 3) := by decide +kernel
theorem dX1_atPlace_22 : decode cX1_atPlace 22 = .ok (.if_icmp .ge 23, 3) := by decide +kernel
theorem dX1_atPlace_25 : decode cX1_atPlace 25 = .ok (.aload_n 0, 1) := by decide +kernel
theorem dX1_atPlace_26 : decode cX1_atPlace 26 = .ok (.iload 5, 2) := by decide +kernel
theorem dX1_atPlace_28 : decode cX1_atPlace 28 = .ok (.iload_n 3, 1) := by decide +kernel
theorem dX1_atPlace_29 : decode cX1_atPlace 29 = .ok (.aload_n 2, 1) := by decide +kernel
theorem dX1_atPlace_30 : decode cX1_atPlace 30 = .ok (.invokevirtual 58, 3) := by decide +kernel
theorem dX1_atPlace_33 : decode cX1_atPlace 33 = .ok (.ifCond .eq 6, 3) := by decide +kernel
theorem dX1_atPlace_36 : decode cX1_atPlace 36 = .ok (.iinc 4 1, 3) := by decide +kernel
theorem dX1_atPlace_39 : decode cX1_atPlace 39 = .ok (.iinc 5 1, 3) := by decide +kernel
theorem dX1_atPlace_42 : decode cX1_atPlace 42 = .ok (.goto (-26), 3) := by decide +kernel
theorem dX1_atPlace_45 : decode cX1_atPlace 45 = .ok (.iload 4, 2) := by decide +kernel
theorem dX1_atPlace_47 : decode cX1_atPlace 47 = .ok (.iload_n 1, 1) := by decide +kernel
theorem dX1_atPlace_48 : decode cX1_atPlace 48 = .ok (.if_icmp .ne 5, 3) := by decide +kernel
theorem dX1_atPlace_51 : decode cX1_atPlace 51 = .ok (.iload_n 3, 1) := by decide +kernel
theorem dX1_atPlace_52 : decode cX1_atPlace 52 = .ok (.ireturn, 1) := by decide +kernel
theorem dX1_atPlace_53 : decode cX1_atPlace 53 = .ok (.iinc 3 1, 3) := by decide +kernel
theorem dX1_atPlace_56 : decode cX1_atPlace 56 = .ok (.goto (-54), 3) := by decide +kernel
theorem dX1_atPlace_59 : decode cX1_atPlace 59 = .ok (.iconst (-1), 1) := by decide +kernel
theorem dX1_atPlace_60 : decode cX1_atPlace 60 = .ok (.ireturn, 1) := by decide +kernel
theorem dX1_isWeaker_0 : decode cX1_isWeaker 0 = .ok (.aload_n 0, 1) := by decide +kernel
theorem dX1_isWeaker_1 : decode cX1_isWeaker 1 = .ok (.getfield 16, 3) := by decide +kernel
theorem dX1_isWeaker_4 : decode cX1_isWeaker 4 = .ok (.iload_n 1, 1) := by decide +kernel
theorem dX1_isWeaker_5 : decode cX1_isWeaker 5 = .ok (.iaload, 1) := by decide +kernel
theorem dX1_isWeaker_6 : decode cX1_isWeaker 6 = .ok (.aload_n 0, 1) := by decide +kernel
theorem dX1_isWeaker_7 : decode cX1_isWeaker 7 = .ok (.iload_n 1, 1) := by decide +kernel
theorem dX1_isWeaker_8 : decode cX1_isWeaker 8 = .ok (.aload_n 3, 1) := by decide +kernel
theorem dX1_isWeaker_9 : decode cX1_isWeaker 9 = .ok (.invokevirtual 46, 3) := by decide +kernel
theorem dX1_isWeaker_12 : decode cX1_isWeaker 12 = .ok (.isub, 1) := by decide +kernel
theorem dX1_isWeaker_13 : decode cX1_isWeaker 13 = .ok (.istore 4, 2) := by decide +kernel
theorem dX1_isWeaker_15 : decode cX1_isWeaker 15 = .ok (.aload_n 0, 1) := by decide +kernel
theorem dX1_isWeaker_16 : decode cX1_isWeaker 16 = .ok (.getfield 16, 3) := by decide +kernel
theorem dX1_isWeaker_19 : decode cX1_isWeaker 19 = .ok (.iload_n 2, 1) := by decide +kernel
theorem dX1_isWeaker_20 : decode cX1_isWeaker 20 = .ok (.iaload, 1) := by decide +kernel
theorem dX1_isWeaker_21 : decode cX1_isWeaker 21 = .ok (.aload_n 0, 1) := by decide +kernel
theorem dX1_isWeaker_22 : decode cX1_isWeaker 22 = .ok (.iload_n 2, 1) := by decide +kernel
theorem dX1_isWeaker_23 : decode cX1_isWeaker 23 = .ok (.aload_n 3, 1) := by decide +kernel
theorem dX1_isWeaker_24 : decode cX1_isWeaker 24 = .ok (.invokevirtual 46, 3) := by decide +kernel
theorem dX1_isWeaker_27 : decode cX1_isWeaker 27 = .ok (.isub, 1) := by decide +kernel
theorem dX1_isWeaker_28 : decode cX1_isWeaker 28 = .ok (.istore 5, 2) := by decide +kernel
theorem dX1_isWeaker_30 : decode cX1_isWeaker 30 = .ok (.iload 4, 2) := by decide +kernel
theorem dX1_isWeaker_32 : decode cX1_isWeaker 32 = .ok (.iload 5, 2) := by decide +kernel
theorem dX1_isWeaker_34 : decode cX1_isWeaker 34 = .ok (.if_icmp .eq 16, 3) := by decide +kernel
theorem dX1_isWeaker_37 : decode cX1_isWeaker 37 = .ok (.iload 4, 2) := by decide +kernel
theorem dX1_isWeaker_39 : decode cX1_isWeaker 39 = .ok (.iload 5, 2) := by decide +kernel
theorem dX1_isWeaker_41 : decode cX1_isWeaker 41 = .ok (.if_icmp .ge 7, 3) := by decide +kernel
theorem dX1_isWeaker_44 : decode cX1_isWeaker 44 = .ok (.iconst 1, 1) := by decide +kernel
theorem dX1_isWeaker_45 : decode cX1_isWeaker 45 = .ok (.goto 4, 3) := by decide +kernel
theorem dX1_isWeaker_48 : decode cX1_isWeaker 48 = .ok (.iconst 0, 1) := by decide +kernel
theorem dX1_isWeaker_49 : decode cX1_isWeaker 49 = .ok (.ireturn, 1) := by decide +kernel
theorem dX1_isWeaker_50 : decode cX1_isWeaker 50 = .ok (.aload_n 0, 1) := by decide +kernel
theorem dX1_isWeaker_51 : decode cX1_isWeaker 51 = .ok (.getfield 19, 3) := by decide +kernel
theorem dX1_isWeaker_54 : decode cX1_isWeaker 54 = .ok (.iload_n 1, 1) := by decide +kernel
theorem dX1_isWeaker_55 : decode cX1_isWeaker 55 = .ok (.iaload, 1) := by decide +kernel
theorem dX1_isWeaker_56 : decode cX1_isWeaker 56 = .ok (.aload_n 0, 1) := by decide +kernel
theorem dX1_isWeaker_57 : decode cX1_isWeaker 57 = .ok (.getfield 19, 3) := by decide +kernel
theorem dX1_isWeaker_60 : decode cX1_isWeaker 60 = .ok (.iload_n 2, 1) := by decide +kernel
theorem dX1_isWeaker_61 : decode cX1_isWeaker 61 = .ok (.iaload, 1) := by decide +kernel
theorem dX1_isWeaker_62 : decode cX1_isWeaker 62 = .ok (.if_icmp .eq 24, 3) := by decide +kernel
theorem dX1_isWeaker_65 : decode cX1_isWeaker 65 = .ok (.aload_n 0, 1) := by decide +kernel
theorem dX1_isWeaker_66 : decode cX1_isWeaker 66 = .ok (.getfield 19, 3) := by decide +kernel
theorem dX1_isWeaker_69 : decode cX1_isWeaker 69 = .ok (.iload_n 1, 1) := by decide +kernel
theorem dX1_isWeaker_70 : decode cX1_isWeaker 70 = .ok (.iaload, 1) := by decide +kernel
theorem dX1_isWeaker_71 : decode cX1_isWeaker 71 = .ok (.aload_n 0, 1) := by decide +kernel
theorem dX1_isWeaker_72 : decode cX1_isWeaker 72 = .ok (.getfield 19, 3) := by decide +kernel
theorem dX1_isWeaker_75 : decode cX1_isWeaker 75 = .ok (.iload_n 2, 1) := by decide +kernel
theorem dX1_isWeaker_76 : decode cX1_isWeaker 76 = .ok (.iaload, 1) := by decide +kernel
theorem dX1_isWeaker_77 : decode cX1_isWeaker 77 = .ok (.if_icmp .le 7, 3) := by decide +kernel
theorem dX1_isWeaker_80 : decode cX1_isWeaker 80 = .ok (.iconst 1, 1) := by decide +kernel
theorem dX1_isWeaker_81 : decode cX1_isWeaker 81 = .ok (.goto 4, 3) := by decide +kernel
theorem dX1_isWeaker_84 : decode cX1_isWeaker 84 = .ok (.iconst 0, 1) := by decide +kernel
theorem dX1_isWeaker_85 : decode cX1_isWeaker 85 = .ok (.ireturn, 1) := by decide +kernel
theorem dX1_isWeaker_86 : decode cX1_isWeaker 86 = .ok (.iload_n 1, 1) := by decide +kernel
theorem dX1_isWeaker_87 : decode cX1_isWeaker 87 = .ok (.iload_n 2, 1) := by decide +kernel
theorem dX1_isWeaker_88 : decode cX1_isWeaker 88 = .ok (.if_icmp .ge 7, 3) := by decide +kernel
theorem dX1_isWeaker_91 : decode cX1_isWeaker 91 = .ok (.iconst 1, 1) := by decide +kernel
theorem dX1_isWeaker_92 : decode cX1_isWeaker 92 = .ok (.goto 4, 3) := by decide +kernel
theorem dX1_isWeaker_95 : decode cX1_isWeaker 95 = .ok (.iconst 0, 1) := by decide +kernel
theorem dX1_isWeaker_96 : decode cX1_isWeaker 96 = .ok (.ireturn, 1) := by decide +kernel
theorem dX2_init_0 : decode cX2_init 0 = .ok (.aload_n 0, 1) := by decide +kernel
theorem dX2_init_1 : decode cX2_init 1 = .ok (.invokespecial 1, 3) := by decide +kernel
theorem dX2_init_4 : decode cX2_init 4 = .ok (.aload_n 0, 1) := by decide +kernel
theorem dX2_init_5 : decode cX2_init 5 = .ok (.bipush 6, 2) := by decide +kernel
theorem dX2_init_7 : decode cX2_init 7 = .ok (.newarray .int, 2) := by decide +kernel
theorem dX2_init_9 : decode cX2_init 9 = .ok (.putfield 9, 3) := by decide +kernel
theorem dX2_init_12 : decode cX2_init 12 = .ok (.return_, 1) := by decide +kernel
theorem dX2_areAllied_0 : decode cX2_areAllied 0 = .ok (.aload_n 2, 1) := by decide +kernel
theorem dX2_areAllied_1 : decode cX2_areAllied 1 = .ok (.getfield 15, 3) := by decide +kernel
theorem dX2_areAllied_4 : decode cX2_areAllied 4 = .ok (.iload_n 0, 1) := by decide +kernel
theorem dX2_areAllied_5 : decode cX2_areAllied 5 = .ok (.aaload, 1) := by decide +kernel
theorem dX2_areAllied_6 : decode cX2_areAllied 6 = .ok (.iload_n 1, 1) := by decide +kernel
theorem dX2_areAllied_7 : decode cX2_areAllied 7 = .ok (.iaload, 1) := by decide +kernel
theorem dX2_areAllied_8 : decode cX2_areAllied 8 = .ok (.ifCond .eq 28, 3) := by decide +kernel
theorem dX2_areAllied_11 : decode cX2_areAllied 11 = .ok (.aload_n 2, 1) := by decide +kernel
theorem dX2_areAllied_12 : decode cX2_areAllied 12 = .ok (.iload_n 0, 1) := by decide +kernel
theorem dX2_areAllied_13 : decode cX2_areAllied 13 = .ok (.invokevirtual 19, 3) := by decide +kernel
theorem dX2_areAllied_16 : decode cX2_areAllied 16 = .ok (.ifCond .eq 20, 3) := by decide +kernel
theorem dX2_areAllied_19 : decode cX2_areAllied 19 = .ok (.aload_n 2, 1) := by decide +kernel
theorem dX2_areAllied_20 : decode cX2_areAllied 20 = .ok (.iload_n 0, 1) := by decide +kernel
theorem dX2_areAllied_21 : decode cX2_areAllied 21 = .ok (.invokevirtual 19, 3) := by decide +kernel
theorem dX2_areAllied_24 : decode cX2_areAllied 24 = .ok (.aload_n 2, 1) := by decide +kernel
theorem dX2_areAllied_25 : decode cX2_areAllied 25 = .ok (.iload_n 1, 1) := by decide +kernel
theorem dX2_areAllied_26 : decode cX2_areAllied 26 = .ok (.invokevirtual 19, 3) := by decide +kernel
theorem dX2_areAllied_29 : decode cX2_areAllied 29 = .ok (.if_icmp .ne 7, 3) := by decide +kernel
theorem dX2_areAllied_32 : decode cX2_areAllied 32 = .ok (.iconst 1, 1) := by decide +kernel
theorem dX2_areAllied_33 : decode cX2_areAllied 33 = .ok (.goto 4, 3) := by decide +kernel
theorem dX2_areAllied_36 : decode cX2_areAllied 36 = .ok (.iconst 0, 1) := by decide +kernel
theorem dX2_areAllied_37 : decode cX2_areAllied 37 = .ok (.ireturn, 1) := by decide +kernel
theorem dX2_campOf_0 : decode cX2_campOf 0 = .ok (.aload_n 2, 1) := by decide +kernel
theorem dX2_campOf_1 : decode cX2_campOf 1 = .ok (.iload_n 1, 1) := by decide +kernel
theorem dX2_campOf_2 : decode cX2_campOf 2 = .ok (.invokevirtual 19, 3) := by decide +kernel
theorem dX2_campOf_5 : decode cX2_campOf 5 = .ok (.ifCond .ne 5, 3) := by decide +kernel
theorem dX2_campOf_8 : decode cX2_campOf 8 = .ok (.iconst 0, 1) := by decide +kernel
theorem dX2_campOf_9 : decode cX2_campOf 9 = .ok (.ireturn, 1) := by decide +kernel
theorem dX2_campOf_10 : decode cX2_campOf 10 = .ok (.iconst 1, 1) := by decide +kernel
theorem dX2_campOf_11 : decode cX2_campOf 11 = .ok (.iload_n 1, 1) := by decide +kernel
theorem dX2_campOf_12 : decode cX2_campOf 12 = .ok (.ishl, 1) := by decide +kernel
theorem dX2_campOf_13 : decode cX2_campOf 13 = .ok (.istore_n 3, 1) := by decide +kernel
theorem dX2_campOf_14 : decode cX2_campOf 14 = .ok (.iconst 1, 1) := by decide +kernel
theorem dX2_campOf_15 : decode cX2_campOf 15 = .ok (.istore 4, 2) := by decide +kernel
theorem dX2_campOf_17 : decode cX2_campOf 17 = .ok (.iload 4, 2) := by decide +kernel
theorem dX2_campOf_19 : decode cX2_campOf 19 = .ok (.aload_n 2, 1) := by decide +kernel
theorem dX2_campOf_20 : decode cX2_campOf 20 = .ok (.getfield 23, 3) := by decide +kernel
theorem dX2_campOf_23 : decode cX2_campOf 23 = .ok (.if_icmp .ge 18, 3) := by decide +kernel
theorem dX2_campOf_26 : decode cX2_campOf 26 = .ok (.iload_n 3, 1) := by decide +kernel
theorem dX2_campOf_27 : decode cX2_campOf 27 = .ok (.aload_n 0, 1) := by decide +kernel
theorem dX2_campOf_28 : decode cX2_campOf 28 = .ok (.iload_n 3, 1) := by decide +kernel
theorem dX2_campOf_29 : decode cX2_campOf 29 = .ok (.aload_n 2, 1) := by decide +kernel
theorem dX2_campOf_30 : decode cX2_campOf 30 = .ok (.invokevirtual 27, 3) := by decide +kernel
theorem dX2_campOf_33 : decode cX2_campOf 33 = .ok (.ior, 1) := by decide +kernel
theorem dX2_campOf_34 : decode cX2_campOf 34 = .ok (.istore_n 3, 1) := by decide +kernel
theorem dX2_campOf_35 : decode cX2_campOf 35 = .ok (.iinc 4 1, 3) := by decide +kernel
theorem dX2_campOf_38 : decode cX2_campOf 38 = .ok (.goto (-21), 3) := by decide +kernel
theorem dX2_campOf_41 : decode cX2_campOf 41 = .ok (.iload_n 3, 1) := by decide +kernel
theorem dX2_campOf_42 : decode cX2_campOf 42 = .ok (.ireturn, 1) := by decide +kernel
theorem dX2_alliesOf_0 : decode cX2_alliesOf 0 = .ok (.iconst 0, 1) := by decide +kernel
theorem dX2_alliesOf_1 : decode cX2_alliesOf 1 = .ok (.istore_n 3, 1) := by decide +kernel
theorem dX2_alliesOf_2 : decode cX2_alliesOf 2 = .ok (.iconst 0, 1) := by decide +kernel
theorem dX2_alliesOf_3 : decode cX2_alliesOf 3 = .ok (.istore 4, 2) := by decide +kernel
theorem dX2_alliesOf_5 : decode cX2_alliesOf 5 = .ok (.iload 4, 2) := by decide +kernel
theorem dX2_alliesOf_7 : decode cX2_alliesOf 7 = .ok (.aload_n 2, 1) := by decide +kernel
theorem dX2_alliesOf_8 : decode cX2_alliesOf 8 = .ok (.getfield 23, 3) := by decide +kernel
theorem dX2_alliesOf_11 : decode cX2_alliesOf 11 = .ok (.if_icmp .ge 54, 3) := by decide +kernel
theorem dX2_alliesOf_14 : decode cX2_alliesOf 14 = .ok (.iconst 0, 1) := by decide +kernel
theorem dX2_alliesOf_15 : decode cX2_alliesOf 15 = .ok (.istore 5, 2) := by decide +kernel
theorem dX2_alliesOf_17 : decode cX2_alliesOf 17 = .ok (.iload 5, 2) := by decide +kernel
theorem dX2_alliesOf_19 : decode cX2_alliesOf 19 = .ok (.aload_n 2, 1) := by decide +kernel
theorem dX2_alliesOf_20 : decode cX2_alliesOf 20 = .ok (.getfield 23, 3) := by decide +kernel
theorem dX2_alliesOf_23 : decode cX2_alliesOf 23 = .ok (.if_icmp .ge 36, 3) := by decide +kernel
theorem dX2_alliesOf_26 : decode cX2_alliesOf 26 = .ok (.iload_n 1, 1) := by decide +kernel
theorem dX2_alliesOf_27 : decode cX2_alliesOf 27 = .ok (.iload 4, 2) := by decide +kernel
theorem dX2_alliesOf_29 : decode cX2_alliesOf 29 = .ok (.ishr, 1) := by decide +kernel
theorem dX2_alliesOf_30 : decode cX2_alliesOf 30 = .ok (.iconst 1, 1) := by decide +kernel
theorem dX2_alliesOf_31 : decode cX2_alliesOf 31 = .ok (.iand, 1) := by decide +kernel
theorem dX2_alliesOf_32 : decode cX2_alliesOf 32 = .ok (.ifCond .eq 21, 3) := by decide +kernel
theorem dX2_alliesOf_35 : decode cX2_alliesOf 35 = .ok (.iload 4, 2) := by decide +kernel
theorem dX2_alliesOf_37 : decode cX2_alliesOf 37 = .ok (.iload 5, 2) := by decide +kernel
theorem dX2_alliesOf_39 : decode cX2_alliesOf 39 = .ok (.aload_n 2, 1) := by decide +kernel
theorem dX2_alliesOf_40 : decode cX2_alliesOf 40 = .ok (.invokestatic 31, 3) := by decide +kernel
theorem dX2_alliesOf_43 : decode cX2_alliesOf 43 = .ok (.ifCond .eq 10, 3) := by decide +kernel
theorem dX2_alliesOf_46 : decode cX2_alliesOf 46 = .ok (.iload_n 3, 1) := by decide +kernel
theorem dX2_alliesOf_47 : decode cX2_alliesOf 47 = .ok (.iconst 1, 1) := by decide +kernel
theorem dX2_alliesOf_48 : decode cX2_alliesOf 48 = .ok (.iload 5, 2) := by decide +kernel
theorem dX2_alliesOf_50 : decode cX2_alliesOf 50 = .ok (.ishl, 1) := by decide +kernel
theorem dX2_alliesOf_51 : decode cX2_alliesOf 51 = .ok (.ior, 1) := by decide +kernel
theorem dX2_alliesOf_52 : decode cX2_alliesOf 52 = .ok (.istore_n 3, 1) := by decide +kernel
theorem dX2_alliesOf_53 : decode cX2_alliesOf 53 = .ok (.iinc 5 1, 3) := by decide +kernel
theorem dX2_alliesOf_56 : decode cX2_alliesOf 56 = .ok (.goto (-39), 3) := by decide +kernel
theorem dX2_alliesOf_59 : decode cX2_alliesOf 59 = .ok (.iinc 4 1, 3) := by decide +kernel
theorem dX2_alliesOf_62 : decode cX2_alliesOf 62 = .ok (.goto (-57), 3) := by decide +kernel
theorem dX2_alliesOf_65 : decode cX2_alliesOf 65 = .ok (.iload_n 3, 1) := by decide +kernel
theorem dX2_alliesOf_66 : decode cX2_alliesOf 66 = .ok (.ireturn, 1) := by decide +kernel
theorem dX2_countByLowest_0 : decode cX2_countByLowest 0 = .ok (.iconst 0, 1) := by decide +kernel
theorem dX2_countByLowest_1 : decode cX2_countByLowest 1 = .ok (.istore_n 2, 1) := by decide +kernel
theorem dX2_countByLowest_2 : decode cX2_countByLowest 2 = .ok (.iconst 0, 1) := by decide +kernel
theorem dX2_countByLowest_3 : decode cX2_countByLowest 3 = .ok (.istore_n 3, 1) := by decide +kernel
theorem dX2_countByLowest_4 : decode cX2_countByLowest 4 = .ok (.iload_n 3, 1) := by decide +kernel
theorem dX2_countByLowest_5 : decode cX2_countByLowest 5 = .ok (.aload_n 1, 1) := by decide +kernel
theorem dX2_countByLowest_6 : decode cX2_countByLowest 6 = .ok (.getfield 23, 3) := by decide +kernel
theorem dX2_countByLowest_9 : decode cX2_countByLowest 9 = .ok (.if_icmp .ge 40, 3) := by decide +kernel
theorem dX2_countByLowest_12 : decode cX2_countByLowest 12 = .ok (.aload_n 0, 1) := by decide +kernel
theorem dX2_countByLowest_13 : decode cX2_countByLowest 13 = .ok (.iload_n 3, 1) := by decide +kernel
theorem dX2_countByLowest_14 : decode cX2_countByLowest 14 = .ok (.aload_n 1, 1) := by decide +kernel
theorem dX2_countByLowest_15 : decode cX2_countByLowest 15 = .ok (.invokevirtual 35, 3) := by decide +kernel
theorem dX2_countByLowest_18 : decode cX2_countByLowest 18 = .ok (.istore 4, 2) := by decide +kernel
theorem dX2_countByLowest_20 : decode cX2_countByLowest 20 = .ok (.iconst 1, 1) := by decide +kernel
theorem dX2_countByLowest_21 : decode cX2_countByLowest 21 = .ok (.iload_n 3, 1) := by decide +kernel
theorem dX2_countByLowest_22 : decode cX2_countByLowest 22 = .ok (.ishl, 1) := by decide +kernel
theorem dX2_countByLowest_23 : decode cX2_countByLowest 23 = .ok (.iconst 1, 1) := by decide +kernel
theorem dX2_countByLowest_24 : decode cX2_countByLowest 24 = .ok (.isub, 1) := by decide +kernel
theorem dX2_countByLowest_25 : decode cX2_countByLowest 25 = .ok (.istore 5, 2) := by decide +kernel
theorem dX2_countByLowest_27 : decode cX2_countByLowest 27 = .ok (.iload 4, 2) := by decide +kernel
theorem dX2_countByLowest_29 : decode cX2_countByLowest 29 = .ok (.ifCond .eq 14, 3) := by decide +kernel
theorem dX2_countByLowest_32 : decode cX2_countByLowest 32 = .ok (.iload 4, 2) := by decide +kernel
theorem dX2_countByLowest_34 : decode cX2_countByLowest 34 = .ok (.iload 5, 2) := by decide +kernel
theorem dX2_countByLowest_36 : decode cX2_countByLowest 36 = .ok (.iand, 1) := by decide +kernel
theorem dX2_countByLowest_37 : decode cX2_countByLowest 37 = .ok (.ifCond .ne 6, 3) := by decide +kernel
theorem dX2_countByLowest_40 : decode cX2_countByLowest 40 = .ok (.iinc 2 1, 3) := by decide +kernel
theorem dX2_countByLowest_43 : decode cX2_countByLowest 43 = .ok (.iinc 3 1, 3) := by decide +kernel
theorem dX2_countByLowest_46 : decode cX2_countByLowest 46 = .ok (.goto (-42), 3) := by decide +kernel
theorem dX2_countByLowest_49 : decode cX2_countByLowest 49 = .ok (.iload_n 2, 1) := by decide +kernel
theorem dX2_countByLowest_50 : decode cX2_countByLowest 50 = .ok (.ireturn, 1) := by decide +kernel
theorem dX3_init_0 : decode cX3_init 0 = .ok (.aload_n 0, 1) := by decide +kernel
theorem dX3_init_1 : decode cX3_init 1 = .ok (.invokespecial 1, 3) := by decide +kernel
theorem dX3_init_4 : decode cX3_init 4 = .ok (.aload_n 0, 1) := by decide +kernel
theorem dX3_init_5 : decode cX3_init 5 = .ok (.getstatic 7, 3) := by decide +kernel
theorem dX3_init_8 : decode cX3_init 8 = .ok (.putfield 13, 3) := by decide +kernel
theorem dX3_init_11 : decode cX3_init 11 = .ok (.return_, 1) := by decide +kernel
theorem dX3_ask_0 : decode cX3_ask 0 = .ok (.aload_n 0, 1) := by decide +kernel
theorem dX3_ask_1 : decode cX3_ask 1 = .ok (.aload_n 1, 1) := by decide +kernel
theorem dX3_ask_2 : decode cX3_ask 2 = .ok (.putfield 13, 3) := by decide +kernel
theorem dX3_ask_5 : decode cX3_ask 5 = .ok (.aload_n 0, 1) := by decide +kernel
theorem dX3_ask_6 : decode cX3_ask 6 = .ok (.iload_n 2, 1) := by decide +kernel
theorem dX3_ask_7 : decode cX3_ask 7 = .ok (.putfield 18, 3) := by decide +kernel
theorem dX3_ask_10 : decode cX3_ask 10 = .ok (.aload_n 0, 1) := by decide +kernel
theorem dX3_ask_11 : decode cX3_ask 11 = .ok (.iload_n 3, 1) := by decide +kernel
theorem dX3_ask_12 : decode cX3_ask 12 = .ok (.putfield 22, 3) := by decide +kernel
theorem dX3_ask_15 : decode cX3_ask 15 = .ok (.aload_n 0, 1) := by decide +kernel
theorem dX3_ask_16 : decode cX3_ask 16 = .ok (.iload 4, 2) := by decide +kernel
theorem dX3_ask_18 : decode cX3_ask 18 = .ok (.putfield 25, 3) := by decide +kernel
theorem dX3_ask_21 : decode cX3_ask 21 = .ok (.aload_n 0, 1) := by decide +kernel
theorem dX3_ask_22 : decode cX3_ask 22 = .ok (.iconst 0, 1) := by decide +kernel
theorem dX3_ask_23 : decode cX3_ask 23 = .ok (.putfield 28, 3) := by decide +kernel
theorem dX3_ask_26 : decode cX3_ask 26 = .ok (.aload_n 0, 1) := by decide +kernel
theorem dX3_ask_27 : decode cX3_ask 27 = .ok (.iconst 0, 1) := by decide +kernel
theorem dX3_ask_28 : decode cX3_ask 28 = .ok (.putfield 31, 3) := by decide +kernel
theorem dX3_ask_31 : decode cX3_ask 31 = .ok (.aload_n 0, 1) := by decide +kernel
theorem dX3_ask_32 : decode cX3_ask 32 = .ok (.iconst 0, 1) := by decide +kernel
theorem dX3_ask_33 : decode cX3_ask 33 = .ok (.putfield 34, 3) := by decide +kernel
theorem dX3_ask_36 : decode cX3_ask 36 = .ok (.return_, 1) := by decide +kernel
theorem dX3_refuse_0 : decode cX3_refuse 0 = .ok (.aload_n 0, 1) := by decide +kernel
theorem dX3_refuse_1 : decode cX3_refuse 1 = .ok (.iload_n 1, 1) := by decide +kernel
theorem dX3_refuse_2 : decode cX3_refuse 2 = .ok (.putfield 31, 3) := by decide +kernel
theorem dX3_refuse_5 : decode cX3_refuse 5 = .ok (.aload_n 0, 1) := by decide +kernel
theorem dX3_refuse_6 : decode cX3_refuse 6 = .ok (.iload_n 2, 1) := by decide +kernel
theorem dX3_refuse_7 : decode cX3_refuse 7 = .ok (.putfield 34, 3) := by decide +kernel
theorem dX3_refuse_10 : decode cX3_refuse 10 = .ok (.return_, 1) := by decide +kernel
theorem dX3_isRefused_0 : decode cX3_isRefused 0 = .ok (.aload_n 0, 1) := by decide +kernel
theorem dX3_isRefused_1 : decode cX3_isRefused 1 = .ok (.getfield 31, 3) := by decide +kernel
theorem dX3_isRefused_4 : decode cX3_isRefused 4 = .ok (.ifCond .eq 7, 3) := by decide +kernel
theorem dX3_isRefused_7 : decode cX3_isRefused 7 = .ok (.iconst 1, 1) := by decide +kernel
theorem dX3_isRefused_8 : decode cX3_isRefused 8 = .ok (.goto 4, 3) := by decide +kernel
theorem dX3_isRefused_11 : decode cX3_isRefused 11 = .ok (.iconst 0, 1) := by decide +kernel
theorem dX3_isRefused_12 : decode cX3_isRefused 12 = .ok (.ireturn, 1) := by decide +kernel
theorem dX4_init_0 : decode cX4_init 0 = .ok (.aload_n 0, 1) := by decide +kernel
theorem dX4_init_1 : decode cX4_init 1 = .ok (.invokespecial 1, 3) := by decide +kernel
theorem dX4_init_4 : decode cX4_init 4 = .ok (.aload_n 0, 1) := by decide +kernel
theorem dX4_init_5 : decode cX4_init 5 = .ok (.bipush 8, 2) := by decide +kernel
theorem dX4_init_7 : decode cX4_init 7 = .ok (.anewarray 9, 3) := by decide +kernel
theorem dX4_init_10 : decode cX4_init 10 = .ok (.putfield 11, 3) := by decide +kernel
theorem dX4_init_13 : decode cX4_init 13 = .ok (.iconst 0, 1) := by decide +kernel
theorem dX4_init_14 : decode cX4_init 14 = .ok (.istore_n 1, 1) := by decide +kernel
theorem dX4_init_15 : decode cX4_init 15 = .ok (.iload_n 1, 1) := by decide +kernel
theorem dX4_init_16 : decode cX4_init 16 = .ok (.bipush 8, 2) := by decide +kernel
theorem dX4_init_18 : decode cX4_init 18 = .ok (.if_icmp .ge 22, 3) := by decide +kernel
theorem dX4_init_21 : decode cX4_init 21 = .ok (.aload_n 0, 1) := by decide +kernel
theorem dX4_init_22 : decode cX4_init 22 = .ok (.getfield 11, 3) := by decide +kernel
theorem dX4_init_25 : decode cX4_init 25 = .ok (.iload_n 1, 1) := by decide +kernel
theorem dX4_init_26 : decode cX4_init 26 = .ok (.new 9, 3) := by decide +kernel
theorem dX4_init_29 : decode cX4_init 29 = .ok (.dup, 1) := by decide +kernel
theorem dX4_init_30 : decode cX4_init 30 = .ok (.invokespecial 15, 3) := by decide +kernel
theorem dX4_init_33 : decode cX4_init 33 = .ok (.aastore, 1) := by decide +kernel
theorem dX4_init_34 : decode cX4_init 34 = .ok (.iinc 1 1, 3) := by decide +kernel
theorem dX4_init_37 : decode cX4_init 37 = .ok (.goto (-22), 3) := by decide +kernel
theorem dX4_init_40 : decode cX4_init 40 = .ok (.return_, 1) := by decide +kernel
theorem dX4_keep_0 : decode cX4_keep 0 = .ok (.aload_n 0, 1) := by decide +kernel
theorem dX4_keep_1 : decode cX4_keep 1 = .ok (.getfield 11, 3) := by decide +kernel
theorem dX4_keep_4 : decode cX4_keep 4 = .ok (.aload_n 0, 1) := by decide +kernel
theorem dX4_keep_5 : decode cX4_keep 5 = .ok (.getfield 16, 3) := by decide +kernel
theorem dX4_keep_8 : decode cX4_keep 8 = .ok (.aaload, 1) := by decide +kernel
theorem dX4_keep_9 : decode cX4_keep 9 = .ok (.aload_n 1, 1) := by decide +kernel
theorem dX4_keep_10 : decode cX4_keep 10 = .ok (.invokevirtual 20, 3) := by decide +kernel
theorem dX4_keep_13 : decode cX4_keep 13 = .ok (.aload_n 0, 1) := by decide +kernel
theorem dX4_keep_14 : decode cX4_keep 14 = .ok (.aload_n 0, 1) := by decide +kernel
theorem dX4_keep_15 : decode cX4_keep 15 = .ok (.getfield 16, 3) := by decide +kernel
theorem dX4_keep_18 : decode cX4_keep 18 = .ok (.iconst 1, 1) := by decide +kernel
theorem dX4_keep_19 : decode cX4_keep 19 = .ok (.iadd, 1) := by decide +kernel
theorem dX4_keep_20 : decode cX4_keep 20 = .ok (.bipush 8, 2) := by decide +kernel
theorem dX4_keep_22 : decode cX4_keep 22 = .ok (.irem, 1) := by decide +kernel
theorem dX4_keep_23 : decode cX4_keep 23 = .ok (.putfield 16, 3) := by decide +kernel
theorem dX4_keep_26 : decode cX4_keep 26 = .ok (.aload_n 0, 1) := by decide +kernel
theorem dX4_keep_27 : decode cX4_keep 27 = .ok (.aload_n 0, 1) := by decide +kernel
theorem dX4_keep_28 : decode cX4_keep 28 = .ok (.getfield 24, 3) := by decide +kernel
theorem dX4_keep_31 : decode cX4_keep 31 = .ok (.iconst 1, 1) := by decide +kernel
theorem dX4_keep_32 : decode cX4_keep 32 = .ok (.iadd, 1) := by decide +kernel
theorem dX4_keep_33 : decode cX4_keep 33 = .ok (.bipush 8, 2) := by decide +kernel
theorem dX4_keep_35 : decode cX4_keep 35 = .ok (.invokestatic 27, 3) := by decide +kernel
theorem dX4_keep_38 : decode cX4_keep 38 = .ok (.putfield 24, 3) := by decide +kernel
theorem dX4_keep_41 : decode cX4_keep 41 = .ok (.return_, 1) := by decide +kernel
theorem dX4_giveBack_0 : decode cX4_giveBack 0 = .ok (.aload_n 0, 1) := by decide +kernel
theorem dX4_giveBack_1 : decode cX4_giveBack 1 = .ok (.aload_n 0, 1) := by decide +kernel
theorem dX4_giveBack_2 : decode cX4_giveBack 2 = .ok (.getfield 16, 3) := by decide +kernel
theorem dX4_giveBack_5 : decode cX4_giveBack 5 = .ok (.bipush 8, 2) := by decide +kernel
theorem dX4_giveBack_7 : decode cX4_giveBack 7 = .ok (.iadd, 1) := by decide +kernel
theorem dX4_giveBack_8 : decode cX4_giveBack 8 = .ok (.iconst 1, 1) := by decide +kernel
theorem dX4_giveBack_9 : decode cX4_giveBack 9 = .ok (.isub, 1) := by decide +kernel
theorem dX4_giveBack_10 : decode cX4_giveBack 10 = .ok (.bipush 8, 2) := by decide +kernel
theorem dX4_giveBack_12 : decode cX4_giveBack 12 = .ok (.irem, 1) := by decide +kernel
theorem dX4_giveBack_13 : decode cX4_giveBack 13 = .ok (.putfield 16, 3) := by decide +kernel
theorem dX4_giveBack_16 : decode cX4_giveBack 16 = .ok (.aload_n 1, 1) := by decide +kernel
theorem dX4_giveBack_17 : decode cX4_giveBack 17 = .ok (.aload_n 0, 1) := by decide +kernel
theorem dX4_giveBack_18 : decode cX4_giveBack 18 = .ok (.getfield 11, 3) := by decide +kernel
theorem dX4_giveBack_21 : decode cX4_giveBack 21 = .ok (.aload_n 0, 1) := by decide +kernel
theorem dX4_giveBack_22 : decode cX4_giveBack 22 = .ok (.getfield 16, 3) := by decide +kernel
theorem dX4_giveBack_25 : decode cX4_giveBack 25 = .ok (.aaload, 1) := by decide +kernel
theorem dX4_giveBack_26 : decode cX4_giveBack 26 = .ok (.invokevirtual 20, 3) := by decide +kernel
theorem dX4_giveBack_29 : decode cX4_giveBack 29 = .ok (.aload_n 0, 1) := by decide +kernel
theorem dX4_giveBack_30 : decode cX4_giveBack 30 = .ok (.dup, 1) := by decide +kernel
theorem dX4_giveBack_31 : decode cX4_giveBack 31 = .ok (.getfield 24, 3) := by decide +kernel
theorem dX4_giveBack_34 : decode cX4_giveBack 34 = .ok (.iconst 1, 1) := by decide +kernel
theorem dX4_giveBack_35 : decode cX4_giveBack 35 = .ok (.isub, 1) := by decide +kernel
theorem dX4_giveBack_36 : decode cX4_giveBack 36 = .ok (.putfield 24, 3) := by decide +kernel
theorem dX4_giveBack_39 : decode cX4_giveBack 39 = .ok (.return_, 1) := by decide +kernel
theorem dX4_forget_0 : decode cX4_forget 0 = .ok (.aload_n 0, 1) := by decide +kernel
theorem dX4_forget_1 : decode cX4_forget 1 = .ok (.iconst 0, 1) := by decide +kernel
theorem dX4_forget_2 : decode cX4_forget 2 = .ok (.putfield 24, 3) := by decide +kernel
theorem dX4_forget_5 : decode cX4_forget 5 = .ok (.return_, 1) := by decide +kernel
theorem dX5_init_0 : decode cX5_init 0 = .ok (.aload_n 0, 1) := by decide +kernel
theorem dX5_init_1 : decode cX5_init 1 = .ok (.invokespecial 1, 3) := by decide +kernel
theorem dX5_init_4 : decode cX5_init 4 = .ok (.aload_n 0, 1) := by decide +kernel
theorem dX5_init_5 : decode cX5_init 5 = .ok (.new 7, 3) := by decide +kernel
theorem dX5_init_8 : decode cX5_init 8 = .ok (.dup, 1) := by decide +kernel
theorem dX5_init_9 : decode cX5_init 9 = .ok (.invokespecial 9, 3) := by decide +kernel
theorem dX5_init_12 : decode cX5_init 12 = .ok (.putfield 10, 3) := by decide +kernel
theorem dX5_init_15 : decode cX5_init 15 = .ok (.aload_n 0, 1) := by decide +kernel
theorem dX5_init_16 : decode cX5_init 16 = .ok (.new 16, 3) := by decide +kernel
theorem dX5_init_19 : decode cX5_init 19 = .ok (.dup, 1) := by decide +kernel
theorem dX5_init_20 : decode cX5_init 20 = .ok (.invokespecial 18, 3) := by decide +kernel
theorem dX5_init_23 : decode cX5_init 23 = .ok (.putfield 19, 3) := by decide +kernel
theorem dX5_init_26 : decode cX5_init 26 = .ok (.return_, 1) := by decide +kernel
theorem dX5_copyFrom_0 : decode cX5_copyFrom 0 = .ok (.aload_n 0, 1) := by decide +kernel
theorem dX5_copyFrom_1 : decode cX5_copyFrom 1 = .ok (.getfield 10, 3) := by decide +kernel
theorem dX5_copyFrom_4 : decode cX5_copyFrom 4 = .ok (.aload_n 1, 1) := by decide +kernel
theorem dX5_copyFrom_5 : decode cX5_copyFrom 5 = .ok (.getfield 10, 3) := by decide +kernel
theorem dX5_copyFrom_8 : decode cX5_copyFrom 8 = .ok (.invokevirtual 23, 3) := by decide +kernel
theorem dX5_copyFrom_11 : decode cX5_copyFrom 11 = .ok (.aload_n 0, 1) := by decide +kernel
theorem dX5_copyFrom_12 : decode cX5_copyFrom 12 = .ok (.getfield 19, 3) := by decide +kernel
theorem dX5_copyFrom_15 : decode cX5_copyFrom 15 = .ok (.aload_n 1, 1) := by decide +kernel
theorem dX5_copyFrom_16 : decode cX5_copyFrom 16 = .ok (.getfield 19, 3) := by decide +kernel
theorem dX5_copyFrom_19 : decode cX5_copyFrom 19 = .ok (.invokevirtual 27, 3) := by decide +kernel
theorem dX5_copyFrom_22 : decode cX5_copyFrom 22 = .ok (.aload_n 0, 1) := by decide +kernel
theorem dX5_copyFrom_23 : decode cX5_copyFrom 23 = .ok (.aload_n 1, 1) := by decide +kernel
theorem dX5_copyFrom_24 : decode cX5_copyFrom 24 = .ok (.getfield 30, 3) := by decide +kernel
theorem dX5_copyFrom_27 : decode cX5_copyFrom 27 = .ok (.putfield 30, 3) := by decide +kernel
theorem dX5_copyFrom_30 : decode cX5_copyFrom 30 = .ok (.aload_n 0, 1) := by decide +kernel
theorem dX5_copyFrom_31 : decode cX5_copyFrom 31 = .ok (.aload_n 1, 1) := by decide +kernel
theorem dX5_copyFrom_32 : decode cX5_copyFrom 32 = .ok (.getfield 34, 3) := by decide +kernel
theorem dX5_copyFrom_35 : decode cX5_copyFrom 35 = .ok (.putfield 34, 3) := by decide +kernel
theorem dX5_copyFrom_38 : decode cX5_copyFrom 38 = .ok (.aload_n 0, 1) := by decide +kernel
theorem dX5_copyFrom_39 : decode cX5_copyFrom 39 = .ok (.aload_n 1, 1) := by decide +kernel
theorem dX5_copyFrom_40 : decode cX5_copyFrom 40 = .ok (.getfield 37, 3) := by decide +kernel
theorem dX5_copyFrom_43 : decode cX5_copyFrom 43 = .ok (.putfield 37, 3) := by decide +kernel
theorem dX5_copyFrom_46 : decode cX5_copyFrom 46 = .ok (.return_, 1) := by decide +kernel
theorem dX5_carryOut_0 : decode cX5_carryOut 0 = .ok (.getstatic 40, 3) := by decide +kernel
theorem dX5_carryOut_3 : decode cX5_carryOut 3 = .ok (.aload_n 1, 1) := by decide +kernel
theorem dX5_carryOut_4 : decode cX5_carryOut 4 = .ok (.getfield 46, 3) := by decide +kernel
theorem dX5_carryOut_7 : decode cX5_carryOut 7 = .ok (.invokevirtual 52, 3) := by decide +kernel
theorem dX5_carryOut_10 : decode cX5_carryOut 10 = .ok (.iaload, 1) := by decide +kernel
theorem dX5_carryOut_11 : decode cX5_carryOut 11 = .ok (.tableswitch 111 1 8 #[45, 54, 63, 71, 79, 87, 95, 103], 45) := by decide +kernel
theorem dX5_carryOut_56 : decode cX5_carryOut 56 = .ok (.aload_n 0, 1) := by decide +kernel
theorem dX5_carryOut_57 : decode cX5_carryOut 57 = .ok (.aload_n 1, 1) := by decide +kernel
theorem dX5_carryOut_58 : decode cX5_carryOut 58 = .ok (.iconst 0, 1) := by decide +kernel
theorem dX5_carryOut_59 : decode cX5_carryOut 59 = .ok (.invokevirtual 58, 3) := by decide +kernel
theorem dX5_carryOut_62 : decode cX5_carryOut 62 = .ok (.goto 60, 3) := by decide +kernel
theorem dX5_carryOut_65 : decode cX5_carryOut 65 = .ok (.aload_n 0, 1) := by decide +kernel
theorem dX5_carryOut_66 : decode cX5_carryOut 66 = .ok (.aload_n 1, 1) := by decide +kernel
theorem dX5_carryOut_67 : decode cX5_carryOut 67 = .ok (.iconst 1, 1) := by decide +kernel
theorem dX5_carryOut_68 : decode cX5_carryOut 68 = .ok (.invokevirtual 58, 3) := by decide +kernel
theorem dX5_carryOut_71 : decode cX5_carryOut 71 = .ok (.goto 51, 3) := by decide +kernel
theorem dX5_carryOut_74 : decode cX5_carryOut 74 = .ok (.aload_n 0, 1) := by decide +kernel
theorem dX5_carryOut_75 : decode cX5_carryOut 75 = .ok (.aload_n 1, 1) := by decide +kernel
theorem dX5_carryOut_76 : decode cX5_carryOut 76 = .ok (.invokevirtual 62, 3) := by decide +kernel
theorem dX5_carryOut_79 : decode cX5_carryOut 79 = .ok (.goto 43, 3) := by decide +kernel
theorem dX5_carryOut_82 : decode cX5_carryOut 82 = .ok (.aload_n 0, 1) := by decide +kernel
theorem dX5_carryOut_83 : decode cX5_carryOut 83 = .ok (.aload_n 1, 1) := by decide +kernel
theorem dX5_carryOut_84 : decode cX5_carryOut 84 = .ok (.invokevirtual 66, 3) := by decide +kernel
theorem dX5_carryOut_87 : decode cX5_carryOut 87 = .ok (.goto 35, 3) := by decide +kernel
theorem dX5_carryOut_90 : decode cX5_carryOut 90 = .ok (.aload_n 0, 1) := by decide +kernel
theorem dX5_carryOut_91 : decode cX5_carryOut 91 = .ok (.aload_n 1, 1) := by decide +kernel
theorem dX5_carryOut_92 : decode cX5_carryOut 92 = .ok (.invokevirtual 69, 3) := by decide +kernel
theorem dX5_carryOut_95 : decode cX5_carryOut 95 = .ok (.goto 27, 3) := by decide +kernel
theorem dX5_carryOut_98 : decode cX5_carryOut 98 = .ok (.aload_n 0, 1) := by decide +kernel
theorem dX5_carryOut_99 : decode cX5_carryOut 99 = .ok (.aload_n 1, 1) := by decide +kernel
theorem dX5_carryOut_100 : decode cX5_carryOut 100 = .ok (.invokevirtual 72, 3) := by decide +kernel
theorem dX5_carryOut_103 : decode cX5_carryOut 103 = .ok (.goto 19, 3) := by decide +kernel
theorem dX5_carryOut_106 : decode cX5_carryOut 106 = .ok (.aload_n 0, 1) := by decide +kernel
theorem dX5_carryOut_107 : decode cX5_carryOut 107 = .ok (.aload_n 1, 1) := by decide +kernel
theorem dX5_carryOut_108 : decode cX5_carryOut 108 = .ok (.invokevirtual 75, 3) := by decide +kernel
theorem dX5_carryOut_111 : decode cX5_carryOut 111 = .ok (.goto 11, 3) := by decide +kernel
theorem dX5_carryOut_114 : decode cX5_carryOut 114 = .ok (.aload_n 0, 1) := by decide +kernel
theorem dX5_carryOut_115 : decode cX5_carryOut 115 = .ok (.aload_n 1, 1) := by decide +kernel
theorem dX5_carryOut_116 : decode cX5_carryOut 116 = .ok (.invokevirtual 78, 3) := by decide +kernel
theorem dX5_carryOut_119 : decode cX5_carryOut 119 = .ok (.goto 3, 3) := by decide +kernel
theorem dX5_carryOut_122 : decode cX5_carryOut 122 = .ok (.return_, 1) := by decide +kernel
theorem dX5_admit_0 : decode cX5_admit 0 = .ok (.aload_n 1, 1) := by decide +kernel
theorem dX5_admit_1 : decode cX5_admit 1 = .ok (.getfield 81, 3) := by decide +kernel
theorem dX5_admit_4 : decode cX5_admit 4 = .ok (.istore_n 3, 1) := by decide +kernel
theorem dX5_admit_5 : decode cX5_admit 5 = .ok (.iload_n 3, 1) := by decide +kernel
theorem dX5_admit_6 : decode cX5_admit 6 = .ok (.invokestatic 84, 3) := by decide +kernel
theorem dX5_admit_9 : decode cX5_admit 9 = .ok (.ifCond .ne 12, 3) := by decide +kernel
theorem dX5_admit_12 : decode cX5_admit 12 = .ok (.aload_n 1, 1) := by decide +kernel
theorem dX5_admit_13 : decode cX5_admit 13 = .ok (.iconst 1, 1) := by decide +kernel
theorem dX5_admit_14 : decode cX5_admit 14 = .ok (.iconst 0, 1) := by decide +kernel
theorem dX5_admit_15 : decode cX5_admit 15 = .ok (.invokevirtual 88, 3) := by decide +kernel
theorem dX5_admit_18 : decode cX5_admit 18 = .ok (.goto 36, 3) := by decide +kernel
theorem dX5_admit_21 : decode cX5_admit 21 = .ok (.aload_n 0, 1) := by decide +kernel
theorem dX5_admit_22 : decode cX5_admit 22 = .ok (.getfield 10, 3) := by decide +kernel
theorem dX5_admit_25 : decode cX5_admit 25 = .ok (.invokevirtual 92, 3) := by decide +kernel
theorem dX5_admit_28 : decode cX5_admit 28 = .ok (.ifCond .eq 13, 3) := by decide +kernel
theorem dX5_admit_31 : decode cX5_admit 31 = .ok (.aload_n 1, 1) := by decide +kernel
theorem dX5_admit_32 : decode cX5_admit 32 = .ok (.iconst 2, 1) := by decide +kernel
theorem dX5_admit_33 : decode cX5_admit 33 = .ok (.bipush 6, 2) := by decide +kernel
theorem dX5_admit_35 : decode cX5_admit 35 = .ok (.invokevirtual 88, 3) := by decide +kernel
theorem dX5_admit_38 : decode cX5_admit 38 = .ok (.goto 16, 3) := by decide +kernel
theorem dX5_admit_41 : decode cX5_admit 41 = .ok (.aload_n 1, 1) := by decide +kernel
theorem dX5_admit_42 : decode cX5_admit 42 = .ok (.aload_n 0, 1) := by decide +kernel
theorem dX5_admit_43 : decode cX5_admit 43 = .ok (.getfield 10, 3) := by decide +kernel
theorem dX5_admit_46 : decode cX5_admit 46 = .ok (.iload_n 3, 1) := by decide +kernel
theorem dX5_admit_47 : decode cX5_admit 47 = .ok (.iload_n 2, 1) := by decide +kernel
theorem dX5_admit_48 : decode cX5_admit 48 = .ok (.invokevirtual 96, 3) := by decide +kernel
theorem dX5_admit_51 : decode cX5_admit 51 = .ok (.putfield 99, 3) := by decide +kernel
theorem dX5_admit_54 : decode cX5_admit 54 = .ok (.return_, 1) := by decide +kernel
theorem dX5_befriend_0 : decode cX5_befriend 0 = .ok (.aload_n 1, 1) := by decide +kernel
theorem dX5_befriend_1 : decode cX5_befriend 1 = .ok (.getfield 81, 3) := by decide +kernel
theorem dX5_befriend_4 : decode cX5_befriend 4 = .ok (.istore_n 2, 1) := by decide +kernel
theorem dX5_befriend_5 : decode cX5_befriend 5 = .ok (.aload_n 1, 1) := by decide +kernel
theorem dX5_befriend_6 : decode cX5_befriend 6 = .ok (.getfield 102, 3) := by decide +kernel
theorem dX5_befriend_9 : decode cX5_befriend 9 = .ok (.istore_n 3, 1) := by decide +kernel
theorem dX5_befriend_10 : decode cX5_befriend 10 = .ok (.aload_n 1, 1) := by decide +kernel
theorem dX5_befriend_11 : decode cX5_befriend 11 = .ok (.getfield 105, 3) := by decide +kernel
theorem dX5_befriend_14 : decode cX5_befriend 14 = .ok (.istore 4, 2) := by decide +kernel
theorem dX5_befriend_16 : decode cX5_befriend 16 = .ok (.aload_n 0, 1) := by decide +kernel
theorem dX5_befriend_17 : decode cX5_befriend 17 = .ok (.getfield 10, 3) := by decide +kernel
theorem dX5_befriend_20 : decode cX5_befriend 20 = .ok (.iload_n 2, 1) := by decide +kernel
theorem dX5_befriend_21 : decode cX5_befriend 21 = .ok (.invokevirtual 108, 3) := by decide +kernel
theorem dX5_befriend_24 : decode cX5_befriend 24 = .ok (.ifCond .eq 14, 3) := by decide +kernel
theorem dX5_befriend_27 : decode cX5_befriend 27 = .ok (.aload_n 0, 1) := by decide +kernel
theorem dX5_befriend_28 : decode cX5_befriend 28 = .ok (.getfield 10, 3) := by decide +kernel
theorem dX5_befriend_31 : decode cX5_befriend 31 = .ok (.iload_n 3, 1) := by decide +kernel
theorem dX5_befriend_32 : decode cX5_befriend 32 = .ok (.invokevirtual 108, 3) := by decide +kernel
theorem dX5_befriend_35 : decode cX5_befriend 35 = .ok (.ifCond .ne 18, 3) := by decide +kernel
theorem dX5_befriend_38 : decode cX5_befriend 38 = .ok (.aload_n 1, 1) := by decide +kernel
theorem dX5_befriend_39 : decode cX5_befriend 39 = .ok (.iconst 3, 1) := by decide +kernel
theorem dX5_befriend_40 : decode cX5_befriend 40 = .ok (.aload_n 0, 1) := by decide +kernel
theorem dX5_befriend_41 : decode cX5_befriend 41 = .ok (.getfield 10, 3) := by decide +kernel
theorem dX5_befriend_44 : decode cX5_befriend 44 = .ok (.getfield 111, 3) := by decide +kernel
theorem dX5_befriend_47 : decode cX5_befriend 47 = .ok (.invokevirtual 88, 3) := by decide +kernel
theorem dX5_befriend_50 : decode cX5_befriend 50 = .ok (.goto 75, 3) := by decide +kernel
theorem dX5_befriend_53 : decode cX5_befriend 53 = .ok (.iload_n 2, 1) := by decide +kernel
theorem dX5_befriend_54 : decode cX5_befriend 54 = .ok (.iload_n 3, 1) := by decide +kernel
theorem dX5_befriend_55 : decode cX5_befriend 55 = .ok (.if_icmp .ne 12, 3) := by decide +kernel
theorem dX5_befriend_58 : decode cX5_befriend 58 = .ok (.aload_n 1, 1) := by decide +kernel
theorem dX5_befriend_59 : decode cX5_befriend 59 = .ok (.iconst 4, 1) := by decide +kernel
theorem dX5_befriend_60 : decode cX5_befriend 60 = .ok (.iload_n 2, 1) := by decide +kernel
theorem dX5_befriend_61 : decode cX5_befriend 61 = .ok (.invokevirtual 88, 3) := by decide +kernel
theorem dX5_befriend_64 : decode cX5_befriend 64 = .ok (.goto 61, 3) := by decide +kernel
theorem dX5_befriend_67 : decode cX5_befriend 67 = .ok (.iload 4, 2) := by decide +kernel
theorem dX5_befriend_69 : decode cX5_befriend 69 = .ok (.invokestatic 114, 3) := by decide +kernel
theorem dX5_befriend_72 : decode cX5_befriend 72 = .ok (.ifCond .ne 12, 3) := by decide +kernel
theorem dX5_befriend_75 : decode cX5_befriend 75 = .ok (.aload_n 1, 1) := by decide +kernel
theorem dX5_befriend_76 : decode cX5_befriend 76 = .ok (.iconst 1, 1) := by decide +kernel
theorem dX5_befriend_77 : decode cX5_befriend 77 = .ok (.iconst 0, 1) := by decide +kernel
theorem dX5_befriend_78 : decode cX5_befriend 78 = .ok (.invokevirtual 88, 3) := by decide +kernel
theorem dX5_befriend_81 : decode cX5_befriend 81 = .ok (.goto 44, 3) := by decide +kernel
theorem dX5_befriend_84 : decode cX5_befriend 84 = .ok (.aload_n 0, 1) := by decide +kernel
theorem dX5_befriend_85 : decode cX5_befriend 85 = .ok (.getfield 10, 3) := by decide +kernel
theorem dX5_befriend_88 : decode cX5_befriend 88 = .ok (.getfield 117, 3) := by decide +kernel
theorem dX5_befriend_91 : decode cX5_befriend 91 = .ok (.iload_n 2, 1) := by decide +kernel
theorem dX5_befriend_92 : decode cX5_befriend 92 = .ok (.aaload, 1) := by decide +kernel
theorem dX5_befriend_93 : decode cX5_befriend 93 = .ok (.iload_n 3, 1) := by decide +kernel
theorem dX5_befriend_94 : decode cX5_befriend 94 = .ok (.iaload, 1) := by decide +kernel
theorem dX5_befriend_95 : decode cX5_befriend 95 = .ok (.iload 4, 2) := by decide +kernel
theorem dX5_befriend_97 : decode cX5_befriend 97 = .ok (.if_icmp .ne 13, 3) := by decide +kernel
theorem dX5_befriend_100 : decode cX5_befriend 100 = .ok (.aload_n 1, 1) := by decide +kernel
theorem dX5_befriend_101 : decode cX5_befriend 101 = .ok (.iconst 5, 1) := by decide +kernel
theorem dX5_befriend_102 : decode cX5_befriend 102 = .ok (.iload 4, 2) := by decide +kernel
theorem dX5_befriend_104 : decode cX5_befriend 104 = .ok (.invokevirtual 88, 3) := by decide +kernel
theorem dX5_befriend_107 : decode cX5_befriend 107 = .ok (.goto 18, 3) := by decide +kernel
theorem dX5_befriend_110 : decode cX5_befriend 110 = .ok (.aload_n 1, 1) := by decide +kernel
theorem dX5_befriend_111 : decode cX5_befriend 111 = .ok (.aload_n 0, 1) := by decide +kernel
theorem dX5_befriend_112 : decode cX5_befriend 112 = .ok (.getfield 10, 3) := by decide +kernel
theorem dX5_befriend_115 : decode cX5_befriend 115 = .ok (.iload_n 2, 1) := by decide +kernel
theorem dX5_befriend_116 : decode cX5_befriend 116 = .ok (.iload_n 3, 1) := by decide +kernel
theorem dX5_befriend_117 : decode cX5_befriend 117 = .ok (.iload 4, 2) := by decide +kernel
theorem dX5_befriend_119 : decode cX5_befriend 119 = .ok (.invokevirtual 121, 3) := by decide +kernel
theorem dX5_befriend_122 : decode cX5_befriend 122 = .ok (.putfield 99, 3) := by decide +kernel
theorem dX5_befriend_125 : decode cX5_befriend 125 = .ok (.return_, 1) := by decide +kernel
theorem dX5_passRound_0 : decode cX5_passRound 0 = .ok (.aload_n 0, 1) := by decide +kernel
theorem dX5_passRound_1 : decode cX5_passRound 1 = .ok (.getfield 10, 3) := by decide +kernel
theorem dX5_passRound_4 : decode cX5_passRound 4 = .ok (.getfield 111, 3) := by decide +kernel
theorem dX5_passRound_7 : decode cX5_passRound 7 = .ok (.ifCond .ne 14, 3) := by decide +kernel
theorem dX5_passRound_10 : decode cX5_passRound 10 = .ok (.aload_n 1, 1) := by decide +kernel
theorem dX5_passRound_11 : decode cX5_passRound 11 = .ok (.bipush 10, 2) := by decide +kernel
theorem dX5_passRound_13 : decode cX5_passRound 13 = .ok (.aload_n 0, 1) := by decide +kernel
theorem dX5_passRound_14 : decode cX5_passRound 14 = .ok (.getfield 30, 3) := by decide +kernel
theorem dX5_passRound_17 : decode cX5_passRound 17 = .ok (.invokevirtual 88, 3) := by decide +kernel
theorem dX5_passRound_20 : decode cX5_passRound 20 = .ok (.return_, 1) := by decide +kernel
theorem dX5_passRound_21 : decode cX5_passRound 21 = .ok (.aload_n 1, 1) := by decide +kernel
theorem dX5_passRound_22 : decode cX5_passRound 22 = .ok (.aload_n 0, 1) := by decide +kernel
theorem dX5_passRound_23 : decode cX5_passRound 23 = .ok (.getfield 10, 3) := by decide +kernel
theorem dX5_passRound_26 : decode cX5_passRound 26 = .ok (.invokevirtual 125, 3) := by decide +kernel
theorem dX5_passRound_29 : decode cX5_passRound 29 = .ok (.putfield 99, 3) := by decide +kernel
theorem dX5_passRound_32 : decode cX5_passRound 32 = .ok (.aload_n 0, 1) := by decide +kernel
theorem dX5_passRound_33 : decode cX5_passRound 33 = .ok (.dup, 1) := by decide +kernel
theorem dX5_passRound_34 : decode cX5_passRound 34 = .ok (.getfield 34, 3) := by decide +kernel
theorem dX5_passRound_37 : decode cX5_passRound 37 = .ok (.aload_n 0, 1) := by decide +kernel
theorem dX5_passRound_38 : decode cX5_passRound 38 = .ok (.getfield 19, 3) := by decide +kernel
theorem dX5_passRound_41 : decode cX5_passRound 41 = .ok (.aload_n 0, 1) := by decide +kernel
theorem dX5_passRound_42 : decode cX5_passRound 42 = .ok (.getfield 10, 3) := by decide +kernel
theorem dX5_passRound_45 : decode cX5_passRound 45 = .ok (.invokevirtual 127, 3) := by decide +kernel
theorem dX5_passRound_48 : decode cX5_passRound 48 = .ok (.iadd, 1) := by decide +kernel
theorem dX5_passRound_49 : decode cX5_passRound 49 = .ok (.putfield 34, 3) := by decide +kernel
theorem dX5_passRound_52 : decode cX5_passRound 52 = .ok (.aload_n 0, 1) := by decide +kernel
theorem dX5_passRound_53 : decode cX5_passRound 53 = .ok (.dup, 1) := by decide +kernel
theorem dX5_passRound_54 : decode cX5_passRound 54 = .ok (.getfield 37, 3) := by decide +kernel
theorem dX5_passRound_57 : decode cX5_passRound 57 = .ok (.aload_n 0, 1) := by decide +kernel
theorem dX5_passRound_58 : decode cX5_passRound 58 = .ok (.getfield 19, 3) := by decide +kernel
theorem dX5_passRound_61 : decode cX5_passRound 61 = .ok (.invokevirtual 131, 3) := by decide +kernel
theorem dX5_passRound_64 : decode cX5_passRound 64 = .ok (.iadd, 1) := by decide +kernel
theorem dX5_passRound_65 : decode cX5_passRound 65 = .ok (.putfield 37, 3) := by decide +kernel
theorem dX5_passRound_68 : decode cX5_passRound 68 = .ok (.aload_n 0, 1) := by decide +kernel
theorem dX5_passRound_69 : decode cX5_passRound 69 = .ok (.dup, 1) := by decide +kernel
theorem dX5_passRound_70 : decode cX5_passRound 70 = .ok (.getfield 30, 3) := by decide +kernel
theorem dX5_passRound_73 : decode cX5_passRound 73 = .ok (.iconst 1, 1) := by decide +kernel
theorem dX5_passRound_74 : decode cX5_passRound 74 = .ok (.iadd, 1) := by decide +kernel
theorem dX5_passRound_75 : decode cX5_passRound 75 = .ok (.putfield 30, 3) := by decide +kernel
theorem dX5_passRound_78 : decode cX5_passRound 78 = .ok (.return_, 1) := by decide +kernel
theorem dX5_tell_0 : decode cX5_tell 0 = .ok (.aload_n 1, 1) := by decide +kernel
theorem dX5_tell_1 : decode cX5_tell 1 = .ok (.getfield 81, 3) := by decide +kernel
theorem dX5_tell_4 : decode cX5_tell 4 = .ok (.istore_n 2, 1) := by decide +kernel
theorem dX5_tell_5 : decode cX5_tell 5 = .ok (.aload_n 1, 1) := by decide +kernel
theorem dX5_tell_6 : decode cX5_tell 6 = .ok (.getfield 102, 3) := by decide +kernel
theorem dX5_tell_9 : decode cX5_tell 9 = .ok (.istore_n 3, 1) := by decide +kernel
theorem dX5_tell_10 : decode cX5_tell 10 = .ok (.aload_n 0, 1) := by decide +kernel
theorem dX5_tell_11 : decode cX5_tell 11 = .ok (.getfield 10, 3) := by decide +kernel
theorem dX5_tell_14 : decode cX5_tell 14 = .ok (.iload_n 2, 1) := by decide +kernel
theorem dX5_tell_15 : decode cX5_tell 15 = .ok (.invokevirtual 108, 3) := by decide +kernel
theorem dX5_tell_18 : decode cX5_tell 18 = .ok (.ifCond .ne 18, 3) := by decide +kernel
theorem dX5_tell_21 : decode cX5_tell 21 = .ok (.aload_n 1, 1) := by decide +kernel
theorem dX5_tell_22 : decode cX5_tell 22 = .ok (.iconst 3, 1) := by decide +kernel
theorem dX5_tell_23 : decode cX5_tell 23 = .ok (.aload_n 0, 1) := by decide +kernel
theorem dX5_tell_24 : decode cX5_tell 24 = .ok (.getfield 10, 3) := by decide +kernel
theorem dX5_tell_27 : decode cX5_tell 27 = .ok (.getfield 111, 3) := by decide +kernel
theorem dX5_tell_30 : decode cX5_tell 30 = .ok (.invokevirtual 88, 3) := by decide +kernel
theorem dX5_tell_33 : decode cX5_tell 33 = .ok (.goto 84, 3) := by decide +kernel
theorem dX5_tell_36 : decode cX5_tell 36 = .ok (.iload_n 3, 1) := by decide +kernel
theorem dX5_tell_37 : decode cX5_tell 37 = .ok (.invokestatic 134, 3) := by decide +kernel
theorem dX5_tell_40 : decode cX5_tell 40 = .ok (.ifCond .ne 12, 3) := by decide +kernel
theorem dX5_tell_43 : decode cX5_tell 43 = .ok (.aload_n 1, 1) := by decide +kernel
theorem dX5_tell_44 : decode cX5_tell 44 = .ok (.iconst 1, 1) := by decide +kernel
theorem dX5_tell_45 : decode cX5_tell 45 = .ok (.iconst 0, 1) := by decide +kernel
theorem dX5_tell_46 : decode cX5_tell 46 = .ok (.invokevirtual 88, 3) := by decide +kernel
theorem dX5_tell_49 : decode cX5_tell 49 = .ok (.goto 68, 3) := by decide +kernel
theorem dX5_tell_52 : decode cX5_tell 52 = .ok (.aload_n 0, 1) := by decide +kernel
theorem dX5_tell_53 : decode cX5_tell 53 = .ok (.getfield 10, 3) := by decide +kernel
theorem dX5_tell_56 : decode cX5_tell 56 = .ok (.getfield 137, 3) := by decide +kernel
theorem dX5_tell_59 : decode cX5_tell 59 = .ok (.iload_n 2, 1) := by decide +kernel
theorem dX5_tell_60 : decode cX5_tell 60 = .ok (.iaload, 1) := by decide +kernel
theorem dX5_tell_61 : decode cX5_tell 61 = .ok (.ifCond .ne 21, 3) := by decide +kernel
theorem dX5_tell_64 : decode cX5_tell 64 = .ok (.aload_n 1, 1) := by decide +kernel
theorem dX5_tell_65 : decode cX5_tell 65 = .ok (.bipush 6, 2) := by decide +kernel
theorem dX5_tell_67 : decode cX5_tell 67 = .ok (.aload_n 0, 1) := by decide +kernel
theorem dX5_tell_68 : decode cX5_tell 68 = .ok (.getfield 10, 3) := by decide +kernel
theorem dX5_tell_71 : decode cX5_tell 71 = .ok (.getfield 140, 3) := by decide +kernel
theorem dX5_tell_74 : decode cX5_tell 74 = .ok (.iload_n 2, 1) := by decide +kernel
theorem dX5_tell_75 : decode cX5_tell 75 = .ok (.iaload, 1) := by decide +kernel
theorem dX5_tell_76 : decode cX5_tell 76 = .ok (.invokevirtual 88, 3) := by decide +kernel
theorem dX5_tell_79 : decode cX5_tell 79 = .ok (.goto 38, 3) := by decide +kernel
theorem dX5_tell_82 : decode cX5_tell 82 = .ok (.aload_n 0, 1) := by decide +kernel
theorem dX5_tell_83 : decode cX5_tell 83 = .ok (.getfield 10, 3) := by decide +kernel
theorem dX5_tell_86 : decode cX5_tell 86 = .ok (.iload_n 2, 1) := by decide +kernel
theorem dX5_tell_87 : decode cX5_tell 87 = .ok (.iload_n 3, 1) := by decide +kernel
theorem dX5_tell_88 : decode cX5_tell 88 = .ok (.invokevirtual 143, 3) := by decide +kernel
theorem dX5_tell_91 : decode cX5_tell 91 = .ok (.ifCond .ne 13, 3) := by decide +kernel
theorem dX5_tell_94 : decode cX5_tell 94 = .ok (.aload_n 1, 1) := by decide +kernel
theorem dX5_tell_95 : decode cX5_tell 95 = .ok (.bipush 7, 2) := by decide +kernel
theorem dX5_tell_97 : decode cX5_tell 97 = .ok (.iload_n 3, 1) := by decide +kernel
theorem dX5_tell_98 : decode cX5_tell 98 = .ok (.invokevirtual 88, 3) := by decide +kernel
theorem dX5_tell_101 : decode cX5_tell 101 = .ok (.goto 16, 3) := by decide +kernel
theorem dX5_tell_104 : decode cX5_tell 104 = .ok (.aload_n 1, 1) := by decide +kernel
theorem dX5_tell_105 : decode cX5_tell 105 = .ok (.aload_n 0, 1) := by decide +kernel
theorem dX5_tell_106 : decode cX5_tell 106 = .ok (.getfield 10, 3) := by decide +kernel
theorem dX5_tell_109 : decode cX5_tell 109 = .ok (.iload_n 2, 1) := by decide +kernel
theorem dX5_tell_110 : decode cX5_tell 110 = .ok (.iload_n 3, 1) := by decide +kernel
theorem dX5_tell_111 : decode cX5_tell 111 = .ok (.invokevirtual 147, 3) := by decide +kernel
theorem dX5_tell_114 : decode cX5_tell 114 = .ok (.putfield 99, 3) := by decide +kernel
theorem dX5_tell_117 : decode cX5_tell 117 = .ok (.return_, 1) := by decide +kernel
theorem dX5_putBeam_0 : decode cX5_putBeam 0 = .ok (.aload_n 1, 1) := by decide +kernel
theorem dX5_putBeam_1 : decode cX5_putBeam 1 = .ok (.getfield 81, 3) := by decide +kernel
theorem dX5_putBeam_4 : decode cX5_putBeam 4 = .ok (.istore_n 2, 1) := by decide +kernel
theorem dX5_putBeam_5 : decode cX5_putBeam 5 = .ok (.aload_n 1, 1) := by decide +kernel
theorem dX5_putBeam_6 : decode cX5_putBeam 6 = .ok (.getfield 102, 3) := by decide +kernel
theorem dX5_putBeam_9 : decode cX5_putBeam 9 = .ok (.istore_n 3, 1) := by decide +kernel
theorem dX5_putBeam_10 : decode cX5_putBeam 10 = .ok (.aload_n 1, 1) := by decide +kernel
theorem dX5_putBeam_11 : decode cX5_putBeam 11 = .ok (.getfield 105, 3) := by decide +kernel
theorem dX5_putBeam_14 : decode cX5_putBeam 14 = .ok (.istore 4, 2) := by decide +kernel
theorem dX5_putBeam_16 : decode cX5_putBeam 16 = .ok (.aload_n 0, 1) := by decide +kernel
theorem dX5_putBeam_17 : decode cX5_putBeam 17 = .ok (.getfield 10, 3) := by decide +kernel
theorem dX5_putBeam_20 : decode cX5_putBeam 20 = .ok (.iload_n 2, 1) := by decide +kernel
theorem dX5_putBeam_21 : decode cX5_putBeam 21 = .ok (.invokevirtual 108, 3) := by decide +kernel
theorem dX5_putBeam_24 : decode cX5_putBeam 24 = .ok (.ifCond .eq 14, 3) := by decide +kernel
theorem dX5_putBeam_27 : decode cX5_putBeam 27 = .ok (.aload_n 0, 1) := by decide +kernel
theorem dX5_putBeam_28 : decode cX5_putBeam 28 = .ok (.getfield 10, 3) := by decide +kernel
theorem dX5_putBeam_31 : decode cX5_putBeam 31 = .ok (.iload_n 3, 1) := by decide +kernel
theorem dX5_putBeam_32 : decode cX5_putBeam 32 = .ok (.invokevirtual 108, 3) := by decide +kernel
theorem dX5_putBeam_35 : decode cX5_putBeam 35 = .ok (.ifCond .ne 18, 3) := by decide +kernel
theorem dX5_putBeam_38 : decode cX5_putBeam 38 = .ok (.aload_n 1, 1) := by decide +kernel
theorem dX5_putBeam_39 : decode cX5_putBeam 39 = .ok (.iconst 3, 1) := by decide +kernel
theorem dX5_putBeam_40 : decode cX5_putBeam 40 = .ok (.aload_n 0, 1) := by decide +kernel
theorem dX5_putBeam_41 : decode cX5_putBeam 41 = .ok (.getfield 10, 3) := by decide +kernel
theorem dX5_putBeam_44 : decode cX5_putBeam 44 = .ok (.getfield 111, 3) := by decide +kernel
theorem dX5_putBeam_47 : decode cX5_putBeam 47 = .ok (.invokevirtual 88, 3) := by decide +kernel
theorem dX5_putBeam_50 : decode cX5_putBeam 50 = .ok (.goto 99, 3) := by decide +kernel
theorem dX5_putBeam_53 : decode cX5_putBeam 53 = .ok (.iload_n 2, 1) := by decide +kernel
theorem dX5_putBeam_54 : decode cX5_putBeam 54 = .ok (.iload_n 3, 1) := by decide +kernel
theorem dX5_putBeam_55 : decode cX5_putBeam 55 = .ok (.if_icmp .ne 12, 3) := by decide +kernel
theorem dX5_putBeam_58 : decode cX5_putBeam 58 = .ok (.aload_n 1, 1) := by decide +kernel
theorem dX5_putBeam_59 : decode cX5_putBeam 59 = .ok (.iconst 4, 1) := by decide +kernel
theorem dX5_putBeam_60 : decode cX5_putBeam 60 = .ok (.iload_n 2, 1) := by decide +kernel
theorem dX5_putBeam_61 : decode cX5_putBeam 61 = .ok (.invokevirtual 88, 3) := by decide +kernel
theorem dX5_putBeam_64 : decode cX5_putBeam 64 = .ok (.goto 85, 3) := by decide +kernel
theorem dX5_putBeam_67 : decode cX5_putBeam 67 = .ok (.iload 4, 2) := by decide +kernel
theorem dX5_putBeam_69 : decode cX5_putBeam 69 = .ok (.invokestatic 149, 3) := by decide +kernel
theorem dX5_putBeam_72 : decode cX5_putBeam 72 = .ok (.ifCond .ne 12, 3) := by decide +kernel
theorem dX5_putBeam_75 : decode cX5_putBeam 75 = .ok (.aload_n 1, 1) := by decide +kernel
theorem dX5_putBeam_76 : decode cX5_putBeam 76 = .ok (.iconst 1, 1) := by decide +kernel
theorem dX5_putBeam_77 : decode cX5_putBeam 77 = .ok (.iconst 0, 1) := by decide +kernel
theorem dX5_putBeam_78 : decode cX5_putBeam 78 = .ok (.invokevirtual 88, 3) := by decide +kernel
theorem dX5_putBeam_81 : decode cX5_putBeam 81 = .ok (.goto 68, 3) := by decide +kernel
theorem dX5_putBeam_84 : decode cX5_putBeam 84 = .ok (.aload_n 0, 1) := by decide +kernel
theorem dX5_putBeam_85 : decode cX5_putBeam 85 = .ok (.getfield 19, 3) := by decide +kernel
theorem dX5_putBeam_88 : decode cX5_putBeam 88 = .ok (.iload_n 2, 1) := by decide +kernel
theorem dX5_putBeam_89 : decode cX5_putBeam 89 = .ok (.iload_n 3, 1) := by decide +kernel
theorem dX5_putBeam_90 : decode cX5_putBeam 90 = .ok (.invokevirtual 152, 3) := by decide +kernel
theorem dX5_putBeam_93 : decode cX5_putBeam 93 = .ok (.ifCond .lt 21, 3) := by decide +kernel
theorem dX5_putBeam_96 : decode cX5_putBeam 96 = .ok (.aload_n 1, 1) := by decide +kernel
theorem dX5_putBeam_97 : decode cX5_putBeam 97 = .ok (.bipush 9, 2) := by decide +kernel
theorem dX5_putBeam_99 : decode cX5_putBeam 99 = .ok (.aload_n 0, 1) := by decide +kernel
theorem dX5_putBeam_100 : decode cX5_putBeam 100 = .ok (.getfield 19, 3) := by decide +kernel
theorem dX5_putBeam_103 : decode cX5_putBeam 103 = .ok (.iload_n 2, 1) := by decide +kernel
theorem dX5_putBeam_104 : decode cX5_putBeam 104 = .ok (.iload_n 3, 1) := by decide +kernel
theorem dX5_putBeam_105 : decode cX5_putBeam 105 = .ok (.invokevirtual 152, 3) := by decide +kernel
theorem dX5_putBeam_108 : decode cX5_putBeam 108 = .ok (.invokevirtual 88, 3) := by decide +kernel
theorem dX5_putBeam_111 : decode cX5_putBeam 111 = .ok (.goto 38, 3) := by decide +kernel
theorem dX5_putBeam_114 : decode cX5_putBeam 114 = .ok (.aload_n 0, 1) := by decide +kernel
theorem dX5_putBeam_115 : decode cX5_putBeam 115 = .ok (.getfield 19, 3) := by decide +kernel
theorem dX5_putBeam_118 : decode cX5_putBeam 118 = .ok (.invokevirtual 155, 3) := by decide +kernel
theorem dX5_putBeam_121 : decode cX5_putBeam 121 = .ok (.ifCond .eq 13, 3) := by decide +kernel
theorem dX5_putBeam_124 : decode cX5_putBeam 124 = .ok (.aload_n 1, 1) := by decide +kernel
theorem dX5_putBeam_125 : decode cX5_putBeam 125 = .ok (.iconst 2, 1) := by decide +kernel
theorem dX5_putBeam_126 : decode cX5_putBeam 126 = .ok (.bipush 6, 2) := by decide +kernel
theorem dX5_putBeam_128 : decode cX5_putBeam 128 = .ok (.invokevirtual 88, 3) := by decide +kernel
theorem dX5_putBeam_131 : decode cX5_putBeam 131 = .ok (.goto 18, 3) := by decide +kernel
theorem dX5_putBeam_134 : decode cX5_putBeam 134 = .ok (.aload_n 1, 1) := by decide +kernel
theorem dX5_putBeam_135 : decode cX5_putBeam 135 = .ok (.aload_n 0, 1) := by decide +kernel
theorem dX5_putBeam_136 : decode cX5_putBeam 136 = .ok (.getfield 19, 3) := by decide +kernel
theorem dX5_putBeam_139 : decode cX5_putBeam 139 = .ok (.iload_n 2, 1) := by decide +kernel
theorem dX5_putBeam_140 : decode cX5_putBeam 140 = .ok (.iload_n 3, 1) := by decide +kernel
theorem dX5_putBeam_141 : decode cX5_putBeam 141 = .ok (.iload 4, 2) := by decide +kernel
theorem dX5_putBeam_143 : decode cX5_putBeam 143 = .ok (.invokevirtual 156, 3) := by decide +kernel
theorem dX5_putBeam_146 : decode cX5_putBeam 146 = .ok (.putfield 99, 3) := by decide +kernel
theorem dX5_putBeam_149 : decode cX5_putBeam 149 = .ok (.return_, 1) := by decide +kernel
theorem dX5_takeBeam_0 : decode cX5_takeBeam 0 = .ok (.aload_n 1, 1) := by decide +kernel
theorem dX5_takeBeam_1 : decode cX5_takeBeam 1 = .ok (.getfield 81, 3) := by decide +kernel
theorem dX5_takeBeam_4 : decode cX5_takeBeam 4 = .ok (.istore_n 2, 1) := by decide +kernel
theorem dX5_takeBeam_5 : decode cX5_takeBeam 5 = .ok (.aload_n 0, 1) := by decide +kernel
theorem dX5_takeBeam_6 : decode cX5_takeBeam 6 = .ok (.getfield 19, 3) := by decide +kernel
theorem dX5_takeBeam_9 : decode cX5_takeBeam 9 = .ok (.iload_n 2, 1) := by decide +kernel
theorem dX5_takeBeam_10 : decode cX5_takeBeam 10 = .ok (.invokevirtual 159, 3) := by decide +kernel
theorem dX5_takeBeam_13 : decode cX5_takeBeam 13 = .ok (.ifCond .ne 17, 3) := by decide +kernel
theorem dX5_takeBeam_16 : decode cX5_takeBeam 16 = .ok (.aload_n 1, 1) := by decide +kernel
theorem dX5_takeBeam_17 : decode cX5_takeBeam 17 = .ok (.bipush 8, 2) := by decide +kernel
theorem dX5_takeBeam_19 : decode cX5_takeBeam 19 = .ok (.aload_n 0, 1) := by decide +kernel
theorem dX5_takeBeam_20 : decode cX5_takeBeam 20 = .ok (.getfield 19, 3) := by decide +kernel
theorem dX5_takeBeam_23 : decode cX5_takeBeam 23 = .ok (.getfield 160, 3) := by decide +kernel
theorem dX5_takeBeam_26 : decode cX5_takeBeam 26 = .ok (.invokevirtual 88, 3) := by decide +kernel
theorem dX5_takeBeam_29 : decode cX5_takeBeam 29 = .ok (.return_, 1) := by decide +kernel
theorem dX5_takeBeam_30 : decode cX5_takeBeam 30 = .ok (.aload_n 0, 1) := by decide +kernel
theorem dX5_takeBeam_31 : decode cX5_takeBeam 31 = .ok (.getfield 19, 3) := by decide +kernel
theorem dX5_takeBeam_34 : decode cX5_takeBeam 34 = .ok (.iload_n 2, 1) := by decide +kernel
theorem dX5_takeBeam_35 : decode cX5_takeBeam 35 = .ok (.invokevirtual 161, 3) := by decide +kernel
theorem dX5_takeBeam_38 : decode cX5_takeBeam 38 = .ok (.aload_n 1, 1) := by decide +kernel
theorem dX5_takeBeam_39 : decode cX5_takeBeam 39 = .ok (.aload_n 0, 1) := by decide +kernel
theorem dX5_takeBeam_40 : decode cX5_takeBeam 40 = .ok (.getfield 19, 3) := by decide +kernel
theorem dX5_takeBeam_43 : decode cX5_takeBeam 43 = .ok (.getfield 160, 3) := by decide +kernel
theorem dX5_takeBeam_46 : decode cX5_takeBeam 46 = .ok (.putfield 99, 3) := by decide +kernel
theorem dX5_takeBeam_49 : decode cX5_takeBeam 49 = .ok (.return_, 1) := by decide +kernel
theorem dX5_setHabit_0 : decode cX5_setHabit 0 = .ok (.aload_n 1, 1) := by decide +kernel
theorem dX5_setHabit_1 : decode cX5_setHabit 1 = .ok (.getfield 81, 3) := by decide +kernel
theorem dX5_setHabit_4 : decode cX5_setHabit 4 = .ok (.istore_n 2, 1) := by decide +kernel
theorem dX5_setHabit_5 : decode cX5_setHabit 5 = .ok (.aload_n 1, 1) := by decide +kernel
theorem dX5_setHabit_6 : decode cX5_setHabit 6 = .ok (.getfield 102, 3) := by decide +kernel
theorem dX5_setHabit_9 : decode cX5_setHabit 9 = .ok (.istore_n 3, 1) := by decide +kernel
theorem dX5_setHabit_10 : decode cX5_setHabit 10 = .ok (.aload_n 0, 1) := by decide +kernel
theorem dX5_setHabit_11 : decode cX5_setHabit 11 = .ok (.getfield 10, 3) := by decide +kernel
theorem dX5_setHabit_14 : decode cX5_setHabit 14 = .ok (.iload_n 2, 1) := by decide +kernel
theorem dX5_setHabit_15 : decode cX5_setHabit 15 = .ok (.invokevirtual 108, 3) := by decide +kernel
theorem dX5_setHabit_18 : decode cX5_setHabit 18 = .ok (.ifCond .ne 18, 3) := by decide +kernel
theorem dX5_setHabit_21 : decode cX5_setHabit 21 = .ok (.aload_n 1, 1) := by decide +kernel
theorem dX5_setHabit_22 : decode cX5_setHabit 22 = .ok (.iconst 3, 1) := by decide +kernel
theorem dX5_setHabit_23 : decode cX5_setHabit 23 = .ok (.aload_n 0, 1) := by decide +kernel
theorem dX5_setHabit_24 : decode cX5_setHabit 24 = .ok (.getfield 10, 3) := by decide +kernel
theorem dX5_setHabit_27 : decode cX5_setHabit 27 = .ok (.getfield 111, 3) := by decide +kernel
theorem dX5_setHabit_30 : decode cX5_setHabit 30 = .ok (.invokevirtual 88, 3) := by decide +kernel
theorem dX5_setHabit_33 : decode cX5_setHabit 33 = .ok (.goto 54, 3) := by decide +kernel
theorem dX5_setHabit_36 : decode cX5_setHabit 36 = .ok (.iload_n 3, 1) := by decide +kernel
theorem dX5_setHabit_37 : decode cX5_setHabit 37 = .ok (.invokestatic 165, 3) := by decide +kernel
theorem dX5_setHabit_40 : decode cX5_setHabit 40 = .ok (.ifCond .ne 12, 3) := by decide +kernel
theorem dX5_setHabit_43 : decode cX5_setHabit 43 = .ok (.aload_n 1, 1) := by decide +kernel
theorem dX5_setHabit_44 : decode cX5_setHabit 44 = .ok (.iconst 1, 1) := by decide +kernel
theorem dX5_setHabit_45 : decode cX5_setHabit 45 = .ok (.iconst 0, 1) := by decide +kernel
theorem dX5_setHabit_46 : decode cX5_setHabit 46 = .ok (.invokevirtual 88, 3) := by decide +kernel
theorem dX5_setHabit_49 : decode cX5_setHabit 49 = .ok (.goto 38, 3) := by decide +kernel
theorem dX5_setHabit_52 : decode cX5_setHabit 52 = .ok (.aload_n 0, 1) := by decide +kernel
theorem dX5_setHabit_53 : decode cX5_setHabit 53 = .ok (.getfield 10, 3) := by decide +kernel
theorem dX5_setHabit_56 : decode cX5_setHabit 56 = .ok (.getfield 140, 3) := by decide +kernel
theorem dX5_setHabit_59 : decode cX5_setHabit 59 = .ok (.iload_n 2, 1) := by decide +kernel
theorem dX5_setHabit_60 : decode cX5_setHabit 60 = .ok (.iaload, 1) := by decide +kernel
theorem dX5_setHabit_61 : decode cX5_setHabit 61 = .ok (.iload_n 3, 1) := by decide +kernel
theorem dX5_setHabit_62 : decode cX5_setHabit 62 = .ok (.if_icmp .ne 12, 3) := by decide +kernel
theorem dX5_setHabit_65 : decode cX5_setHabit 65 = .ok (.aload_n 1, 1) := by decide +kernel
theorem dX5_setHabit_66 : decode cX5_setHabit 66 = .ok (.iconst 5, 1) := by decide +kernel
theorem dX5_setHabit_67 : decode cX5_setHabit 67 = .ok (.iload_n 3, 1) := by decide +kernel
theorem dX5_setHabit_68 : decode cX5_setHabit 68 = .ok (.invokevirtual 88, 3) := by decide +kernel
theorem dX5_setHabit_71 : decode cX5_setHabit 71 = .ok (.goto 16, 3) := by decide +kernel
theorem dX5_setHabit_74 : decode cX5_setHabit 74 = .ok (.aload_n 1, 1) := by decide +kernel
theorem dX5_setHabit_75 : decode cX5_setHabit 75 = .ok (.aload_n 0, 1) := by decide +kernel
theorem dX5_setHabit_76 : decode cX5_setHabit 76 = .ok (.getfield 10, 3) := by decide +kernel
theorem dX5_setHabit_79 : decode cX5_setHabit 79 = .ok (.iload_n 2, 1) := by decide +kernel
theorem dX5_setHabit_80 : decode cX5_setHabit 80 = .ok (.iload_n 3, 1) := by decide +kernel
theorem dX5_setHabit_81 : decode cX5_setHabit 81 = .ok (.invokevirtual 168, 3) := by decide +kernel
theorem dX5_setHabit_84 : decode cX5_setHabit 84 = .ok (.putfield 99, 3) := by decide +kernel
theorem dX5_setHabit_87 : decode cX5_setHabit 87 = .ok (.return_, 1) := by decide +kernel
theorem dX7_init_0 : decode cX7_init 0 = .ok (.aload_n 0, 1) := by decide +kernel
theorem dX7_init_1 : decode cX7_init 1 = .ok (.invokespecial 1, 3) := by decide +kernel
theorem dX7_init_4 : decode cX7_init 4 = .ok (.aload_n 0, 1) := by decide +kernel
theorem dX7_init_5 : decode cX7_init 5 = .ok (.bipush 64, 2) := by decide +kernel
theorem dX7_init_7 : decode cX7_init 7 = .ok (.newarray .char, 2) := by decide +kernel
theorem dX7_init_9 : decode cX7_init 9 = .ok (.putfield 9, 3) := by decide +kernel
theorem dX7_init_12 : decode cX7_init 12 = .ok (.return_, 1) := by decide +kernel
theorem dX7_writePerson_0 : decode cX7_writePerson 0 = .ok (.aload_n 0, 1) := by decide +kernel
theorem dX7_writePerson_1 : decode cX7_writePerson 1 = .ok (.iconst 0, 1) := by decide +kernel
theorem dX7_writePerson_2 : decode cX7_writePerson 2 = .ok (.putfield 13, 3) := by decide +kernel
theorem dX7_writePerson_5 : decode cX7_writePerson 5 = .ok (.aload_n 0, 1) := by decide +kernel
theorem dX7_writePerson_6 : decode cX7_writePerson 6 = .ok (.aload_n 2, 1) := by decide +kernel
theorem dX7_writePerson_7 : decode cX7_writePerson 7 = .ok (.getfield 17, 3) := by decide +kernel
theorem dX7_writePerson_10 : decode cX7_writePerson 10 = .ok (.iload_n 1, 1) := by decide +kernel
theorem dX7_writePerson_11 : decode cX7_writePerson 11 = .ok (.baload, 1) := by decide +kernel
theorem dX7_writePerson_12 : decode cX7_writePerson 12 = .ok (.ifCond .eq 8, 3) := by decide +kernel
theorem dX7_writePerson_15 : decode cX7_writePerson 15 = .ok (.bipush 115, 2) := by decide +kernel
theorem dX7_writePerson_17 : decode cX7_writePerson 17 = .ok (.goto 5, 3) := by decide +kernel
theorem dX7_writePerson_20 : decode cX7_writePerson 20 = .ok (.bipush 111, 2) := by decide +kernel
theorem dX7_writePerson_22 : decode cX7_writePerson 22 = .ok (.invokevirtual 23, 3) := by decide +kernel
theorem dX7_writePerson_25 : decode cX7_writePerson 25 = .ok (.aload_n 2, 1) := by decide +kernel
theorem dX7_writePerson_26 : decode cX7_writePerson 26 = .ok (.iload_n 1, 1) := by decide +kernel
theorem dX7_writePerson_27 : decode cX7_writePerson 27 = .ok (.invokevirtual 27, 3) := by decide +kernel
theorem dX7_writePerson_30 : decode cX7_writePerson 30 = .ok (.istore_n 3, 1) := by decide +kernel
theorem dX7_writePerson_31 : decode cX7_writePerson 31 = .ok (.iload_n 3, 1) := by decide +kernel
theorem dX7_writePerson_32 : decode cX7_writePerson 32 = .ok (.ifCond .eq 18, 3) := by decide +kernel
theorem dX7_writePerson_35 : decode cX7_writePerson 35 = .ok (.aload_n 0, 1) := by decide +kernel
theorem dX7_writePerson_36 : decode cX7_writePerson 36 = .ok (.iload_n 3, 1) := by decide +kernel
theorem dX7_writePerson_37 : decode cX7_writePerson 37 = .ok (.ifCond .le 8, 3) := by decide +kernel
theorem dX7_writePerson_40 : decode cX7_writePerson 40 = .ok (.bipush 43, 2) := by decide +kernel
theorem dX7_writePerson_42 : decode cX7_writePerson 42 = .ok (.goto 5, 3) := by decide +kernel
theorem dX7_writePerson_45 : decode cX7_writePerson 45 = .ok (.bipush 45, 2) := by decide +kernel
theorem dX7_writePerson_47 : decode cX7_writePerson 47 = .ok (.invokevirtual 23, 3) := by decide +kernel
theorem dX7_writePerson_50 : decode cX7_writePerson 50 = .ok (.aload_n 0, 1) := by decide +kernel
theorem dX7_writePerson_51 : decode cX7_writePerson 51 = .ok (.aload_n 2, 1) := by decide +kernel
theorem dX7_writePerson_52 : decode cX7_writePerson 52 = .ok (.getfield 31, 3) := by decide +kernel
theorem dX7_writePerson_55 : decode cX7_writePerson 55 = .ok (.iload_n 1, 1) := by decide +kernel
theorem dX7_writePerson_56 : decode cX7_writePerson 56 = .ok (.iaload, 1) := by decide +kernel
theorem dX7_writePerson_57 : decode cX7_writePerson 57 = .ok (.invokestatic 35, 3) := by decide +kernel
theorem dX7_writePerson_60 : decode cX7_writePerson 60 = .ok (.invokevirtual 40, 3) := by decide +kernel
theorem dX7_writePerson_63 : decode cX7_writePerson 63 = .ok (.aload_n 0, 1) := by decide +kernel
theorem dX7_writePerson_64 : decode cX7_writePerson 64 = .ok (.bipush 35, 2) := by decide +kernel
theorem dX7_writePerson_66 : decode cX7_writePerson 66 = .ok (.invokevirtual 23, 3) := by decide +kernel
theorem dX7_writePerson_69 : decode cX7_writePerson 69 = .ok (.aload_n 0, 1) := by decide +kernel
theorem dX7_writePerson_70 : decode cX7_writePerson 70 = .ok (.aload_n 2, 1) := by decide +kernel
theorem dX7_writePerson_71 : decode cX7_writePerson 71 = .ok (.getfield 44, 3) := by decide +kernel
theorem dX7_writePerson_74 : decode cX7_writePerson 74 = .ok (.iload_n 1, 1) := by decide +kernel
theorem dX7_writePerson_75 : decode cX7_writePerson 75 = .ok (.iaload, 1) := by decide +kernel
theorem dX7_writePerson_76 : decode cX7_writePerson 76 = .ok (.invokevirtual 40, 3) := by decide +kernel
theorem dX7_writePerson_79 : decode cX7_writePerson 79 = .ok (.iconst 0, 1) := by decide +kernel
theorem dX7_writePerson_80 : decode cX7_writePerson 80 = .ok (.istore 4, 2) := by decide +kernel
theorem dX7_writePerson_82 : decode cX7_writePerson 82 = .ok (.iload 4, 2) := by decide +kernel
theorem dX7_writePerson_84 : decode cX7_writePerson 84 = .ok (.aload_n 2, 1) := by decide +kernel
theorem dX7_writePerson_85 : decode cX7_writePerson 85 = .ok (.getfield 47, 3) := by decide +kernel
theorem dX7_writePerson_88 : decode cX7_writePerson 88 = .ok (.if_icmp .ge 52, 3) := by decide +kernel
theorem dX7_writePerson_91 : decode cX7_writePerson 91 = .ok (.aload_n 2, 1) := by decide +kernel
theorem dX7_writePerson_92 : decode cX7_writePerson 92 = .ok (.getfield 50, 3) := by decide +kernel
theorem dX7_writePerson_95 : decode cX7_writePerson 95 = .ok (.iload_n 1, 1) := by decide +kernel
theorem dX7_writePerson_96 : decode cX7_writePerson 96 = .ok (.aaload, 1) := by decide +kernel
theorem dX7_writePerson_97 : decode cX7_writePerson 97 = .ok (.iload 4, 2) := by decide +kernel
theorem dX7_writePerson_99 : decode cX7_writePerson 99 = .ok (.iaload, 1) := by decide +kernel
theorem dX7_writePerson_100 : decode cX7_writePerson 100 = .ok (.ifCond .eq 34, 3) := by decide +kernel
theorem dX7_writePerson_103 : decode cX7_writePerson 103 = .ok (.aload_n 0, 1) := by decide +kernel
theorem dX7_writePerson_104 : decode cX7_writePerson 104 = .ok (.bipush 32, 2) := by decide +kernel
theorem dX7_writePerson_106 : decode cX7_writePerson 106 = .ok (.invokevirtual 23, 3) := by decide +kernel
theorem dX7_writePerson_109 : decode cX7_writePerson 109 = .ok (.aload_n 0, 1) := by decide +kernel
theorem dX7_writePerson_110 : decode cX7_writePerson 110 = .ok (.iload 4, 2) := by decide +kernel
theorem dX7_writePerson_112 : decode cX7_writePerson 112 = .ok (.invokevirtual 40, 3) := by decide +kernel
theorem dX7_writePerson_115 : decode cX7_writePerson 115 = .ok (.aload_n 0, 1) := by decide +kernel
theorem dX7_writePerson_116 : decode cX7_writePerson 116 = .ok (.bipush 42, 2) := by decide +kernel
theorem dX7_writePerson_118 : decode cX7_writePerson 118 = .ok (.invokevirtual 23, 3) := by decide +kernel
theorem dX7_writePerson_121 : decode cX7_writePerson 121 = .ok (.aload_n 0, 1) := by decide +kernel
theorem dX7_writePerson_122 : decode cX7_writePerson 122 = .ok (.aload_n 2, 1) := by decide +kernel
theorem dX7_writePerson_123 : decode cX7_writePerson 123 = .ok (.getfield 50, 3) := by decide +kernel
theorem dX7_writePerson_126 : decode cX7_writePerson 126 = .ok (.iload_n 1, 1) := by decide +kernel
theorem dX7_writePerson_127 : decode cX7_writePerson 127 = .ok (.aaload, 1) := by decide +kernel
theorem dX7_writePerson_128 : decode cX7_writePerson 128 = .ok (.iload 4, 2) := by decide +kernel
theorem dX7_writePerson_130 : decode cX7_writePerson 130 = .ok (.iaload, 1) := by decide +kernel
theorem dX7_writePerson_131 : decode cX7_writePerson 131 = .ok (.invokevirtual 40, 3) := by decide +kernel
theorem dX7_writePerson_134 : decode cX7_writePerson 134 = .ok (.iinc 4 1, 3) := by decide +kernel
theorem dX7_writePerson_137 : decode cX7_writePerson 137 = .ok (.goto (-55), 3) := by decide +kernel
theorem dX7_writePerson_140 : decode cX7_writePerson 140 = .ok (.aload_n 0, 1) := by decide +kernel
theorem dX7_writePerson_141 : decode cX7_writePerson 141 = .ok (.getfield 13, 3) := by decide +kernel
theorem dX7_writePerson_144 : decode cX7_writePerson 144 = .ok (.ireturn, 1) := by decide +kernel
theorem dX7_writeBeams_0 : decode cX7_writeBeams 0 = .ok (.aload_n 0, 1) := by decide +kernel
theorem dX7_writeBeams_1 : decode cX7_writeBeams 1 = .ok (.iconst 0, 1) := by decide +kernel
theorem dX7_writeBeams_2 : decode cX7_writeBeams 2 = .ok (.putfield 13, 3) := by decide +kernel
theorem dX7_writeBeams_5 : decode cX7_writeBeams 5 = .ok (.iconst 0, 1) := by decide +kernel
theorem dX7_writeBeams_6 : decode cX7_writeBeams 6 = .ok (.istore_n 2, 1) := by decide +kernel
theorem dX7_writeBeams_7 : decode cX7_writeBeams 7 = .ok (.iload_n 2, 1) := by decide +kernel
theorem dX7_writeBeams_8 : decode cX7_writeBeams 8 = .ok (.aload_n 1, 1) := by decide +kernel
theorem dX7_writeBeams_9 : decode cX7_writeBeams 9 = .ok (.getfield 54, 3) := by decide +kernel
theorem dX7_writeBeams_12 : decode cX7_writeBeams 12 = .ok (.if_icmp .ge 85, 3) := by decide +kernel
theorem dX7_writeBeams_15 : decode cX7_writeBeams 15 = .ok (.iload_n 2, 1) := by decide +kernel
theorem dX7_writeBeams_16 : decode cX7_writeBeams 16 = .ok (.ifCond .le 9, 3) := by decide +kernel
theorem dX7_writeBeams_19 : decode cX7_writeBeams 19 = .ok (.aload_n 0, 1) := by decide +kernel
theorem dX7_writeBeams_20 : decode cX7_writeBeams 20 = .ok (.bipush 32, 2) := by decide +kernel
theorem dX7_writeBeams_22 : decode cX7_writeBeams 22 = .ok (.invokevirtual 23, 3) := by decide +kernel
theorem dX7_writeBeams_25 : decode cX7_writeBeams 25 = .ok (.aload_n 0, 1) := by decide +kernel
theorem dX7_writeBeams_26 : decode cX7_writeBeams 26 = .ok (.aload_n 1, 1) := by decide +kernel
theorem dX7_writeBeams_27 : decode cX7_writeBeams 27 = .ok (.getfield 57, 3) := by decide +kernel
theorem dX7_writeBeams_30 : decode cX7_writeBeams 30 = .ok (.iload_n 2, 1) := by decide +kernel
theorem dX7_writeBeams_31 : decode cX7_writeBeams 31 = .ok (.iaload, 1) := by decide +kernel
theorem dX7_writeBeams_32 : decode cX7_writeBeams 32 = .ok (.invokevirtual 40, 3) := by decide +kernel
theorem dX7_writeBeams_35 : decode cX7_writeBeams 35 = .ok (.aload_n 0, 1) := by decide +kernel
theorem dX7_writeBeams_36 : decode cX7_writeBeams 36 = .ok (.bipush 45, 2) := by decide +kernel
theorem dX7_writeBeams_38 : decode cX7_writeBeams 38 = .ok (.invokevirtual 23, 3) := by decide +kernel
theorem dX7_writeBeams_41 : decode cX7_writeBeams 41 = .ok (.aload_n 0, 1) := by decide +kernel
theorem dX7_writeBeams_42 : decode cX7_writeBeams 42 = .ok (.aload_n 1, 1) := by decide +kernel
theorem dX7_writeBeams_43 : decode cX7_writeBeams 43 = .ok (.getfield 60, 3) := by decide +kernel
theorem dX7_writeBeams_46 : decode cX7_writeBeams 46 = .ok (.iload_n 2, 1) := by decide +kernel
theorem dX7_writeBeams_47 : decode cX7_writeBeams 47 = .ok (.iaload, 1) := by decide +kernel
theorem dX7_writeBeams_48 : decode cX7_writeBeams 48 = .ok (.invokevirtual 40, 3) := by decide +kernel
theorem dX7_writeBeams_51 : decode cX7_writeBeams 51 = .ok (.aload_n 0, 1) := by decide +kernel
theorem dX7_writeBeams_52 : decode cX7_writeBeams 52 = .ok (.bipush 60, 2) := by decide +kernel
theorem dX7_writeBeams_54 : decode cX7_writeBeams 54 = .ok (.invokevirtual 23, 3) := by decide +kernel
theorem dX7_writeBeams_57 : decode cX7_writeBeams 57 = .ok (.aload_n 0, 1) := by decide +kernel
theorem dX7_writeBeams_58 : decode cX7_writeBeams 58 = .ok (.aload_n 1, 1) := by decide +kernel
theorem dX7_writeBeams_59 : decode cX7_writeBeams 59 = .ok (.getfield 63, 3) := by decide +kernel
theorem dX7_writeBeams_62 : decode cX7_writeBeams 62 = .ok (.iload_n 2, 1) := by decide +kernel
theorem dX7_writeBeams_63 : decode cX7_writeBeams 63 = .ok (.iaload, 1) := by decide +kernel
theorem dX7_writeBeams_64 : decode cX7_writeBeams 64 = .ok (.invokevirtual 40, 3) := by decide +kernel
theorem dX7_writeBeams_67 : decode cX7_writeBeams 67 = .ok (.iconst 0, 1) := by decide +kernel
theorem dX7_writeBeams_68 : decode cX7_writeBeams 68 = .ok (.istore_n 3, 1) := by decide +kernel
theorem dX7_writeBeams_69 : decode cX7_writeBeams 69 = .ok (.iload_n 3, 1) := by decide +kernel
theorem dX7_writeBeams_70 : decode cX7_writeBeams 70 = .ok (.aload_n 1, 1) := by decide +kernel
theorem dX7_writeBeams_71 : decode cX7_writeBeams 71 = .ok (.getfield 66, 3) := by decide +kernel
theorem dX7_writeBeams_74 : decode cX7_writeBeams 74 = .ok (.iload_n 2, 1) := by decide +kernel
theorem dX7_writeBeams_75 : decode cX7_writeBeams 75 = .ok (.iaload, 1) := by decide +kernel
theorem dX7_writeBeams_76 : decode cX7_writeBeams 76 = .ok (.if_icmp .ge 15, 3) := by decide +kernel
theorem dX7_writeBeams_79 : decode cX7_writeBeams 79 = .ok (.aload_n 0, 1) := by decide +kernel
theorem dX7_writeBeams_80 : decode cX7_writeBeams 80 = .ok (.bipush 33, 2) := by decide +kernel
theorem dX7_writeBeams_82 : decode cX7_writeBeams 82 = .ok (.invokevirtual 23, 3) := by decide +kernel
theorem dX7_writeBeams_85 : decode cX7_writeBeams 85 = .ok (.iinc 3 1, 3) := by decide +kernel
theorem dX7_writeBeams_88 : decode cX7_writeBeams 88 = .ok (.goto (-19), 3) := by decide +kernel
theorem dX7_writeBeams_91 : decode cX7_writeBeams 91 = .ok (.iinc 2 1, 3) := by decide +kernel
theorem dX7_writeBeams_94 : decode cX7_writeBeams 94 = .ok (.goto (-87), 3) := by decide +kernel
theorem dX7_writeBeams_97 : decode cX7_writeBeams 97 = .ok (.aload_n 0, 1) := by decide +kernel
theorem dX7_writeBeams_98 : decode cX7_writeBeams 98 = .ok (.getfield 13, 3) := by decide +kernel
theorem dX7_writeBeams_101 : decode cX7_writeBeams 101 = .ok (.ireturn, 1) := by decide +kernel
theorem dX7_put_0 : decode cX7_put 0 = .ok (.aload_n 0, 1) := by decide +kernel
theorem dX7_put_1 : decode cX7_put 1 = .ok (.getfield 13, 3) := by decide +kernel
theorem dX7_put_4 : decode cX7_put 4 = .ok (.bipush 64, 2) := by decide +kernel
theorem dX7_put_6 : decode cX7_put 6 = .ok (.if_icmp .ge 23, 3) := by decide +kernel
theorem dX7_put_9 : decode cX7_put 9 = .ok (.aload_n 0, 1) := by decide +kernel
theorem dX7_put_10 : decode cX7_put 10 = .ok (.getfield 9, 3) := by decide +kernel
theorem dX7_put_13 : decode cX7_put 13 = .ok (.aload_n 0, 1) := by decide +kernel
theorem dX7_put_14 : decode cX7_put 14 = .ok (.getfield 13, 3) := by decide +kernel
theorem dX7_put_17 : decode cX7_put 17 = .ok (.iload_n 1, 1) := by decide +kernel
theorem dX7_put_18 : decode cX7_put 18 = .ok (.castore, 1) := by decide +kernel
theorem dX7_put_19 : decode cX7_put 19 = .ok (.aload_n 0, 1) := by decide +kernel
theorem dX7_put_20 : decode cX7_put 20 = .ok (.dup, 1) := by decide +kernel
theorem dX7_put_21 : decode cX7_put 21 = .ok (.getfield 13, 3) := by decide +kernel
theorem dX7_put_24 : decode cX7_put 24 = .ok (.iconst 1, 1) := by decide +kernel
theorem dX7_put_25 : decode cX7_put 25 = .ok (.iadd, 1) := by decide +kernel
theorem dX7_put_26 : decode cX7_put 26 = .ok (.putfield 13, 3) := by decide +kernel
theorem dX7_put_29 : decode cX7_put 29 = .ok (.return_, 1) := by decide +kernel
theorem dX7_putNumber_0 : decode cX7_putNumber 0 = .ok (.iload_n 1, 1) := by decide +kernel
theorem dX7_putNumber_1 : decode cX7_putNumber 1 = .ok (.bipush 9, 2) := by decide +kernel
theorem dX7_putNumber_3 : decode cX7_putNumber 3 = .ok (.if_icmp .le 15, 3) := by decide +kernel
theorem dX7_putNumber_6 : decode cX7_putNumber 6 = .ok (.aload_n 0, 1) := by decide +kernel
theorem dX7_putNumber_7 : decode cX7_putNumber 7 = .ok (.bipush 48, 2) := by decide +kernel
theorem dX7_putNumber_9 : decode cX7_putNumber 9 = .ok (.iload_n 1, 1) := by decide +kernel
theorem dX7_putNumber_10 : decode cX7_putNumber 10 = .ok (.bipush 10, 2) := by decide +kernel
theorem dX7_putNumber_12 : decode cX7_putNumber 12 = .ok (.idiv, 1) := by decide +kernel
theorem dX7_putNumber_13 : decode cX7_putNumber 13 = .ok (.iadd, 1) := by decide +kernel
theorem dX7_putNumber_14 : decode cX7_putNumber 14 = .ok (.i2c, 1) := by decide +kernel
theorem dX7_putNumber_15 : decode cX7_putNumber 15 = .ok (.invokevirtual 23, 3) := by decide +kernel
theorem dX7_putNumber_18 : decode cX7_putNumber 18 = .ok (.aload_n 0, 1) := by decide +kernel
theorem dX7_putNumber_19 : decode cX7_putNumber 19 = .ok (.bipush 48, 2) := by decide +kernel
theorem dX7_putNumber_21 : decode cX7_putNumber 21 = .ok (.iload_n 1, 1) := by decide +kernel
theorem dX7_putNumber_22 : decode cX7_putNumber 22 = .ok (.bipush 10, 2) := by decide +kernel
theorem dX7_putNumber_24 : decode cX7_putNumber 24 = .ok (.irem, 1) := by decide +kernel
theorem dX7_putNumber_25 : decode cX7_putNumber 25 = .ok (.iadd, 1) := by decide +kernel
theorem dX7_putNumber_26 : decode cX7_putNumber 26 = .ok (.i2c, 1) := by decide +kernel
theorem dX7_putNumber_27 : decode cX7_putNumber 27 = .ok (.invokevirtual 23, 3) := by decide +kernel
theorem dX7_putNumber_30 : decode cX7_putNumber 30 = .ok (.return_, 1) := by decide +kernel
theorem dX8_init_0 : decode cX8_init 0 = .ok (.aload_n 0, 1) := by decide +kernel
theorem dX8_init_1 : decode cX8_init 1 = .ok (.invokespecial 1, 3) := by decide +kernel
theorem dX8_init_4 : decode cX8_init 4 = .ok (.aload_n 0, 1) := by decide +kernel
theorem dX8_init_5 : decode cX8_init 5 = .ok (.bipush 6, 2) := by decide +kernel
theorem dX8_init_7 : decode cX8_init 7 = .ok (.newarray .int, 2) := by decide +kernel
theorem dX8_init_9 : decode cX8_init 9 = .ok (.putfield 9, 3) := by decide +kernel
theorem dX8_init_12 : decode cX8_init 12 = .ok (.aload_n 0, 1) := by decide +kernel
theorem dX8_init_13 : decode cX8_init 13 = .ok (.bipush 6, 2) := by decide +kernel
theorem dX8_init_15 : decode cX8_init 15 = .ok (.newarray .int, 2) := by decide +kernel
theorem dX8_init_17 : decode cX8_init 17 = .ok (.putfield 13, 3) := by decide +kernel
theorem dX8_init_20 : decode cX8_init 20 = .ok (.aload_n 0, 1) := by decide +kernel
theorem dX8_init_21 : decode cX8_init 21 = .ok (.bipush 6, 2) := by decide +kernel
theorem dX8_init_23 : decode cX8_init 23 = .ok (.newarray .boolean, 2) := by decide +kernel
theorem dX8_init_25 : decode cX8_init 25 = .ok (.putfield 16, 3) := by decide +kernel
theorem dX8_init_28 : decode cX8_init 28 = .ok (.aload_n 0, 1) := by decide +kernel
theorem dX8_init_29 : decode cX8_init 29 = .ok (.bipush 6, 2) := by decide +kernel
theorem dX8_init_31 : decode cX8_init 31 = .ok (.newarray .int, 2) := by decide +kernel
theorem dX8_init_33 : decode cX8_init 33 = .ok (.putfield 20, 3) := by decide +kernel
theorem dX8_init_36 : decode cX8_init 36 = .ok (.aload_n 0, 1) := by decide +kernel
theorem dX8_init_37 : decode cX8_init 37 = .ok (.bipush 6, 2) := by decide +kernel
theorem dX8_init_39 : decode cX8_init 39 = .ok (.newarray .int, 2) := by decide +kernel
theorem dX8_init_41 : decode cX8_init 41 = .ok (.putfield 23, 3) := by decide +kernel
theorem dX8_init_44 : decode cX8_init 44 = .ok (.aload_n 0, 1) := by decide +kernel
theorem dX8_init_45 : decode cX8_init 45 = .ok (.bipush 6, 2) := by decide +kernel
theorem dX8_init_47 : decode cX8_init 47 = .ok (.bipush 6, 2) := by decide +kernel
theorem dX8_init_49 : decode cX8_init 49 = .ok (.multianewarray 26 2, 4) := by decide +kernel
theorem dX8_init_53 : decode cX8_init 53 = .ok (.putfield 28, 3) := by decide +kernel
theorem dX8_init_56 : decode cX8_init 56 = .ok (.aload_n 0, 1) := by decide +kernel
theorem dX8_init_57 : decode cX8_init 57 = .ok (.bipush 6, 2) := by decide +kernel
theorem dX8_init_59 : decode cX8_init 59 = .ok (.newarray .int, 2) := by decide +kernel
theorem dX8_init_61 : decode cX8_init 61 = .ok (.putfield 31, 3) := by decide +kernel
theorem dX8_init_64 : decode cX8_init 64 = .ok (.return_, 1) := by decide +kernel
theorem dX8_isTilt_0 : decode cX8_isTilt 0 = .ok (.iload_n 0, 1) := by decide +kernel
theorem dX8_isTilt_1 : decode cX8_isTilt 1 = .ok (.bipush (-20), 2) := by decide +kernel
theorem dX8_isTilt_3 : decode cX8_isTilt 3 = .ok (.if_icmp .lt 13, 3) := by decide +kernel
theorem dX8_isTilt_6 : decode cX8_isTilt 6 = .ok (.iload_n 0, 1) := by decide +kernel
theorem dX8_isTilt_7 : decode cX8_isTilt 7 = .ok (.bipush 20, 2) := by decide +kernel
theorem dX8_isTilt_9 : decode cX8_isTilt 9 = .ok (.if_icmp .gt 7, 3) := by decide +kernel
theorem dX8_isTilt_12 : decode cX8_isTilt 12 = .ok (.iconst 1, 1) := by decide +kernel
theorem dX8_isTilt_13 : decode cX8_isTilt 13 = .ok (.goto 4, 3) := by decide +kernel
theorem dX8_isTilt_16 : decode cX8_isTilt 16 = .ok (.iconst 0, 1) := by decide +kernel
theorem dX8_isTilt_17 : decode cX8_isTilt 17 = .ok (.ireturn, 1) := by decide +kernel
theorem dX8_isHabit_0 : decode cX8_isHabit 0 = .ok (.iload_n 0, 1) := by decide +kernel
theorem dX8_isHabit_1 : decode cX8_isHabit 1 = .ok (.ifCond .lt 13, 3) := by decide +kernel
theorem dX8_isHabit_4 : decode cX8_isHabit 4 = .ok (.iload_n 0, 1) := by decide +kernel
theorem dX8_isHabit_5 : decode cX8_isHabit 5 = .ok (.bipush 9, 2) := by decide +kernel
theorem dX8_isHabit_7 : decode cX8_isHabit 7 = .ok (.if_icmp .gt 7, 3) := by decide +kernel
theorem dX8_isHabit_10 : decode cX8_isHabit 10 = .ok (.iconst 1, 1) := by decide +kernel
theorem dX8_isHabit_11 : decode cX8_isHabit 11 = .ok (.goto 4, 3) := by decide +kernel
theorem dX8_isHabit_14 : decode cX8_isHabit 14 = .ok (.iconst 0, 1) := by decide +kernel
theorem dX8_isHabit_15 : decode cX8_isHabit 15 = .ok (.ireturn, 1) := by decide +kernel
theorem dX8_isWeight_0 : decode cX8_isWeight 0 = .ok (.iload_n 0, 1) := by decide +kernel
theorem dX8_isWeight_1 : decode cX8_isWeight 1 = .ok (.ifCond .lt 13, 3) := by decide +kernel
theorem dX8_isWeight_4 : decode cX8_isWeight 4 = .ok (.iload_n 0, 1) := by decide +kernel
theorem dX8_isWeight_5 : decode cX8_isWeight 5 = .ok (.bipush 9, 2) := by decide +kernel
theorem dX8_isWeight_7 : decode cX8_isWeight 7 = .ok (.if_icmp .gt 7, 3) := by decide +kernel
theorem dX8_isWeight_10 : decode cX8_isWeight 10 = .ok (.iconst 1, 1) := by decide +kernel
theorem dX8_isWeight_11 : decode cX8_isWeight 11 = .ok (.goto 4, 3) := by decide +kernel
theorem dX8_isWeight_14 : decode cX8_isWeight 14 = .ok (.iconst 0, 1) := by decide +kernel
theorem dX8_isWeight_15 : decode cX8_isWeight 15 = .ok (.ireturn, 1) := by decide +kernel
theorem dX8_isStrength_0 : decode cX8_isStrength 0 = .ok (.iload_n 0, 1) := by decide +kernel
theorem dX8_isStrength_1 : decode cX8_isStrength 1 = .ok (.iconst 1, 1) := by decide +kernel
theorem dX8_isStrength_2 : decode cX8_isStrength 2 = .ok (.if_icmp .lt 13, 3) := by decide +kernel
theorem dX8_isStrength_5 : decode cX8_isStrength 5 = .ok (.iload_n 0, 1) := by decide +kernel
theorem dX8_isStrength_6 : decode cX8_isStrength 6 = .ok (.bipush 9, 2) := by decide +kernel
theorem dX8_isStrength_8 : decode cX8_isStrength 8 = .ok (.if_icmp .gt 7, 3) := by decide +kernel
theorem dX8_isStrength_11 : decode cX8_isStrength 11 = .ok (.iconst 1, 1) := by decide +kernel
theorem dX8_isStrength_12 : decode cX8_isStrength 12 = .ok (.goto 4, 3) := by decide +kernel
theorem dX8_isStrength_15 : decode cX8_isStrength 15 = .ok (.iconst 0, 1) := by decide +kernel
theorem dX8_isStrength_16 : decode cX8_isStrength 16 = .ok (.ireturn, 1) := by decide +kernel
theorem dX8_copyFrom_0 : decode cX8_copyFrom 0 = .ok (.iconst 0, 1) := by decide +kernel
theorem dX8_copyFrom_1 : decode cX8_copyFrom 1 = .ok (.istore_n 2, 1) := by decide +kernel
theorem dX8_copyFrom_2 : decode cX8_copyFrom 2 = .ok (.iload_n 2, 1) := by decide +kernel
theorem dX8_copyFrom_3 : decode cX8_copyFrom 3 = .ok (.bipush 6, 2) := by decide +kernel
theorem dX8_copyFrom_5 : decode cX8_copyFrom 5 = .ok (.if_icmp .ge 88, 3) := by decide +kernel
theorem dX8_copyFrom_8 : decode cX8_copyFrom 8 = .ok (.aload_n 0, 1) := by decide +kernel
theorem dX8_copyFrom_9 : decode cX8_copyFrom 9 = .ok (.getfield 9, 3) := by decide +kernel
theorem dX8_copyFrom_12 : decode cX8_copyFrom 12 = .ok (.iload_n 2, 1) := by decide +kernel
theorem dX8_copyFrom_13 : decode cX8_copyFrom 13 = .ok (.aload_n 1, 1) := by decide +kernel
theorem dX8_copyFrom_14 : decode cX8_copyFrom 14 = .ok (.getfield 9, 3) := by decide +kernel
theorem dX8_copyFrom_17 : decode cX8_copyFrom 17 = .ok (.iload_n 2, 1) := by decide +kernel
theorem dX8_copyFrom_18 : decode cX8_copyFrom 18 = .ok (.iaload, 1) := by decide +kernel
theorem dX8_copyFrom_19 : decode cX8_copyFrom 19 = .ok (.iastore, 1) := by decide +kernel
theorem dX8_copyFrom_20 : decode cX8_copyFrom 20 = .ok (.aload_n 0, 1) := by decide +kernel
theorem dX8_copyFrom_21 : decode cX8_copyFrom 21 = .ok (.getfield 13, 3) := by decide +kernel
theorem dX8_copyFrom_24 : decode cX8_copyFrom 24 = .ok (.iload_n 2, 1) := by decide +kernel
theorem dX8_copyFrom_25 : decode cX8_copyFrom 25 = .ok (.aload_n 1, 1) := by decide +kernel
theorem dX8_copyFrom_26 : decode cX8_copyFrom 26 = .ok (.getfield 13, 3) := by decide +kernel
theorem dX8_copyFrom_29 : decode cX8_copyFrom 29 = .ok (.iload_n 2, 1) := by decide +kernel
theorem dX8_copyFrom_30 : decode cX8_copyFrom 30 = .ok (.iaload, 1) := by decide +kernel
theorem dX8_copyFrom_31 : decode cX8_copyFrom 31 = .ok (.iastore, 1) := by decide +kernel
theorem dX8_copyFrom_32 : decode cX8_copyFrom 32 = .ok (.aload_n 0, 1) := by decide +kernel
theorem dX8_copyFrom_33 : decode cX8_copyFrom 33 = .ok (.getfield 16, 3) := by decide +kernel
theorem dX8_copyFrom_36 : decode cX8_copyFrom 36 = .ok (.iload_n 2, 1) := by decide +kernel
theorem dX8_copyFrom_37 : decode cX8_copyFrom 37 = .ok (.aload_n 1, 1) := by decide +kernel
theorem dX8_copyFrom_38 : decode cX8_copyFrom 38 = .ok (.getfield 16, 3) := by decide +kernel
theorem dX8_copyFrom_41 : decode cX8_copyFrom 41 = .ok (.iload_n 2, 1) := by decide +kernel
theorem dX8_copyFrom_42 : decode cX8_copyFrom 42 = .ok (.baload, 1) := by decide +kernel
theorem dX8_copyFrom_43 : decode cX8_copyFrom 43 = .ok (.bastore, 1) := by decide +kernel
theorem dX8_copyFrom_44 : decode cX8_copyFrom 44 = .ok (.aload_n 0, 1) := by decide +kernel
theorem dX8_copyFrom_45 : decode cX8_copyFrom 45 = .ok (.getfield 20, 3) := by decide +kernel
theorem dX8_copyFrom_48 : decode cX8_copyFrom 48 = .ok (.iload_n 2, 1) := by decide +kernel
theorem dX8_copyFrom_49 : decode cX8_copyFrom 49 = .ok (.aload_n 1, 1) := by decide +kernel
theorem dX8_copyFrom_50 : decode cX8_copyFrom 50 = .ok (.getfield 20, 3) := by decide +kernel
theorem dX8_copyFrom_53 : decode cX8_copyFrom 53 = .ok (.iload_n 2, 1) := by decide +kernel
theorem dX8_copyFrom_54 : decode cX8_copyFrom 54 = .ok (.iaload, 1) := by decide +kernel
theorem dX8_copyFrom_55 : decode cX8_copyFrom 55 = .ok (.iastore, 1) := by decide +kernel
theorem dX8_copyFrom_56 : decode cX8_copyFrom 56 = .ok (.aload_n 0, 1) := by decide +kernel
theorem dX8_copyFrom_57 : decode cX8_copyFrom 57 = .ok (.getfield 23, 3) := by decide +kernel
theorem dX8_copyFrom_60 : decode cX8_copyFrom 60 = .ok (.iload_n 2, 1) := by decide +kernel
theorem dX8_copyFrom_61 : decode cX8_copyFrom 61 = .ok (.aload_n 1, 1) := by decide +kernel
theorem dX8_copyFrom_62 : decode cX8_copyFrom 62 = .ok (.getfield 23, 3) := by decide +kernel
theorem dX8_copyFrom_65 : decode cX8_copyFrom 65 = .ok (.iload_n 2, 1) := by decide +kernel
theorem dX8_copyFrom_66 : decode cX8_copyFrom 66 = .ok (.iaload, 1) := by decide +kernel
theorem dX8_copyFrom_67 : decode cX8_copyFrom 67 = .ok (.iastore, 1) := by decide +kernel
theorem dX8_copyFrom_68 : decode cX8_copyFrom 68 = .ok (.aload_n 1, 1) := by decide +kernel
theorem dX8_copyFrom_69 : decode cX8_copyFrom 69 = .ok (.getfield 28, 3) := by decide +kernel
theorem dX8_copyFrom_72 : decode cX8_copyFrom 72 = .ok (.iload_n 2, 1) := by decide +kernel
theorem dX8_copyFrom_73 : decode cX8_copyFrom 73 = .ok (.aaload, 1) := by decide +kernel
theorem dX8_copyFrom_74 : decode cX8_copyFrom 74 = .ok (.iconst 0, 1) := by decide +kernel
theorem dX8_copyFrom_75 : decode cX8_copyFrom 75 = .ok (.aload_n 0, 1) := by decide +kernel
theorem dX8_copyFrom_76 : decode cX8_copyFrom 76 = .ok (.getfield 28, 3) := by decide +kernel
theorem dX8_copyFrom_79 : decode cX8_copyFrom 79 = .ok (.iload_n 2, 1) := by decide +kernel
theorem dX8_copyFrom_80 : decode cX8_copyFrom 80 = .ok (.aaload, 1) := by decide +kernel
theorem dX8_copyFrom_81 : decode cX8_copyFrom 81 = .ok (.iconst 0, 1) := by decide +kernel
theorem dX8_copyFrom_82 : decode cX8_copyFrom 82 = .ok (.bipush 6, 2) := by decide +kernel
theorem dX8_copyFrom_84 : decode cX8_copyFrom 84 = .ok (.invokestatic 34, 3) := by decide +kernel
theorem dX8_copyFrom_87 : decode cX8_copyFrom 87 = .ok (.iinc 2 1, 3) := by decide +kernel
theorem dX8_copyFrom_90 : decode cX8_copyFrom 90 = .ok (.goto (-88), 3) := by decide +kernel
theorem dX8_copyFrom_93 : decode cX8_copyFrom 93 = .ok (.aload_n 0, 1) := by decide +kernel
theorem dX8_copyFrom_94 : decode cX8_copyFrom 94 = .ok (.aload_n 1, 1) := by decide +kernel
theorem dX8_copyFrom_95 : decode cX8_copyFrom 95 = .ok (.getfield 40, 3) := by decide +kernel
theorem dX8_copyFrom_98 : decode cX8_copyFrom 98 = .ok (.putfield 40, 3) := by decide +kernel
theorem dX8_copyFrom_101 : decode cX8_copyFrom 101 = .ok (.return_, 1) := by decide +kernel
theorem dX8_holds_0 : decode cX8_holds 0 = .ok (.iload_n 1, 1) := by decide +kernel
theorem dX8_holds_1 : decode cX8_holds 1 = .ok (.ifCond .lt 15, 3) := by decide +kernel
theorem dX8_holds_4 : decode cX8_holds 4 = .ok (.iload_n 1, 1) := by decide +kernel
theorem dX8_holds_5 : decode cX8_holds 5 = .ok (.aload_n 0, 1) := by decide +kernel
theorem dX8_holds_6 : decode cX8_holds 6 = .ok (.getfield 40, 3) := by decide +kernel
theorem dX8_holds_9 : decode cX8_holds 9 = .ok (.if_icmp .ge 7, 3) := by decide +kernel
theorem dX8_holds_12 : decode cX8_holds 12 = .ok (.iconst 1, 1) := by decide +kernel
theorem dX8_holds_13 : decode cX8_holds 13 = .ok (.goto 4, 3) := by decide +kernel
theorem dX8_holds_16 : decode cX8_holds 16 = .ok (.iconst 0, 1) := by decide +kernel
theorem dX8_holds_17 : decode cX8_holds 17 = .ok (.ireturn, 1) := by decide +kernel
theorem dX8_isFull_0 : decode cX8_isFull 0 = .ok (.aload_n 0, 1) := by decide +kernel
theorem dX8_isFull_1 : decode cX8_isFull 1 = .ok (.getfield 40, 3) := by decide +kernel
theorem dX8_isFull_4 : decode cX8_isFull 4 = .ok (.bipush 6, 2) := by decide +kernel
theorem dX8_isFull_6 : decode cX8_isFull 6 = .ok (.if_icmp .lt 7, 3) := by decide +kernel
theorem dX8_isFull_9 : decode cX8_isFull 9 = .ok (.iconst 1, 1) := by decide +kernel
theorem dX8_isFull_10 : decode cX8_isFull 10 = .ok (.goto 4, 3) := by decide +kernel
theorem dX8_isFull_13 : decode cX8_isFull 13 = .ok (.iconst 0, 1) := by decide +kernel
theorem dX8_isFull_14 : decode cX8_isFull 14 = .ok (.ireturn, 1) := by decide +kernel
theorem dX8_admit_0 : decode cX8_admit 0 = .ok (.aload_n 0, 1) := by decide +kernel
theorem dX8_admit_1 : decode cX8_admit 1 = .ok (.getfield 40, 3) := by decide +kernel
theorem dX8_admit_4 : decode cX8_admit 4 = .ok (.istore_n 3, 1) := by decide +kernel
theorem dX8_admit_5 : decode cX8_admit 5 = .ok (.aload_n 0, 1) := by decide +kernel
theorem dX8_admit_6 : decode cX8_admit 6 = .ok (.getfield 9, 3) := by decide +kernel
theorem dX8_admit_9 : decode cX8_admit 9 = .ok (.iload_n 3, 1) := by decide +kernel
theorem dX8_admit_10 : decode cX8_admit 10 = .ok (.iload_n 1, 1) := by decide +kernel
theorem dX8_admit_11 : decode cX8_admit 11 = .ok (.iastore, 1) := by decide +kernel
theorem dX8_admit_12 : decode cX8_admit 12 = .ok (.aload_n 0, 1) := by decide +kernel
theorem dX8_admit_13 : decode cX8_admit 13 = .ok (.getfield 16, 3) := by decide +kernel
theorem dX8_admit_16 : decode cX8_admit 16 = .ok (.iload_n 3, 1) := by decide +kernel
theorem dX8_admit_17 : decode cX8_admit 17 = .ok (.iload_n 2, 1) := by decide +kernel
theorem dX8_admit_18 : decode cX8_admit 18 = .ok (.bastore, 1) := by decide +kernel
theorem dX8_admit_19 : decode cX8_admit 19 = .ok (.aload_n 0, 1) := by decide +kernel
theorem dX8_admit_20 : decode cX8_admit 20 = .ok (.dup, 1) := by decide +kernel
theorem dX8_admit_21 : decode cX8_admit 21 = .ok (.getfield 40, 3) := by decide +kernel
theorem dX8_admit_24 : decode cX8_admit 24 = .ok (.iconst 1, 1) := by decide +kernel
theorem dX8_admit_25 : decode cX8_admit 25 = .ok (.iadd, 1) := by decide +kernel
theorem dX8_admit_26 : decode cX8_admit 26 = .ok (.putfield 40, 3) := by decide +kernel
theorem dX8_admit_29 : decode cX8_admit 29 = .ok (.iload_n 3, 1) := by decide +kernel
theorem dX8_admit_30 : decode cX8_admit 30 = .ok (.ireturn, 1) := by decide +kernel
theorem dX8_setWeight_0 : decode cX8_setWeight 0 = .ok (.aload_n 0, 1) := by decide +kernel
theorem dX8_setWeight_1 : decode cX8_setWeight 1 = .ok (.getfield 28, 3) := by decide +kernel
theorem dX8_setWeight_4 : decode cX8_setWeight 4 = .ok (.iload_n 1, 1) := by decide +kernel
theorem dX8_setWeight_5 : decode cX8_setWeight 5 = .ok (.aaload, 1) := by decide +kernel
theorem dX8_setWeight_6 : decode cX8_setWeight 6 = .ok (.iload_n 2, 1) := by decide +kernel
theorem dX8_setWeight_7 : decode cX8_setWeight 7 = .ok (.iaload, 1) := by decide +kernel
theorem dX8_setWeight_8 : decode cX8_setWeight 8 = .ok (.istore 4, 2) := by decide +kernel
theorem dX8_setWeight_10 : decode cX8_setWeight 10 = .ok (.aload_n 0, 1) := by decide +kernel
theorem dX8_setWeight_11 : decode cX8_setWeight 11 = .ok (.getfield 28, 3) := by decide +kernel
theorem dX8_setWeight_14 : decode cX8_setWeight 14 = .ok (.iload_n 1, 1) := by decide +kernel
theorem dX8_setWeight_15 : decode cX8_setWeight 15 = .ok (.aaload, 1) := by decide +kernel
theorem dX8_setWeight_16 : decode cX8_setWeight 16 = .ok (.iload_n 2, 1) := by decide +kernel
theorem dX8_setWeight_17 : decode cX8_setWeight 17 = .ok (.iload_n 3, 1) := by decide +kernel
theorem dX8_setWeight_18 : decode cX8_setWeight 18 = .ok (.iastore, 1) := by decide +kernel
theorem dX8_setWeight_19 : decode cX8_setWeight 19 = .ok (.aload_n 0, 1) := by decide +kernel
theorem dX8_setWeight_20 : decode cX8_setWeight 20 = .ok (.getfield 28, 3) := by decide +kernel
theorem dX8_setWeight_23 : decode cX8_setWeight 23 = .ok (.iload_n 2, 1) := by decide +kernel
theorem dX8_setWeight_24 : decode cX8_setWeight 24 = .ok (.aaload, 1) := by decide +kernel
theorem dX8_setWeight_25 : decode cX8_setWeight 25 = .ok (.iload_n 1, 1) := by decide +kernel
theorem dX8_setWeight_26 : decode cX8_setWeight 26 = .ok (.iload_n 3, 1) := by decide +kernel
theorem dX8_setWeight_27 : decode cX8_setWeight 27 = .ok (.iastore, 1) := by decide +kernel
theorem dX8_setWeight_28 : decode cX8_setWeight 28 = .ok (.iload 4, 2) := by decide +kernel
theorem dX8_setWeight_30 : decode cX8_setWeight 30 = .ok (.ireturn, 1) := by decide +kernel
theorem dX8_setHabit_0 : decode cX8_setHabit 0 = .ok (.aload_n 0, 1) := by decide +kernel
theorem dX8_setHabit_1 : decode cX8_setHabit 1 = .ok (.getfield 13, 3) := by decide +kernel
theorem dX8_setHabit_4 : decode cX8_setHabit 4 = .ok (.iload_n 1, 1) := by decide +kernel
theorem dX8_setHabit_5 : decode cX8_setHabit 5 = .ok (.iaload, 1) := by decide +kernel
theorem dX8_setHabit_6 : decode cX8_setHabit 6 = .ok (.istore_n 3, 1) := by decide +kernel
theorem dX8_setHabit_7 : decode cX8_setHabit 7 = .ok (.aload_n 0, 1) := by decide +kernel
theorem dX8_setHabit_8 : decode cX8_setHabit 8 = .ok (.getfield 13, 3) := by decide +kernel
theorem dX8_setHabit_11 : decode cX8_setHabit 11 = .ok (.iload_n 1, 1) := by decide +kernel
theorem dX8_setHabit_12 : decode cX8_setHabit 12 = .ok (.iload_n 2, 1) := by decide +kernel
theorem dX8_setHabit_13 : decode cX8_setHabit 13 = .ok (.iastore, 1) := by decide +kernel
theorem dX8_setHabit_14 : decode cX8_setHabit 14 = .ok (.iload_n 3, 1) := by decide +kernel
theorem dX8_setHabit_15 : decode cX8_setHabit 15 = .ok (.ireturn, 1) := by decide +kernel
theorem dX8_sideOf_0 : decode cX8_sideOf 0 = .ok (.aload_n 0, 1) := by decide +kernel
theorem dX8_sideOf_1 : decode cX8_sideOf 1 = .ok (.getfield 9, 3) := by decide +kernel
theorem dX8_sideOf_4 : decode cX8_sideOf 4 = .ok (.iload_n 1, 1) := by decide +kernel
theorem dX8_sideOf_5 : decode cX8_sideOf 5 = .ok (.iaload, 1) := by decide +kernel
theorem dX8_sideOf_6 : decode cX8_sideOf 6 = .ok (.iconst 0, 1) := by decide +kernel
theorem dX8_sideOf_7 : decode cX8_sideOf 7 = .ok (.invokestatic 44, 3) := by decide +kernel
theorem dX8_sideOf_10 : decode cX8_sideOf 10 = .ok (.ireturn, 1) := by decide +kernel
theorem dX8_stepOf_0 : decode cX8_stepOf 0 = .ok (.bipush 10, 2) := by decide +kernel
theorem dX8_stepOf_2 : decode cX8_stepOf 2 = .ok (.aload_n 0, 1) := by decide +kernel
theorem dX8_stepOf_3 : decode cX8_stepOf 3 = .ok (.getfield 13, 3) := by decide +kernel
theorem dX8_stepOf_6 : decode cX8_stepOf 6 = .ok (.iload_n 1, 1) := by decide +kernel
theorem dX8_stepOf_7 : decode cX8_stepOf 7 = .ok (.iaload, 1) := by decide +kernel
theorem dX8_stepOf_8 : decode cX8_stepOf 8 = .ok (.isub, 1) := by decide +kernel
theorem dX8_stepOf_9 : decode cX8_stepOf 9 = .ok (.istore_n 2, 1) := by decide +kernel
theorem dX8_stepOf_10 : decode cX8_stepOf 10 = .ok (.aload_n 0, 1) := by decide +kernel
theorem dX8_stepOf_11 : decode cX8_stepOf 11 = .ok (.getfield 16, 3) := by decide +kernel
theorem dX8_stepOf_14 : decode cX8_stepOf 14 = .ok (.iload_n 1, 1) := by decide +kernel
theorem dX8_stepOf_15 : decode cX8_stepOf 15 = .ok (.baload, 1) := by decide +kernel
theorem dX8_stepOf_16 : decode cX8_stepOf 16 = .ok (.ifCond .eq 9, 3) := by decide +kernel
theorem dX8_stepOf_19 : decode cX8_stepOf 19 = .ok (.iload_n 2, 1) := by decide +kernel
theorem dX8_stepOf_20 : decode cX8_stepOf 20 = .ok (.iconst 2, 1) := by decide +kernel
theorem dX8_stepOf_21 : decode cX8_stepOf 21 = .ok (.idiv, 1) := by decide +kernel
theorem dX8_stepOf_22 : decode cX8_stepOf 22 = .ok (.goto 4, 3) := by decide +kernel
theorem dX8_stepOf_25 : decode cX8_stepOf 25 = .ok (.iload_n 2, 1) := by decide +kernel
theorem dX8_stepOf_26 : decode cX8_stepOf 26 = .ok (.ireturn, 1) := by decide +kernel
theorem dX8_friendCount_0 : decode cX8_friendCount 0 = .ok (.iconst 0, 1) := by decide +kernel
theorem dX8_friendCount_1 : decode cX8_friendCount 1 = .ok (.istore_n 2, 1) := by decide +kernel
theorem dX8_friendCount_2 : decode cX8_friendCount 2 = .ok (.iconst 0, 1) := by decide +kernel
theorem dX8_friendCount_3 : decode cX8_friendCount 3 = .ok (.istore_n 3, 1) := by decide +kernel
theorem dX8_friendCount_4 : decode cX8_friendCount 4 = .ok (.iload_n 3, 1) := by decide +kernel
theorem dX8_friendCount_5 : decode cX8_friendCount 5 = .ok (.aload_n 0, 1) := by decide +kernel
theorem dX8_friendCount_6 : decode cX8_friendCount 6 = .ok (.getfield 40, 3) := by decide +kernel
theorem dX8_friendCount_9 : decode cX8_friendCount 9 = .ok (.if_icmp .ge 23, 3) := by decide +kernel
theorem dX8_friendCount_12 : decode cX8_friendCount 12 = .ok (.aload_n 0, 1) := by decide +kernel
theorem dX8_friendCount_13 : decode cX8_friendCount 13 = .ok (.getfield 28, 3) := by decide +kernel
theorem dX8_friendCount_16 : decode cX8_friendCount 16 = .ok (.iload_n 1, 1) := by decide +kernel
theorem dX8_friendCount_17 : decode cX8_friendCount 17 = .ok (.aaload, 1) := by decide +kernel
theorem dX8_friendCount_18 : decode cX8_friendCount 18 = .ok (.iload_n 3, 1) := by decide +kernel
theorem dX8_friendCount_19 : decode cX8_friendCount 19 = .ok (.iaload, 1) := by decide +kernel
theorem dX8_friendCount_20 : decode cX8_friendCount 20 = .ok (.ifCond .eq 6, 3) := by decide +kernel
theorem dX8_friendCount_23 : decode cX8_friendCount 23 = .ok (.iinc 2 1, 3) := by decide +kernel
theorem dX8_friendCount_26 : decode cX8_friendCount 26 = .ok (.iinc 3 1, 3) := by decide +kernel
theorem dX8_friendCount_29 : decode cX8_friendCount 29 = .ok (.goto (-25), 3) := by decide +kernel
theorem dX8_friendCount_32 : decode cX8_friendCount 32 = .ok (.iload_n 2, 1) := by decide +kernel
theorem dX8_friendCount_33 : decode cX8_friendCount 33 = .ok (.ireturn, 1) := by decide +kernel
theorem dX8_weightsTogether_0 : decode cX8_weightsTogether 0 = .ok (.iconst 0, 1) := by decide +kernel
theorem dX8_weightsTogether_1 : decode cX8_weightsTogether 1 = .ok (.istore_n 2, 1) := by decide +kernel
theorem dX8_weightsTogether_2 : decode cX8_weightsTogether 2 = .ok (.iconst 0, 1) := by decide +kernel
theorem dX8_weightsTogether_3 : decode cX8_weightsTogether 3 = .ok (.istore_n 3, 1) := by decide +kernel
theorem dX8_weightsTogether_4 : decode cX8_weightsTogether 4 = .ok (.iload_n 3, 1) := by decide +kernel
theorem dX8_weightsTogether_5 : decode cX8_weightsTogether 5 = .ok (.aload_n 0, 1) := by decide +kernel
theorem dX8_weightsTogether_6 : decode cX8_weightsTogether 6 = .ok (.getfield 40, 3) := by decide +kernel
theorem dX8_weightsTogether_9 : decode cX8_weightsTogether 9 = .ok (.if_icmp .ge 20, 3) := by decide +kernel
theorem dX8_weightsTogether_12 : decode cX8_weightsTogether 12 = .ok (.iload_n 2, 1) := by decide +kernel
theorem dX8_weightsTogether_13 : decode cX8_weightsTogether 13 = .ok (.aload_n 0, 1) := by decide +kernel
theorem dX8_weightsTogether_14 : decode cX8_weightsTogether 14 = .ok (.getfield 28, 3) := by decide +kernel
theorem dX8_weightsTogether_17 : decode cX8_weightsTogether 17 = .ok (.iload_n 1, 1) := by decide +kernel
theorem dX8_weightsTogether_18 : decode cX8_weightsTogether 18 = .ok (.aaload, 1) := by decide +kernel
theorem dX8_weightsTogether_19 : decode cX8_weightsTogether 19 = .ok (.iload_n 3, 1) := by decide +kernel
theorem dX8_weightsTogether_20 : decode cX8_weightsTogether 20 = .ok (.iaload, 1) := by decide +kernel
theorem dX8_weightsTogether_21 : decode cX8_weightsTogether 21 = .ok (.iadd, 1) := by decide +kernel
theorem dX8_weightsTogether_22 : decode cX8_weightsTogether 22 = .ok (.istore_n 2, 1) := by decide +kernel
theorem dX8_weightsTogether_23 : decode cX8_weightsTogether 23 = .ok (.iinc 3 1, 3) := by decide +kernel
theorem dX8_weightsTogether_26 : decode cX8_weightsTogether 26 = .ok (.goto (-22), 3) := by decide +kernel
theorem dX8_weightsTogether_29 : decode cX8_weightsTogether 29 = .ok (.iload_n 2, 1) := by decide +kernel
theorem dX8_weightsTogether_30 : decode cX8_weightsTogether 30 = .ok (.ireturn, 1) := by decide +kernel
theorem dX8_difference_0 : decode cX8_difference 0 = .ok (.aload_n 0, 1) := by decide +kernel
theorem dX8_difference_1 : decode cX8_difference 1 = .ok (.getfield 9, 3) := by decide +kernel
theorem dX8_difference_4 : decode cX8_difference 4 = .ok (.iload_n 1, 1) := by decide +kernel
theorem dX8_difference_5 : decode cX8_difference 5 = .ok (.iaload, 1) := by decide +kernel
theorem dX8_difference_6 : decode cX8_difference 6 = .ok (.aload_n 0, 1) := by decide +kernel
theorem dX8_difference_7 : decode cX8_difference 7 = .ok (.getfield 9, 3) := by decide +kernel
theorem dX8_difference_10 : decode cX8_difference 10 = .ok (.iload_n 2, 1) := by decide +kernel
theorem dX8_difference_11 : decode cX8_difference 11 = .ok (.iaload, 1) := by decide +kernel
theorem dX8_difference_12 : decode cX8_difference 12 = .ok (.isub, 1) := by decide +kernel
theorem dX8_difference_13 : decode cX8_difference 13 = .ok (.invokestatic 50, 3) := by decide +kernel
theorem dX8_difference_16 : decode cX8_difference 16 = .ok (.ireturn, 1) := by decide +kernel
theorem dX8_meanByFriends_0 : decode cX8_meanByFriends 0 = .ok (.aload_n 0, 1) := by decide +kernel
theorem dX8_meanByFriends_1 : decode cX8_meanByFriends 1 = .ok (.getfield 13, 3) := by decide +kernel
theorem dX8_meanByFriends_4 : decode cX8_meanByFriends 4 = .ok (.iload_n 1, 1) := by decide +kernel
theorem dX8_meanByFriends_5 : decode cX8_meanByFriends 5 = .ok (.iaload, 1) := by decide +kernel
theorem dX8_meanByFriends_6 : decode cX8_meanByFriends 6 = .ok (.iconst 1, 1) := by decide +kernel
theorem dX8_meanByFriends_7 : decode cX8_meanByFriends 7 = .ok (.iadd, 1) := by decide +kernel
theorem dX8_meanByFriends_8 : decode cX8_meanByFriends 8 = .ok (.istore_n 2, 1) := by decide +kernel
theorem dX8_meanByFriends_9 : decode cX8_meanByFriends 9 = .ok (.aload_n 0, 1) := by decide +kernel
theorem dX8_meanByFriends_10 : decode cX8_meanByFriends 10 = .ok (.getfield 9, 3) := by decide +kernel
theorem dX8_meanByFriends_13 : decode cX8_meanByFriends 13 = .ok (.iload_n 1, 1) := by decide +kernel
theorem dX8_meanByFriends_14 : decode cX8_meanByFriends 14 = .ok (.iaload, 1) := by decide +kernel
theorem dX8_meanByFriends_15 : decode cX8_meanByFriends 15 = .ok (.iload_n 2, 1) := by decide +kernel
theorem dX8_meanByFriends_16 : decode cX8_meanByFriends 16 = .ok (.imul, 1) := by decide +kernel
theorem dX8_meanByFriends_17 : decode cX8_meanByFriends 17 = .ok (.istore_n 3, 1) := by decide +kernel
theorem dX8_meanByFriends_18 : decode cX8_meanByFriends 18 = .ok (.iconst 0, 1) := by decide +kernel
theorem dX8_meanByFriends_19 : decode cX8_meanByFriends 19 = .ok (.istore 4, 2) := by decide +kernel
theorem dX8_meanByFriends_21 : decode cX8_meanByFriends 21 = .ok (.iload 4, 2) := by decide +kernel
theorem dX8_meanByFriends_23 : decode cX8_meanByFriends 23 = .ok (.aload_n 0, 1) := by decide +kernel
theorem dX8_meanByFriends_24 : decode cX8_meanByFriends 24 = .ok (.getfield 40, 3) := by decide +kernel
theorem dX8_meanByFriends_27 : decode cX8_meanByFriends 27 = .ok (.if_icmp .ge 38, 3) := by decide +kernel
theorem dX8_meanByFriends_30 : decode cX8_meanByFriends 30 = .ok (.aload_n 0, 1) := by decide +kernel
theorem dX8_meanByFriends_31 : decode cX8_meanByFriends 31 = .ok (.getfield 28, 3) := by decide +kernel
theorem dX8_meanByFriends_34 : decode cX8_meanByFriends 34 = .ok (.iload_n 1, 1) := by decide +kernel
theorem dX8_meanByFriends_35 : decode cX8_meanByFriends 35 = .ok (.aaload, 1) := by decide +kernel
theorem dX8_meanByFriends_36 : decode cX8_meanByFriends 36 = .ok (.iload 4, 2) := by decide +kernel
theorem dX8_meanByFriends_38 : decode cX8_meanByFriends 38 = .ok (.iaload, 1) := by decide +kernel
theorem dX8_meanByFriends_39 : decode cX8_meanByFriends 39 = .ok (.istore 5, 2) := by decide +kernel
theorem dX8_meanByFriends_41 : decode cX8_meanByFriends 41 = .ok (.iload_n 3, 1) := by decide +kernel
theorem dX8_meanByFriends_42 : decode cX8_meanByFriends 42 = .ok (.aload_n 0, 1) := by decide +kernel
theorem dX8_meanByFriends_43 : decode cX8_meanByFriends 43 = .ok (.getfield 9, 3) := by decide +kernel
theorem dX8_meanByFriends_46 : decode cX8_meanByFriends 46 = .ok (.iload 4, 2) := by decide +kernel
theorem dX8_meanByFriends_48 : decode cX8_meanByFriends 48 = .ok (.iaload, 1) := by decide +kernel
theorem dX8_meanByFriends_49 : decode cX8_meanByFriends 49 = .ok (.iload 5, 2) := by decide +kernel
theorem dX8_meanByFriends_51 : decode cX8_meanByFriends 51 = .ok (.imul, 1) := by decide +kernel
theorem dX8_meanByFriends_52 : decode cX8_meanByFriends 52 = .ok (.iadd, 1) := by decide +kernel
theorem dX8_meanByFriends_53 : decode cX8_meanByFriends 53 = .ok (.istore_n 3, 1) := by decide +kernel
theorem dX8_meanByFriends_54 : decode cX8_meanByFriends 54 = .ok (.iload_n 2, 1) := by decide +kernel
theorem dX8_meanByFriends_55 : decode cX8_meanByFriends 55 = .ok (.iload 5, 2) := by decide +kernel
theorem dX8_meanByFriends_57 : decode cX8_meanByFriends 57 = .ok (.iadd, 1) := by decide +kernel
theorem dX8_meanByFriends_58 : decode cX8_meanByFriends 58 = .ok (.istore_n 2, 1) := by decide +kernel
theorem dX8_meanByFriends_59 : decode cX8_meanByFriends 59 = .ok (.iinc 4 1, 3) := by decide +kernel
theorem dX8_meanByFriends_62 : decode cX8_meanByFriends 62 = .ok (.goto (-41), 3) := by decide +kernel
theorem dX8_meanByFriends_65 : decode cX8_meanByFriends 65 = .ok (.iload_n 2, 1) := by decide +kernel
theorem dX8_meanByFriends_66 : decode cX8_meanByFriends 66 = .ok (.iconst 1, 1) := by decide +kernel
theorem dX8_meanByFriends_67 : decode cX8_meanByFriends 67 = .ok (.if_icmp .ge 7, 3) := by decide +kernel
theorem dX8_meanByFriends_70 : decode cX8_meanByFriends 70 = .ok (.iconst 0, 1) := by decide +kernel
theorem dX8_meanByFriends_71 : decode cX8_meanByFriends 71 = .ok (.goto 6, 3) := by decide +kernel
theorem dX8_meanByFriends_74 : decode cX8_meanByFriends 74 = .ok (.iload_n 3, 1) := by decide +kernel
theorem dX8_meanByFriends_75 : decode cX8_meanByFriends 75 = .ok (.iload_n 2, 1) := by decide +kernel
theorem dX8_meanByFriends_76 : decode cX8_meanByFriends 76 = .ok (.idiv, 1) := by decide +kernel
theorem dX8_meanByFriends_77 : decode cX8_meanByFriends 77 = .ok (.ireturn, 1) := by decide +kernel
theorem dX8_meanByAdding_0 : decode cX8_meanByAdding 0 = .ok (.iconst 0, 1) := by decide +kernel
theorem dX8_meanByAdding_1 : decode cX8_meanByAdding 1 = .ok (.istore_n 2, 1) := by decide +kernel
theorem dX8_meanByAdding_2 : decode cX8_meanByAdding 2 = .ok (.iconst 0, 1) := by decide +kernel
theorem dX8_meanByAdding_3 : decode cX8_meanByAdding 3 = .ok (.istore_n 3, 1) := by decide +kernel
theorem dX8_meanByAdding_4 : decode cX8_meanByAdding 4 = .ok (.iconst 0, 1) := by decide +kernel
theorem dX8_meanByAdding_5 : decode cX8_meanByAdding 5 = .ok (.istore 4, 2) := by decide +kernel
theorem dX8_meanByAdding_7 : decode cX8_meanByAdding 7 = .ok (.iload 4, 2) := by decide +kernel
theorem dX8_meanByAdding_9 : decode cX8_meanByAdding 9 = .ok (.aload_n 0, 1) := by decide +kernel
theorem dX8_meanByAdding_10 : decode cX8_meanByAdding 10 = .ok (.getfield 40, 3) := by decide +kernel
theorem dX8_meanByAdding_13 : decode cX8_meanByAdding 13 = .ok (.if_icmp .ge 66, 3) := by decide +kernel
theorem dX8_meanByAdding_16 : decode cX8_meanByAdding 16 = .ok (.iload 4, 2) := by decide +kernel
theorem dX8_meanByAdding_18 : decode cX8_meanByAdding 18 = .ok (.iload_n 1, 1) := by decide +kernel
theorem dX8_meanByAdding_19 : decode cX8_meanByAdding 19 = .ok (.if_icmp .ne 14, 3) := by decide +kernel
theorem dX8_meanByAdding_22 : decode cX8_meanByAdding 22 = .ok (.aload_n 0, 1) := by decide +kernel
theorem dX8_meanByAdding_23 : decode cX8_meanByAdding 23 = .ok (.getfield 13, 3) := by decide +kernel
theorem dX8_meanByAdding_26 : decode cX8_meanByAdding 26 = .ok (.iload_n 1, 1) := by decide +kernel
theorem dX8_meanByAdding_27 : decode cX8_meanByAdding 27 = .ok (.iaload, 1) := by decide +kernel
theorem dX8_meanByAdding_28 : decode cX8_meanByAdding 28 = .ok (.iconst 1, 1) := by decide +kernel
theorem dX8_meanByAdding_29 : decode cX8_meanByAdding 29 = .ok (.iadd, 1) := by decide +kernel
theorem dX8_meanByAdding_30 : decode cX8_meanByAdding 30 = .ok (.goto 12, 3) := by decide +kernel
theorem dX8_meanByAdding_33 : decode cX8_meanByAdding 33 = .ok (.aload_n 0, 1) := by decide +kernel
theorem dX8_meanByAdding_34 : decode cX8_meanByAdding 34 = .ok (.getfield 28, 3) := by decide +kernel
theorem dX8_meanByAdding_37 : decode cX8_meanByAdding 37 = .ok (.iload_n 1, 1) := by decide +kernel
theorem dX8_meanByAdding_38 : decode cX8_meanByAdding 38 = .ok (.aaload, 1) := by decide +kernel
theorem dX8_meanByAdding_39 : decode cX8_meanByAdding 39 = .ok (.iload 4, 2) := by decide +kernel
theorem dX8_meanByAdding_41 : decode cX8_meanByAdding 41 = .ok (.iaload, 1) := by decide +kernel
theorem dX8_meanByAdding_42 : decode cX8_meanByAdding 42 = .ok (.istore 5, 2) := by decide +kernel
theorem dX8_meanByAdding_44 : decode cX8_meanByAdding 44 = .ok (.iconst 0, 1) := by decide +kernel
theorem dX8_meanByAdding_45 : decode cX8_meanByAdding 45 = .ok (.istore 6, 2) := by decide +kernel
theorem dX8_meanByAdding_47 : decode cX8_meanByAdding 47 = .ok (.iload 6, 2) := by decide +kernel
theorem dX8_meanByAdding_49 : decode cX8_meanByAdding 49 = .ok (.iload 5, 2) := by decide +kernel
theorem dX8_meanByAdding_51 : decode cX8_meanByAdding 51 = .ok (.if_icmp .ge 22, 3) := by decide +kernel
theorem dX8_meanByAdding_54 : decode cX8_meanByAdding 54 = .ok (.iload_n 3, 1) := by decide +kernel
theorem dX8_meanByAdding_55 : decode cX8_meanByAdding 55 = .ok (.aload_n 0, 1) := by decide +kernel
theorem dX8_meanByAdding_56 : decode cX8_meanByAdding 56 = .ok (.getfield 9, 3) := by decide +kernel
theorem dX8_meanByAdding_59 : decode cX8_meanByAdding 59 = .ok (.iload 4, 2) := by decide +kernel
theorem dX8_meanByAdding_61 : decode cX8_meanByAdding 61 = .ok (.iaload, 1) := by decide +kernel
theorem dX8_meanByAdding_62 : decode cX8_meanByAdding 62 = .ok (.iadd, 1) := by decide +kernel
theorem dX8_meanByAdding_63 : decode cX8_meanByAdding 63 = .ok (.istore_n 3, 1) := by decide +kernel
theorem dX8_meanByAdding_64 : decode cX8_meanByAdding 64 = .ok (.iinc 2 1, 3) := by decide +kernel
theorem dX8_meanByAdding_67 : decode cX8_meanByAdding 67 = .ok (.iinc 6 1, 3) := by decide +kernel
theorem dX8_meanByAdding_70 : decode cX8_meanByAdding 70 = .ok (.goto (-23), 3) := by decide +kernel
theorem dX8_meanByAdding_73 : decode cX8_meanByAdding 73 = .ok (.iinc 4 1, 3) := by decide +kernel
theorem dX8_meanByAdding_76 : decode cX8_meanByAdding 76 = .ok (.goto (-69), 3) := by decide +kernel
theorem dX8_meanByAdding_79 : decode cX8_meanByAdding 79 = .ok (.iload_n 2, 1) := by decide +kernel
theorem dX8_meanByAdding_80 : decode cX8_meanByAdding 80 = .ok (.iconst 1, 1) := by decide +kernel
theorem dX8_meanByAdding_81 : decode cX8_meanByAdding 81 = .ok (.if_icmp .ge 7, 3) := by decide +kernel
theorem dX8_meanByAdding_84 : decode cX8_meanByAdding 84 = .ok (.iconst 0, 1) := by decide +kernel
theorem dX8_meanByAdding_85 : decode cX8_meanByAdding 85 = .ok (.goto 6, 3) := by decide +kernel
theorem dX8_meanByAdding_88 : decode cX8_meanByAdding 88 = .ok (.iload_n 3, 1) := by decide +kernel
theorem dX8_meanByAdding_89 : decode cX8_meanByAdding 89 = .ok (.iload_n 2, 1) := by decide +kernel
theorem dX8_meanByAdding_90 : decode cX8_meanByAdding 90 = .ok (.idiv, 1) := by decide +kernel
theorem dX8_meanByAdding_91 : decode cX8_meanByAdding 91 = .ok (.ireturn, 1) := by decide +kernel
theorem dX8_moveOf_0 : decode cX8_moveOf 0 = .ok (.aload_n 0, 1) := by decide +kernel
theorem dX8_moveOf_1 : decode cX8_moveOf 1 = .ok (.iload_n 1, 1) := by decide +kernel
theorem dX8_moveOf_2 : decode cX8_moveOf 2 = .ok (.invokevirtual 56, 3) := by decide +kernel
theorem dX8_moveOf_5 : decode cX8_moveOf 5 = .ok (.istore_n 2, 1) := by decide +kernel
theorem dX8_moveOf_6 : decode cX8_moveOf 6 = .ok (.aload_n 0, 1) := by decide +kernel
theorem dX8_moveOf_7 : decode cX8_moveOf 7 = .ok (.iload_n 1, 1) := by decide +kernel
theorem dX8_moveOf_8 : decode cX8_moveOf 8 = .ok (.invokevirtual 59, 3) := by decide +kernel
theorem dX8_moveOf_11 : decode cX8_moveOf 11 = .ok (.aload_n 0, 1) := by decide +kernel
theorem dX8_moveOf_12 : decode cX8_moveOf 12 = .ok (.getfield 9, 3) := by decide +kernel
theorem dX8_moveOf_15 : decode cX8_moveOf 15 = .ok (.iload_n 1, 1) := by decide +kernel
theorem dX8_moveOf_16 : decode cX8_moveOf 16 = .ok (.iaload, 1) := by decide +kernel
theorem dX8_moveOf_17 : decode cX8_moveOf 17 = .ok (.isub, 1) := by decide +kernel
theorem dX8_moveOf_18 : decode cX8_moveOf 18 = .ok (.istore_n 3, 1) := by decide +kernel
theorem dX8_moveOf_19 : decode cX8_moveOf 19 = .ok (.iload_n 2, 1) := by decide +kernel
theorem dX8_moveOf_20 : decode cX8_moveOf 20 = .ok (.ineg, 1) := by decide +kernel
theorem dX8_moveOf_21 : decode cX8_moveOf 21 = .ok (.iload_n 2, 1) := by decide +kernel
theorem dX8_moveOf_22 : decode cX8_moveOf 22 = .ok (.iload_n 3, 1) := by decide +kernel
theorem dX8_moveOf_23 : decode cX8_moveOf 23 = .ok (.invokestatic 62, 3) := by decide +kernel
theorem dX8_moveOf_26 : decode cX8_moveOf 26 = .ok (.invokestatic 65, 3) := by decide +kernel
theorem dX8_moveOf_29 : decode cX8_moveOf 29 = .ok (.ireturn, 1) := by decide +kernel
theorem dX8_passRound_0 : decode cX8_passRound 0 = .ok (.iconst 0, 1) := by decide +kernel
theorem dX8_passRound_1 : decode cX8_passRound 1 = .ok (.istore_n 1, 1) := by decide +kernel
theorem dX8_passRound_2 : decode cX8_passRound 2 = .ok (.iload_n 1, 1) := by decide +kernel
theorem dX8_passRound_3 : decode cX8_passRound 3 = .ok (.aload_n 0, 1) := by decide +kernel
theorem dX8_passRound_4 : decode cX8_passRound 4 = .ok (.getfield 40, 3) := by decide +kernel
theorem dX8_passRound_7 : decode cX8_passRound 7 = .ok (.if_icmp .ge 20, 3) := by decide +kernel
theorem dX8_passRound_10 : decode cX8_passRound 10 = .ok (.aload_n 0, 1) := by decide +kernel
theorem dX8_passRound_11 : decode cX8_passRound 11 = .ok (.getfield 31, 3) := by decide +kernel
theorem dX8_passRound_14 : decode cX8_passRound 14 = .ok (.iload_n 1, 1) := by decide +kernel
theorem dX8_passRound_15 : decode cX8_passRound 15 = .ok (.aload_n 0, 1) := by decide +kernel
theorem dX8_passRound_16 : decode cX8_passRound 16 = .ok (.iload_n 1, 1) := by decide +kernel
theorem dX8_passRound_17 : decode cX8_passRound 17 = .ok (.invokevirtual 68, 3) := by decide +kernel
theorem dX8_passRound_20 : decode cX8_passRound 20 = .ok (.iastore, 1) := by decide +kernel
theorem dX8_passRound_21 : decode cX8_passRound 21 = .ok (.iinc 1 1, 3) := by decide +kernel
theorem dX8_passRound_24 : decode cX8_passRound 24 = .ok (.goto (-22), 3) := by decide +kernel
theorem dX8_passRound_27 : decode cX8_passRound 27 = .ok (.iconst 0, 1) := by decide +kernel
theorem dX8_passRound_28 : decode cX8_passRound 28 = .ok (.istore_n 1, 1) := by decide +kernel
theorem dX8_passRound_29 : decode cX8_passRound 29 = .ok (.iconst 0, 1) := by decide +kernel
theorem dX8_passRound_30 : decode cX8_passRound 30 = .ok (.istore_n 2, 1) := by decide +kernel
theorem dX8_passRound_31 : decode cX8_passRound 31 = .ok (.iload_n 2, 1) := by decide +kernel
theorem dX8_passRound_32 : decode cX8_passRound 32 = .ok (.aload_n 0, 1) := by decide +kernel
theorem dX8_passRound_33 : decode cX8_passRound 33 = .ok (.getfield 40, 3) := by decide +kernel
theorem dX8_passRound_36 : decode cX8_passRound 36 = .ok (.if_icmp .ge 67, 3) := by decide +kernel
theorem dX8_passRound_39 : decode cX8_passRound 39 = .ok (.aload_n 0, 1) := by decide +kernel
theorem dX8_passRound_40 : decode cX8_passRound 40 = .ok (.getfield 31, 3) := by decide +kernel
theorem dX8_passRound_43 : decode cX8_passRound 43 = .ok (.iload_n 2, 1) := by decide +kernel
theorem dX8_passRound_44 : decode cX8_passRound 44 = .ok (.iaload, 1) := by decide +kernel
theorem dX8_passRound_45 : decode cX8_passRound 45 = .ok (.invokestatic 50, 3) := by decide +kernel
theorem dX8_passRound_48 : decode cX8_passRound 48 = .ok (.istore_n 3, 1) := by decide +kernel
theorem dX8_passRound_49 : decode cX8_passRound 49 = .ok (.aload_n 0, 1) := by decide +kernel
theorem dX8_passRound_50 : decode cX8_passRound 50 = .ok (.getfield 9, 3) := by decide +kernel
theorem dX8_passRound_53 : decode cX8_passRound 53 = .ok (.iload_n 2, 1) := by decide +kernel
theorem dX8_passRound_54 : decode cX8_passRound 54 = .ok (.dup2, 1) := by decide +kernel
theorem dX8_passRound_55 : decode cX8_passRound 55 = .ok (.iaload, 1) := by decide +kernel
theorem dX8_passRound_56 : decode cX8_passRound 56 = .ok (.aload_n 0, 1) := by decide +kernel
theorem dX8_passRound_57 : decode cX8_passRound 57 = .ok (.getfield 31, 3) := by decide +kernel
theorem dX8_passRound_60 : decode cX8_passRound 60 = .ok (.iload_n 2, 1) := by decide +kernel
theorem dX8_passRound_61 : decode cX8_passRound 61 = .ok (.iaload, 1) := by decide +kernel
theorem dX8_passRound_62 : decode cX8_passRound 62 = .ok (.iadd, 1) := by decide +kernel
theorem dX8_passRound_63 : decode cX8_passRound 63 = .ok (.iastore, 1) := by decide +kernel
theorem dX8_passRound_64 : decode cX8_passRound 64 = .ok (.aload_n 0, 1) := by decide +kernel
theorem dX8_passRound_65 : decode cX8_passRound 65 = .ok (.getfield 23, 3) := by decide +kernel
theorem dX8_passRound_68 : decode cX8_passRound 68 = .ok (.iload_n 2, 1) := by decide +kernel
theorem dX8_passRound_69 : decode cX8_passRound 69 = .ok (.dup2, 1) := by decide +kernel
theorem dX8_passRound_70 : decode cX8_passRound 70 = .ok (.iaload, 1) := by decide +kernel
theorem dX8_passRound_71 : decode cX8_passRound 71 = .ok (.iload_n 3, 1) := by decide +kernel
theorem dX8_passRound_72 : decode cX8_passRound 72 = .ok (.iadd, 1) := by decide +kernel
theorem dX8_passRound_73 : decode cX8_passRound 73 = .ok (.iastore, 1) := by decide +kernel
theorem dX8_passRound_74 : decode cX8_passRound 74 = .ok (.aload_n 0, 1) := by decide +kernel
theorem dX8_passRound_75 : decode cX8_passRound 75 = .ok (.getfield 13, 3) := by decide +kernel
theorem dX8_passRound_78 : decode cX8_passRound 78 = .ok (.iload_n 2, 1) := by decide +kernel
theorem dX8_passRound_79 : decode cX8_passRound 79 = .ok (.aload_n 0, 1) := by decide +kernel
theorem dX8_passRound_80 : decode cX8_passRound 80 = .ok (.getfield 13, 3) := by decide +kernel
theorem dX8_passRound_83 : decode cX8_passRound 83 = .ok (.iload_n 2, 1) := by decide +kernel
theorem dX8_passRound_84 : decode cX8_passRound 84 = .ok (.iaload, 1) := by decide +kernel
theorem dX8_passRound_85 : decode cX8_passRound 85 = .ok (.iload_n 3, 1) := by decide +kernel
theorem dX8_passRound_86 : decode cX8_passRound 86 = .ok (.invokestatic 71, 3) := by decide +kernel
theorem dX8_passRound_89 : decode cX8_passRound 89 = .ok (.iastore, 1) := by decide +kernel
theorem dX8_passRound_90 : decode cX8_passRound 90 = .ok (.iload_n 3, 1) := by decide +kernel
theorem dX8_passRound_91 : decode cX8_passRound 91 = .ok (.ifCond .eq 6, 3) := by decide +kernel
theorem dX8_passRound_94 : decode cX8_passRound 94 = .ok (.iinc 1 1, 3) := by decide +kernel
theorem dX8_passRound_97 : decode cX8_passRound 97 = .ok (.iinc 2 1, 3) := by decide +kernel
theorem dX8_passRound_100 : decode cX8_passRound 100 = .ok (.goto (-69), 3) := by decide +kernel
theorem dX8_passRound_103 : decode cX8_passRound 103 = .ok (.iload_n 1, 1) := by decide +kernel
theorem dX8_passRound_104 : decode cX8_passRound 104 = .ok (.ireturn, 1) := by decide +kernel
theorem dX8_habitBehind_0 : decode cX8_habitBehind 0 = .ok (.iload_n 1, 1) := by decide +kernel
theorem dX8_habitBehind_1 : decode cX8_habitBehind 1 = .ok (.ifCond .ne 12, 3) := by decide +kernel
theorem dX8_habitBehind_4 : decode cX8_habitBehind 4 = .ok (.iload_n 0, 1) := by decide +kernel
theorem dX8_habitBehind_5 : decode cX8_habitBehind 5 = .ok (.iconst 1, 1) := by decide +kernel
theorem dX8_habitBehind_6 : decode cX8_habitBehind 6 = .ok (.iadd, 1) := by decide +kernel
theorem dX8_habitBehind_7 : decode cX8_habitBehind 7 = .ok (.bipush 9, 2) := by decide +kernel
theorem dX8_habitBehind_9 : decode cX8_habitBehind 9 = .ok (.invokestatic 62, 3) := by decide +kernel
theorem dX8_habitBehind_12 : decode cX8_habitBehind 12 = .ok (.ireturn, 1) := by decide +kernel
theorem dX8_habitBehind_13 : decode cX8_habitBehind 13 = .ok (.iload_n 1, 1) := by decide +kernel
theorem dX8_habitBehind_14 : decode cX8_habitBehind 14 = .ok (.iconst 3, 1) := by decide +kernel
theorem dX8_habitBehind_15 : decode cX8_habitBehind 15 = .ok (.if_icmp .lt 13, 3) := by decide +kernel
theorem dX8_habitBehind_18 : decode cX8_habitBehind 18 = .ok (.iload_n 0, 1) := by decide +kernel
theorem dX8_habitBehind_19 : decode cX8_habitBehind 19 = .ok (.iconst 1, 1) := by decide +kernel
theorem dX8_habitBehind_20 : decode cX8_habitBehind 20 = .ok (.isub, 1) := by decide +kernel
theorem dX8_habitBehind_21 : decode cX8_habitBehind 21 = .ok (.iconst 0, 1) := by decide +kernel
theorem dX8_habitBehind_22 : decode cX8_habitBehind 22 = .ok (.invokestatic 65, 3) := by decide +kernel
theorem dX8_habitBehind_25 : decode cX8_habitBehind 25 = .ok (.goto 4, 3) := by decide +kernel
theorem dX8_habitBehind_28 : decode cX8_habitBehind 28 = .ok (.iload_n 0, 1) := by decide +kernel
theorem dX8_habitBehind_29 : decode cX8_habitBehind 29 = .ok (.ireturn, 1) := by decide +kernel
theorem dX8_forceOn_0 : decode cX8_forceOn 0 = .ok (.iload_n 2, 1) := by decide +kernel
theorem dX8_forceOn_1 : decode cX8_forceOn 1 = .ok (.aload_n 0, 1) := by decide +kernel
theorem dX8_forceOn_2 : decode cX8_forceOn 2 = .ok (.getfield 13, 3) := by decide +kernel
theorem dX8_forceOn_5 : decode cX8_forceOn 5 = .ok (.iload_n 1, 1) := by decide +kernel
theorem dX8_forceOn_6 : decode cX8_forceOn 6 = .ok (.iaload, 1) := by decide +kernel
theorem dX8_forceOn_7 : decode cX8_forceOn 7 = .ok (.iconst 3, 1) := by decide +kernel
theorem dX8_forceOn_8 : decode cX8_forceOn 8 = .ok (.idiv, 1) := by decide +kernel
theorem dX8_forceOn_9 : decode cX8_forceOn 9 = .ok (.isub, 1) := by decide +kernel
theorem dX8_forceOn_10 : decode cX8_forceOn 10 = .ok (.iconst 0, 1) := by decide +kernel
theorem dX8_forceOn_11 : decode cX8_forceOn 11 = .ok (.invokestatic 65, 3) := by decide +kernel
theorem dX8_forceOn_14 : decode cX8_forceOn 14 = .ok (.ireturn, 1) := by decide +kernel
theorem dX8_tell_0 : decode cX8_tell 0 = .ok (.aload_n 0, 1) := by decide +kernel
theorem dX8_tell_1 : decode cX8_tell 1 = .ok (.getfield 9, 3) := by decide +kernel
theorem dX8_tell_4 : decode cX8_tell 4 = .ok (.iload_n 1, 1) := by decide +kernel
theorem dX8_tell_5 : decode cX8_tell 5 = .ok (.iaload, 1) := by decide +kernel
theorem dX8_tell_6 : decode cX8_tell 6 = .ok (.invokestatic 50, 3) := by decide +kernel
theorem dX8_tell_9 : decode cX8_tell 9 = .ok (.aload_n 0, 1) := by decide +kernel
theorem dX8_tell_10 : decode cX8_tell 10 = .ok (.iload_n 1, 1) := by decide +kernel
theorem dX8_tell_11 : decode cX8_tell 11 = .ok (.iload_n 2, 1) := by decide +kernel
theorem dX8_tell_12 : decode cX8_tell 12 = .ok (.invokevirtual 74, 3) := by decide +kernel
theorem dX8_tell_15 : decode cX8_tell 15 = .ok (.isub, 1) := by decide +kernel
theorem dX8_tell_16 : decode cX8_tell 16 = .ok (.iconst 0, 1) := by decide +kernel
theorem dX8_tell_17 : decode cX8_tell 17 = .ok (.invokestatic 65, 3) := by decide +kernel
theorem dX8_tell_20 : decode cX8_tell 20 = .ok (.istore_n 3, 1) := by decide +kernel
theorem dX8_tell_21 : decode cX8_tell 21 = .ok (.aload_n 0, 1) := by decide +kernel
theorem dX8_tell_22 : decode cX8_tell 22 = .ok (.getfield 9, 3) := by decide +kernel
theorem dX8_tell_25 : decode cX8_tell 25 = .ok (.iload_n 1, 1) := by decide +kernel
theorem dX8_tell_26 : decode cX8_tell 26 = .ok (.aload_n 0, 1) := by decide +kernel
theorem dX8_tell_27 : decode cX8_tell 27 = .ok (.iload_n 1, 1) := by decide +kernel
theorem dX8_tell_28 : decode cX8_tell 28 = .ok (.invokevirtual 77, 3) := by decide +kernel
theorem dX8_tell_31 : decode cX8_tell 31 = .ok (.iload_n 3, 1) := by decide +kernel
theorem dX8_tell_32 : decode cX8_tell 32 = .ok (.imul, 1) := by decide +kernel
theorem dX8_tell_33 : decode cX8_tell 33 = .ok (.iastore, 1) := by decide +kernel
theorem dX8_tell_34 : decode cX8_tell 34 = .ok (.aload_n 0, 1) := by decide +kernel
theorem dX8_tell_35 : decode cX8_tell 35 = .ok (.getfield 20, 3) := by decide +kernel
theorem dX8_tell_38 : decode cX8_tell 38 = .ok (.iload_n 1, 1) := by decide +kernel
theorem dX8_tell_39 : decode cX8_tell 39 = .ok (.dup2, 1) := by decide +kernel
theorem dX8_tell_40 : decode cX8_tell 40 = .ok (.iaload, 1) := by decide +kernel
theorem dX8_tell_41 : decode cX8_tell 41 = .ok (.iconst 1, 1) := by decide +kernel
theorem dX8_tell_42 : decode cX8_tell 42 = .ok (.iadd, 1) := by decide +kernel
theorem dX8_tell_43 : decode cX8_tell 43 = .ok (.iastore, 1) := by decide +kernel
theorem dX8_tell_44 : decode cX8_tell 44 = .ok (.aload_n 0, 1) := by decide +kernel
theorem dX8_tell_45 : decode cX8_tell 45 = .ok (.getfield 9, 3) := by decide +kernel
theorem dX8_tell_48 : decode cX8_tell 48 = .ok (.iload_n 1, 1) := by decide +kernel
theorem dX8_tell_49 : decode cX8_tell 49 = .ok (.iaload, 1) := by decide +kernel
theorem dX8_tell_50 : decode cX8_tell 50 = .ok (.ireturn, 1) := by decide +kernel
theorem dX8_strongestPuller_0 : decode cX8_strongestPuller 0 = .ok (.iconst (-1), 1) := by decide +kernel
theorem dX8_strongestPuller_1 : decode cX8_strongestPuller 1 = .ok (.istore_n 2, 1) := by decide +kernel
theorem dX8_strongestPuller_2 : decode cX8_strongestPuller 2 = .ok (.iconst 0, 1) := by decide +kernel
theorem dX8_strongestPuller_3 : decode cX8_strongestPuller 3 = .ok (.istore_n 3, 1) := by decide +kernel
theorem dX8_strongestPuller_4 : decode cX8_strongestPuller 4 = .ok (.iconst 0, 1) := by decide +kernel
theorem dX8_strongestPuller_5 : decode cX8_strongestPuller 5 = .ok (.istore 4, 2) := by decide +kernel
theorem dX8_strongestPuller_7 : decode cX8_strongestPuller 7 = .ok (.iload 4, 2) := by decide +kernel
theorem dX8_strongestPuller_9 : decode cX8_strongestPuller 9 = .ok (.aload_n 0, 1) := by decide +kernel
theorem dX8_strongestPuller_10 : decode cX8_strongestPuller 10 = .ok (.getfield 40, 3) := by decide +kernel
theorem dX8_strongestPuller_13 : decode cX8_strongestPuller 13 = .ok (.if_icmp .ge 40, 3) := by decide +kernel
theorem dX8_strongestPuller_16 : decode cX8_strongestPuller 16 = .ok (.aload_n 0, 1) := by decide +kernel
theorem dX8_strongestPuller_17 : decode cX8_strongestPuller 17 = .ok (.getfield 28, 3) := by decide +kernel
theorem dX8_strongestPuller_20 : decode cX8_strongestPuller 20 = .ok (.iload_n 1, 1) := by decide +kernel
theorem dX8_strongestPuller_21 : decode cX8_strongestPuller 21 = .ok (.aaload, 1) := by decide +kernel
theorem dX8_strongestPuller_22 : decode cX8_strongestPuller 22 = .ok (.iload 4, 2) := by decide +kernel
theorem dX8_strongestPuller_24 : decode cX8_strongestPuller 24 = .ok (.iaload, 1) := by decide +kernel
theorem dX8_strongestPuller_25 : decode cX8_strongestPuller 25 = .ok (.aload_n 0, 1) := by decide +kernel
theorem dX8_strongestPuller_26 : decode cX8_strongestPuller 26 = .ok (.iload_n 1, 1) := by decide +kernel
theorem dX8_strongestPuller_27 : decode cX8_strongestPuller 27 = .ok (.iload 4, 2) := by decide +kernel
theorem dX8_strongestPuller_29 : decode cX8_strongestPuller 29 = .ok (.invokevirtual 80, 3) := by decide +kernel
theorem dX8_strongestPuller_32 : decode cX8_strongestPuller 32 = .ok (.imul, 1) := by decide +kernel
theorem dX8_strongestPuller_33 : decode cX8_strongestPuller 33 = .ok (.istore 5, 2) := by decide +kernel
theorem dX8_strongestPuller_35 : decode cX8_strongestPuller 35 = .ok (.iload 5, 2) := by decide +kernel
theorem dX8_strongestPuller_37 : decode cX8_strongestPuller 37 = .ok (.iload_n 3, 1) := by decide +kernel
theorem dX8_strongestPuller_38 : decode cX8_strongestPuller 38 = .ok (.if_icmp .le 9, 3) := by decide +kernel
theorem dX8_strongestPuller_41 : decode cX8_strongestPuller 41 = .ok (.iload 5, 2) := by decide +kernel
theorem dX8_strongestPuller_43 : decode cX8_strongestPuller 43 = .ok (.istore_n 3, 1) := by decide +kernel
theorem dX8_strongestPuller_44 : decode cX8_strongestPuller 44 = .ok (.iload 4, 2) := by decide +kernel
theorem dX8_strongestPuller_46 : decode cX8_strongestPuller 46 = .ok (.istore_n 2, 1) := by decide +kernel
theorem dX8_strongestPuller_47 : decode cX8_strongestPuller 47 = .ok (.iinc 4 1, 3) := by decide +kernel
theorem dX8_strongestPuller_50 : decode cX8_strongestPuller 50 = .ok (.goto (-43), 3) := by decide +kernel
theorem dX8_strongestPuller_53 : decode cX8_strongestPuller 53 = .ok (.iload_n 2, 1) := by decide +kernel
theorem dX8_strongestPuller_54 : decode cX8_strongestPuller 54 = .ok (.ireturn, 1) := by decide +kernel
theorem dX8_farthestTo_0 : decode cX8_farthestTo 0 = .ok (.iconst (-1), 1) := by decide +kernel
theorem dX8_farthestTo_1 : decode cX8_farthestTo 1 = .ok (.istore_n 2, 1) := by decide +kernel
theorem dX8_farthestTo_2 : decode cX8_farthestTo 2 = .ok (.iconst 0, 1) := by decide +kernel
theorem dX8_farthestTo_3 : decode cX8_farthestTo 3 = .ok (.istore_n 3, 1) := by decide +kernel
theorem dX8_farthestTo_4 : decode cX8_farthestTo 4 = .ok (.iconst 0, 1) := by decide +kernel
theorem dX8_farthestTo_5 : decode cX8_farthestTo 5 = .ok (.istore 4, 2) := by decide +kernel
theorem dX8_farthestTo_7 : decode cX8_farthestTo 7 = .ok (.iload 4, 2) := by decide +kernel
theorem dX8_farthestTo_9 : decode cX8_farthestTo 9 = .ok (.aload_n 0, 1) := by decide +kernel
theorem dX8_farthestTo_10 : decode cX8_farthestTo 10 = .ok (.getfield 40, 3) := by decide +kernel
theorem dX8_farthestTo_13 : decode cX8_farthestTo 13 = .ok (.if_icmp .ge 32, 3) := by decide +kernel
theorem dX8_farthestTo_16 : decode cX8_farthestTo 16 = .ok (.aload_n 0, 1) := by decide +kernel
theorem dX8_farthestTo_17 : decode cX8_farthestTo 17 = .ok (.getfield 9, 3) := by decide +kernel
theorem dX8_farthestTo_20 : decode cX8_farthestTo 20 = .ok (.iload 4, 2) := by decide +kernel
theorem dX8_farthestTo_22 : decode cX8_farthestTo 22 = .ok (.iaload, 1) := by decide +kernel
theorem dX8_farthestTo_23 : decode cX8_farthestTo 23 = .ok (.iload_n 1, 1) := by decide +kernel
theorem dX8_farthestTo_24 : decode cX8_farthestTo 24 = .ok (.imul, 1) := by decide +kernel
theorem dX8_farthestTo_25 : decode cX8_farthestTo 25 = .ok (.istore 5, 2) := by decide +kernel
theorem dX8_farthestTo_27 : decode cX8_farthestTo 27 = .ok (.iload 5, 2) := by decide +kernel
theorem dX8_farthestTo_29 : decode cX8_farthestTo 29 = .ok (.iload_n 3, 1) := by decide +kernel
theorem dX8_farthestTo_30 : decode cX8_farthestTo 30 = .ok (.if_icmp .le 9, 3) := by decide +kernel
theorem dX8_farthestTo_33 : decode cX8_farthestTo 33 = .ok (.iload 5, 2) := by decide +kernel
theorem dX8_farthestTo_35 : decode cX8_farthestTo 35 = .ok (.istore_n 3, 1) := by decide +kernel
theorem dX8_farthestTo_36 : decode cX8_farthestTo 36 = .ok (.iload 4, 2) := by decide +kernel
theorem dX8_farthestTo_38 : decode cX8_farthestTo 38 = .ok (.istore_n 2, 1) := by decide +kernel
theorem dX8_farthestTo_39 : decode cX8_farthestTo 39 = .ok (.iinc 4 1, 3) := by decide +kernel
theorem dX8_farthestTo_42 : decode cX8_farthestTo 42 = .ok (.goto (-35), 3) := by decide +kernel
theorem dX8_farthestTo_45 : decode cX8_farthestTo 45 = .ok (.iload_n 2, 1) := by decide +kernel
theorem dX8_farthestTo_46 : decode cX8_farthestTo 46 = .ok (.ireturn, 1) := by decide +kernel
theorem dX8_atPlace_0 : decode cX8_atPlace 0 = .ok (.iconst 0, 1) := by decide +kernel
theorem dX8_atPlace_1 : decode cX8_atPlace 1 = .ok (.istore_n 3, 1) := by decide +kernel
theorem dX8_atPlace_2 : decode cX8_atPlace 2 = .ok (.iload_n 3, 1) := by decide +kernel
theorem dX8_atPlace_3 : decode cX8_atPlace 3 = .ok (.aload_n 0, 1) := by decide +kernel
theorem dX8_atPlace_4 : decode cX8_atPlace 4 = .ok (.getfield 40, 3) := by decide +kernel
theorem dX8_atPlace_7 : decode cX8_atPlace 7 = .ok (.if_icmp .ge 52, 3) := by decide +kernel
theorem dX8_atPlace_10 : decode cX8_atPlace 10 = .ok (.iconst 0, 1) := by decide +kernel
theorem dX8_atPlace_11 : decode cX8_atPlace 11 = .ok (.istore 4, 2) := by decide +kernel
theorem dX8_atPlace_13 : decode cX8_atPlace 13 = .ok (.iconst 0, 1) := by decide +kernel
theorem dX8_atPlace_14 : decode cX8_atPlace 14 = .ok (.istore 5, 2) := by decide +kernel
theorem dX8_atPlace_16 : decode cX8_atPlace 16 = .ok (.iload 5, 2) := by decide +kernel
theorem dX8_atPlace_18 : decode cX8_atPlace 18 = .ok (.aload_n 0, 1) := by decide +kernel
theorem dX8_atPlace_19 : decode cX8_atPlace 19 = .ok (.getfield 40, 3) := by decide +kernel
theorem dX8_atPlace_22 : decode cX8_atPlace 22 = .ok (.if_icmp .ge 23, 3) := by decide +kernel
theorem dX8_atPlace_25 : decode cX8_atPlace 25 = .ok (.aload_n 0, 1) := by decide +kernel
theorem dX8_atPlace_26 : decode cX8_atPlace 26 = .ok (.iload_n 1, 1) := by decide +kernel
theorem dX8_atPlace_27 : decode cX8_atPlace 27 = .ok (.iload 5, 2) := by decide +kernel
theorem dX8_atPlace_29 : decode cX8_atPlace 29 = .ok (.iload_n 3, 1) := by decide +kernel
theorem dX8_atPlace_30 : decode cX8_atPlace 30 = .ok (.invokevirtual 83, 3) := by decide +kernel
theorem dX8_atPlace_33 : decode cX8_atPlace 33 = .ok (.ifCond .eq 6, 3) := by decide +kernel
theorem dX8_atPlace_36 : decode cX8_atPlace 36 = .ok (.iinc 4 1, 3) := by decide +kernel
theorem dX8_atPlace_39 : decode cX8_atPlace 39 = .ok (.iinc 5 1, 3) := by decide +kernel
theorem dX8_atPlace_42 : decode cX8_atPlace 42 = .ok (.goto (-26), 3) := by decide +kernel
theorem dX8_atPlace_45 : decode cX8_atPlace 45 = .ok (.iload 4, 2) := by decide +kernel
theorem dX8_atPlace_47 : decode cX8_atPlace 47 = .ok (.iload_n 2, 1) := by decide +kernel
theorem dX8_atPlace_48 : decode cX8_atPlace 48 = .ok (.if_icmp .ne 5, 3) := by decide +kernel
theorem dX8_atPlace_51 : decode cX8_atPlace 51 = .ok (.iload_n 3, 1) := by decide +kernel
theorem dX8_atPlace_52 : decode cX8_atPlace 52 = .ok (.ireturn, 1) := by decide +kernel
theorem dX8_atPlace_53 : decode cX8_atPlace 53 = .ok (.iinc 3 1, 3) := by decide +kernel
theorem dX8_atPlace_56 : decode cX8_atPlace 56 = .ok (.goto (-54), 3) := by decide +kernel
theorem dX8_atPlace_59 : decode cX8_atPlace 59 = .ok (.iconst (-1), 1) := by decide +kernel
theorem dX8_atPlace_60 : decode cX8_atPlace 60 = .ok (.ireturn, 1) := by decide +kernel
theorem dX8_isAhead_0 : decode cX8_isAhead 0 = .ok (.aload_n 0, 1) := by decide +kernel
theorem dX8_isAhead_1 : decode cX8_isAhead 1 = .ok (.iload_n 1, 1) := by decide +kernel
theorem dX8_isAhead_2 : decode cX8_isAhead 2 = .ok (.iload_n 2, 1) := by decide +kernel
theorem dX8_isAhead_3 : decode cX8_isAhead 3 = .ok (.invokevirtual 87, 3) := by decide +kernel
theorem dX8_isAhead_6 : decode cX8_isAhead 6 = .ok (.istore 4, 2) := by decide +kernel
theorem dX8_isAhead_8 : decode cX8_isAhead 8 = .ok (.aload_n 0, 1) := by decide +kernel
theorem dX8_isAhead_9 : decode cX8_isAhead 9 = .ok (.iload_n 1, 1) := by decide +kernel
theorem dX8_isAhead_10 : decode cX8_isAhead 10 = .ok (.iload_n 3, 1) := by decide +kernel
theorem dX8_isAhead_11 : decode cX8_isAhead 11 = .ok (.invokevirtual 87, 3) := by decide +kernel
theorem dX8_isAhead_14 : decode cX8_isAhead 14 = .ok (.istore 5, 2) := by decide +kernel
theorem dX8_isAhead_16 : decode cX8_isAhead 16 = .ok (.iload 4, 2) := by decide +kernel
theorem dX8_isAhead_18 : decode cX8_isAhead 18 = .ok (.iload 5, 2) := by decide +kernel
theorem dX8_isAhead_20 : decode cX8_isAhead 20 = .ok (.if_icmp .gt 15, 3) := by decide +kernel
theorem dX8_isAhead_23 : decode cX8_isAhead 23 = .ok (.iload 4, 2) := by decide +kernel
theorem dX8_isAhead_25 : decode cX8_isAhead 25 = .ok (.iload 5, 2) := by decide +kernel
theorem dX8_isAhead_27 : decode cX8_isAhead 27 = .ok (.if_icmp .ne 12, 3) := by decide +kernel
theorem dX8_isAhead_30 : decode cX8_isAhead 30 = .ok (.iload_n 2, 1) := by decide +kernel
theorem dX8_isAhead_31 : decode cX8_isAhead 31 = .ok (.iload_n 3, 1) := by decide +kernel
theorem dX8_isAhead_32 : decode cX8_isAhead 32 = .ok (.if_icmp .ge 7, 3) := by decide +kernel
theorem dX8_isAhead_35 : decode cX8_isAhead 35 = .ok (.iconst 1, 1) := by decide +kernel
theorem dX8_isAhead_36 : decode cX8_isAhead 36 = .ok (.goto 4, 3) := by decide +kernel
theorem dX8_isAhead_39 : decode cX8_isAhead 39 = .ok (.iconst 0, 1) := by decide +kernel
theorem dX8_isAhead_40 : decode cX8_isAhead 40 = .ok (.ireturn, 1) := by decide +kernel
theorem dX8_measured_0 : decode cX8_measured 0 = .ok (.iload_n 1, 1) := by decide +kernel
theorem dX8_measured_1 : decode cX8_measured 1 = .ok (.tableswitch 51 0 2 #[27, 34, 44], 27) := by decide +kernel
theorem dX8_measured_28 : decode cX8_measured 28 = .ok (.aload_n 0, 1) := by decide +kernel
theorem dX8_measured_29 : decode cX8_measured 29 = .ok (.getfield 9, 3) := by decide +kernel
theorem dX8_measured_32 : decode cX8_measured 32 = .ok (.iload_n 2, 1) := by decide +kernel
theorem dX8_measured_33 : decode cX8_measured 33 = .ok (.iaload, 1) := by decide +kernel
theorem dX8_measured_34 : decode cX8_measured 34 = .ok (.ireturn, 1) := by decide +kernel
theorem dX8_measured_35 : decode cX8_measured 35 = .ok (.aload_n 0, 1) := by decide +kernel
theorem dX8_measured_36 : decode cX8_measured 36 = .ok (.getfield 9, 3) := by decide +kernel
theorem dX8_measured_39 : decode cX8_measured 39 = .ok (.iload_n 2, 1) := by decide +kernel
theorem dX8_measured_40 : decode cX8_measured 40 = .ok (.iaload, 1) := by decide +kernel
theorem dX8_measured_41 : decode cX8_measured 41 = .ok (.invokestatic 50, 3) := by decide +kernel
theorem dX8_measured_44 : decode cX8_measured 44 = .ok (.ireturn, 1) := by decide +kernel
theorem dX8_measured_45 : decode cX8_measured 45 = .ok (.aload_n 0, 1) := by decide +kernel
theorem dX8_measured_46 : decode cX8_measured 46 = .ok (.getfield 13, 3) := by decide +kernel
theorem dX8_measured_49 : decode cX8_measured 49 = .ok (.iload_n 2, 1) := by decide +kernel
theorem dX8_measured_50 : decode cX8_measured 50 = .ok (.iaload, 1) := by decide +kernel
theorem dX8_measured_51 : decode cX8_measured 51 = .ok (.ireturn, 1) := by decide +kernel
theorem dX8_measured_52 : decode cX8_measured 52 = .ok (.aload_n 0, 1) := by decide +kernel
theorem dX8_measured_53 : decode cX8_measured 53 = .ok (.iload_n 2, 1) := by decide +kernel
theorem dX8_measured_54 : decode cX8_measured 54 = .ok (.invokevirtual 90, 3) := by decide +kernel
theorem dX8_measured_57 : decode cX8_measured 57 = .ok (.ireturn, 1) := by decide +kernel
theorem dX8_pairCount_0 : decode cX8_pairCount 0 = .ok (.iconst 0, 1) := by decide +kernel
theorem dX8_pairCount_1 : decode cX8_pairCount 1 = .ok (.istore_n 1, 1) := by decide +kernel
theorem dX8_pairCount_2 : decode cX8_pairCount 2 = .ok (.iconst 0, 1) := by decide +kernel
theorem dX8_pairCount_3 : decode cX8_pairCount 3 = .ok (.istore_n 2, 1) := by decide +kernel
theorem dX8_pairCount_4 : decode cX8_pairCount 4 = .ok (.iload_n 2, 1) := by decide +kernel
theorem dX8_pairCount_5 : decode cX8_pairCount 5 = .ok (.aload_n 0, 1) := by decide +kernel
theorem dX8_pairCount_6 : decode cX8_pairCount 6 = .ok (.getfield 40, 3) := by decide +kernel
theorem dX8_pairCount_9 : decode cX8_pairCount 9 = .ok (.if_icmp .ge 17, 3) := by decide +kernel
theorem dX8_pairCount_12 : decode cX8_pairCount 12 = .ok (.iload_n 1, 1) := by decide +kernel
theorem dX8_pairCount_13 : decode cX8_pairCount 13 = .ok (.aload_n 0, 1) := by decide +kernel
theorem dX8_pairCount_14 : decode cX8_pairCount 14 = .ok (.iload_n 2, 1) := by decide +kernel
theorem dX8_pairCount_15 : decode cX8_pairCount 15 = .ok (.invokevirtual 100, 3) := by decide +kernel
theorem dX8_pairCount_18 : decode cX8_pairCount 18 = .ok (.iadd, 1) := by decide +kernel
theorem dX8_pairCount_19 : decode cX8_pairCount 19 = .ok (.istore_n 1, 1) := by decide +kernel
theorem dX8_pairCount_20 : decode cX8_pairCount 20 = .ok (.iinc 2 1, 3) := by decide +kernel
theorem dX8_pairCount_23 : decode cX8_pairCount 23 = .ok (.goto (-19), 3) := by decide +kernel
theorem dX8_pairCount_26 : decode cX8_pairCount 26 = .ok (.iload_n 1, 1) := by decide +kernel
theorem dX8_pairCount_27 : decode cX8_pairCount 27 = .ok (.iconst 2, 1) := by decide +kernel
theorem dX8_pairCount_28 : decode cX8_pairCount 28 = .ok (.idiv, 1) := by decide +kernel
theorem dX8_pairCount_29 : decode cX8_pairCount 29 = .ok (.ireturn, 1) := by decide +kernel
theorem dX8_plumbCount_0 : decode cX8_plumbCount 0 = .ok (.iconst 0, 1) := by decide +kernel
theorem dX8_plumbCount_1 : decode cX8_plumbCount 1 = .ok (.istore_n 1, 1) := by decide +kernel
theorem dX8_plumbCount_2 : decode cX8_plumbCount 2 = .ok (.iconst 0, 1) := by decide +kernel
theorem dX8_plumbCount_3 : decode cX8_plumbCount 3 = .ok (.istore_n 2, 1) := by decide +kernel
theorem dX8_plumbCount_4 : decode cX8_plumbCount 4 = .ok (.iload_n 2, 1) := by decide +kernel
theorem dX8_plumbCount_5 : decode cX8_plumbCount 5 = .ok (.aload_n 0, 1) := by decide +kernel
theorem dX8_plumbCount_6 : decode cX8_plumbCount 6 = .ok (.getfield 40, 3) := by decide +kernel
theorem dX8_plumbCount_9 : decode cX8_plumbCount 9 = .ok (.if_icmp .ge 21, 3) := by decide +kernel
theorem dX8_plumbCount_12 : decode cX8_plumbCount 12 = .ok (.aload_n 0, 1) := by decide +kernel
theorem dX8_plumbCount_13 : decode cX8_plumbCount 13 = .ok (.getfield 9, 3) := by decide +kernel
theorem dX8_plumbCount_16 : decode cX8_plumbCount 16 = .ok (.iload_n 2, 1) := by decide +kernel
theorem dX8_plumbCount_17 : decode cX8_plumbCount 17 = .ok (.iaload, 1) := by decide +kernel
theorem dX8_plumbCount_18 : decode cX8_plumbCount 18 = .ok (.ifCond .ne 6, 3) := by decide +kernel
theorem dX8_plumbCount_21 : decode cX8_plumbCount 21 = .ok (.iinc 1 1, 3) := by decide +kernel
theorem dX8_plumbCount_24 : decode cX8_plumbCount 24 = .ok (.iinc 2 1, 3) := by decide +kernel
theorem dX8_plumbCount_27 : decode cX8_plumbCount 27 = .ok (.goto (-23), 3) := by decide +kernel
theorem dX8_plumbCount_30 : decode cX8_plumbCount 30 = .ok (.iload_n 1, 1) := by decide +kernel
theorem dX8_plumbCount_31 : decode cX8_plumbCount 31 = .ok (.ireturn, 1) := by decide +kernel
theorem dX8_tiltSum_0 : decode cX8_tiltSum 0 = .ok (.iconst 0, 1) := by decide +kernel
theorem dX8_tiltSum_1 : decode cX8_tiltSum 1 = .ok (.istore_n 1, 1) := by decide +kernel
theorem dX8_tiltSum_2 : decode cX8_tiltSum 2 = .ok (.iconst 0, 1) := by decide +kernel
theorem dX8_tiltSum_3 : decode cX8_tiltSum 3 = .ok (.istore_n 2, 1) := by decide +kernel
theorem dX8_tiltSum_4 : decode cX8_tiltSum 4 = .ok (.iload_n 2, 1) := by decide +kernel
theorem dX8_tiltSum_5 : decode cX8_tiltSum 5 = .ok (.aload_n 0, 1) := by decide +kernel
theorem dX8_tiltSum_6 : decode cX8_tiltSum 6 = .ok (.getfield 40, 3) := by decide +kernel
theorem dX8_tiltSum_9 : decode cX8_tiltSum 9 = .ok (.if_icmp .ge 18, 3) := by decide +kernel
theorem dX8_tiltSum_12 : decode cX8_tiltSum 12 = .ok (.iload_n 1, 1) := by decide +kernel
theorem dX8_tiltSum_13 : decode cX8_tiltSum 13 = .ok (.aload_n 0, 1) := by decide +kernel
theorem dX8_tiltSum_14 : decode cX8_tiltSum 14 = .ok (.getfield 9, 3) := by decide +kernel
theorem dX8_tiltSum_17 : decode cX8_tiltSum 17 = .ok (.iload_n 2, 1) := by decide +kernel
theorem dX8_tiltSum_18 : decode cX8_tiltSum 18 = .ok (.iaload, 1) := by decide +kernel
theorem dX8_tiltSum_19 : decode cX8_tiltSum 19 = .ok (.iadd, 1) := by decide +kernel
theorem dX8_tiltSum_20 : decode cX8_tiltSum 20 = .ok (.istore_n 1, 1) := by decide +kernel
theorem dX8_tiltSum_21 : decode cX8_tiltSum 21 = .ok (.iinc 2 1, 3) := by decide +kernel
theorem dX8_tiltSum_24 : decode cX8_tiltSum 24 = .ok (.goto (-20), 3) := by decide +kernel
theorem dX8_tiltSum_27 : decode cX8_tiltSum 27 = .ok (.iload_n 1, 1) := by decide +kernel
theorem dX8_tiltSum_28 : decode cX8_tiltSum 28 = .ok (.ireturn, 1) := by decide +kernel
theorem dX8_factSum_0 : decode cX8_factSum 0 = .ok (.iconst 0, 1) := by decide +kernel
theorem dX8_factSum_1 : decode cX8_factSum 1 = .ok (.istore_n 1, 1) := by decide +kernel
theorem dX8_factSum_2 : decode cX8_factSum 2 = .ok (.iconst 0, 1) := by decide +kernel
theorem dX8_factSum_3 : decode cX8_factSum 3 = .ok (.istore_n 2, 1) := by decide +kernel
theorem dX8_factSum_4 : decode cX8_factSum 4 = .ok (.iload_n 2, 1) := by decide +kernel
theorem dX8_factSum_5 : decode cX8_factSum 5 = .ok (.aload_n 0, 1) := by decide +kernel
theorem dX8_factSum_6 : decode cX8_factSum 6 = .ok (.getfield 40, 3) := by decide +kernel
theorem dX8_factSum_9 : decode cX8_factSum 9 = .ok (.if_icmp .ge 18, 3) := by decide +kernel
theorem dX8_factSum_12 : decode cX8_factSum 12 = .ok (.iload_n 1, 1) := by decide +kernel
theorem dX8_factSum_13 : decode cX8_factSum 13 = .ok (.aload_n 0, 1) := by decide +kernel
theorem dX8_factSum_14 : decode cX8_factSum 14 = .ok (.getfield 20, 3) := by decide +kernel
theorem dX8_factSum_17 : decode cX8_factSum 17 = .ok (.iload_n 2, 1) := by decide +kernel
theorem dX8_factSum_18 : decode cX8_factSum 18 = .ok (.iaload, 1) := by decide +kernel
theorem dX8_factSum_19 : decode cX8_factSum 19 = .ok (.iadd, 1) := by decide +kernel
theorem dX8_factSum_20 : decode cX8_factSum 20 = .ok (.istore_n 1, 1) := by decide +kernel
theorem dX8_factSum_21 : decode cX8_factSum 21 = .ok (.iinc 2 1, 3) := by decide +kernel
theorem dX8_factSum_24 : decode cX8_factSum 24 = .ok (.goto (-20), 3) := by decide +kernel
theorem dX8_factSum_27 : decode cX8_factSum 27 = .ok (.iload_n 1, 1) := by decide +kernel
theorem dX8_factSum_28 : decode cX8_factSum 28 = .ok (.ireturn, 1) := by decide +kernel
theorem dX9_init_0 : decode cX9_init 0 = .ok (.aload_n 0, 1) := by decide +kernel
theorem dX9_init_1 : decode cX9_init 1 = .ok (.invokespecial 1, 3) := by decide +kernel
theorem dX9_init_4 : decode cX9_init 4 = .ok (.aload_n 0, 1) := by decide +kernel
theorem dX9_init_5 : decode cX9_init 5 = .ok (.bipush 60, 2) := by decide +kernel
theorem dX9_init_7 : decode cX9_init 7 = .ok (.newarray .char, 2) := by decide +kernel
theorem dX9_init_9 : decode cX9_init 9 = .ok (.putfield 9, 3) := by decide +kernel
theorem dX9_init_12 : decode cX9_init 12 = .ok (.aload_n 0, 1) := by decide +kernel
theorem dX9_init_13 : decode cX9_init 13 = .ok (.bipush 30, 2) := by decide +kernel
theorem dX9_init_15 : decode cX9_init 15 = .ok (.anewarray 13, 3) := by decide +kernel
theorem dX9_init_18 : decode cX9_init 18 = .ok (.putfield 15, 3) := by decide +kernel
theorem dX9_init_21 : decode cX9_init 21 = .ok (.aload_n 0, 1) := by decide +kernel
theorem dX9_init_22 : decode cX9_init 22 = .ok (.iconst 3, 1) := by decide +kernel
theorem dX9_init_23 : decode cX9_init 23 = .ok (.newarray .int, 2) := by decide +kernel
theorem dX9_init_25 : decode cX9_init 25 = .ok (.putfield 19, 3) := by decide +kernel
theorem dX9_init_28 : decode cX9_init 28 = .ok (.iconst 0, 1) := by decide +kernel
theorem dX9_init_29 : decode cX9_init 29 = .ok (.istore_n 1, 1) := by decide +kernel
theorem dX9_init_30 : decode cX9_init 30 = .ok (.iload_n 1, 1) := by decide +kernel
theorem dX9_init_31 : decode cX9_init 31 = .ok (.bipush 30, 2) := by decide +kernel
theorem dX9_init_33 : decode cX9_init 33 = .ok (.if_icmp .ge 22, 3) := by decide +kernel
theorem dX9_init_36 : decode cX9_init 36 = .ok (.aload_n 0, 1) := by decide +kernel
theorem dX9_init_37 : decode cX9_init 37 = .ok (.getfield 15, 3) := by decide +kernel
theorem dX9_init_40 : decode cX9_init 40 = .ok (.iload_n 1, 1) := by decide +kernel
theorem dX9_init_41 : decode cX9_init 41 = .ok (.new 13, 3) := by decide +kernel
theorem dX9_init_44 : decode cX9_init 44 = .ok (.dup, 1) := by decide +kernel
theorem dX9_init_45 : decode cX9_init 45 = .ok (.invokespecial 23, 3) := by decide +kernel
theorem dX9_init_48 : decode cX9_init 48 = .ok (.aastore, 1) := by decide +kernel
theorem dX9_init_49 : decode cX9_init 49 = .ok (.iinc 1 1, 3) := by decide +kernel
theorem dX9_init_52 : decode cX9_init 52 = .ok (.goto (-22), 3) := by decide +kernel
theorem dX9_init_55 : decode cX9_init 55 = .ok (.return_, 1) := by decide +kernel
theorem dX9_isFull_0 : decode cX9_isFull 0 = .ok (.aload_n 0, 1) := by decide +kernel
theorem dX9_isFull_1 : decode cX9_isFull 1 = .ok (.getfield 24, 3) := by decide +kernel
theorem dX9_isFull_4 : decode cX9_isFull 4 = .ok (.bipush 60, 2) := by decide +kernel
theorem dX9_isFull_6 : decode cX9_isFull 6 = .ok (.if_icmp .lt 7, 3) := by decide +kernel
theorem dX9_isFull_9 : decode cX9_isFull 9 = .ok (.iconst 1, 1) := by decide +kernel
theorem dX9_isFull_10 : decode cX9_isFull 10 = .ok (.goto 4, 3) := by decide +kernel
theorem dX9_isFull_13 : decode cX9_isFull 13 = .ok (.iconst 0, 1) := by decide +kernel
theorem dX9_isFull_14 : decode cX9_isFull 14 = .ok (.ireturn, 1) := by decide +kernel
theorem dX9_add_0 : decode cX9_add 0 = .ok (.aload_n 0, 1) := by decide +kernel
theorem dX9_add_1 : decode cX9_add 1 = .ok (.getfield 9, 3) := by decide +kernel
theorem dX9_add_4 : decode cX9_add 4 = .ok (.aload_n 0, 1) := by decide +kernel
theorem dX9_add_5 : decode cX9_add 5 = .ok (.getfield 24, 3) := by decide +kernel
theorem dX9_add_8 : decode cX9_add 8 = .ok (.iload_n 1, 1) := by decide +kernel
theorem dX9_add_9 : decode cX9_add 9 = .ok (.castore, 1) := by decide +kernel
theorem dX9_add_10 : decode cX9_add 10 = .ok (.aload_n 0, 1) := by decide +kernel
theorem dX9_add_11 : decode cX9_add 11 = .ok (.dup, 1) := by decide +kernel
theorem dX9_add_12 : decode cX9_add 12 = .ok (.getfield 24, 3) := by decide +kernel
theorem dX9_add_15 : decode cX9_add 15 = .ok (.iconst 1, 1) := by decide +kernel
theorem dX9_add_16 : decode cX9_add 16 = .ok (.iadd, 1) := by decide +kernel
theorem dX9_add_17 : decode cX9_add 17 = .ok (.putfield 24, 3) := by decide +kernel
theorem dX9_add_20 : decode cX9_add 20 = .ok (.aload_n 0, 1) := by decide +kernel
theorem dX9_add_21 : decode cX9_add 21 = .ok (.getfield 24, 3) := by decide +kernel
theorem dX9_add_24 : decode cX9_add 24 = .ok (.ireturn, 1) := by decide +kernel
theorem dX9_clear_0 : decode cX9_clear 0 = .ok (.aload_n 0, 1) := by decide +kernel
theorem dX9_clear_1 : decode cX9_clear 1 = .ok (.iconst 0, 1) := by decide +kernel
theorem dX9_clear_2 : decode cX9_clear 2 = .ok (.putfield 24, 3) := by decide +kernel
theorem dX9_clear_5 : decode cX9_clear 5 = .ok (.return_, 1) := by decide +kernel
theorem dX9_readAll_0 : decode cX9_readAll 0 = .ok (.aload_n 0, 1) := by decide +kernel
theorem dX9_readAll_1 : decode cX9_readAll 1 = .ok (.iconst 0, 1) := by decide +kernel
theorem dX9_readAll_2 : decode cX9_readAll 2 = .ok (.putfield 28, 3) := by decide +kernel
theorem dX9_readAll_5 : decode cX9_readAll 5 = .ok (.aload_n 0, 1) := by decide +kernel
theorem dX9_readAll_6 : decode cX9_readAll 6 = .ok (.iconst 0, 1) := by decide +kernel
theorem dX9_readAll_7 : decode cX9_readAll 7 = .ok (.putfield 31, 3) := by decide +kernel
theorem dX9_readAll_10 : decode cX9_readAll 10 = .ok (.iconst 0, 1) := by decide +kernel
theorem dX9_readAll_11 : decode cX9_readAll 11 = .ok (.istore_n 1, 1) := by decide +kernel
theorem dX9_readAll_12 : decode cX9_readAll 12 = .ok (.iload_n 1, 1) := by decide +kernel
theorem dX9_readAll_13 : decode cX9_readAll 13 = .ok (.bipush 30, 2) := by decide +kernel
theorem dX9_readAll_15 : decode cX9_readAll 15 = .ok (.if_icmp .ge 48, 3) := by decide +kernel
theorem dX9_readAll_18 : decode cX9_readAll 18 = .ok (.aload_n 0, 1) := by decide +kernel
theorem dX9_readAll_19 : decode cX9_readAll 19 = .ok (.invokevirtual 34, 3) := by decide +kernel
theorem dX9_readAll_22 : decode cX9_readAll 22 = .ok (.ifCond .ne 8, 3) := by decide +kernel
theorem dX9_readAll_25 : decode cX9_readAll 25 = .ok (.aload_n 0, 1) := by decide +kernel
theorem dX9_readAll_26 : decode cX9_readAll 26 = .ok (.getfield 28, 3) := by decide +kernel
theorem dX9_readAll_29 : decode cX9_readAll 29 = .ok (.ireturn, 1) := by decide +kernel
theorem dX9_readAll_30 : decode cX9_readAll 30 = .ok (.aload_n 0, 1) := by decide +kernel
theorem dX9_readAll_31 : decode cX9_readAll 31 = .ok (.getfield 28, 3) := by decide +kernel
theorem dX9_readAll_34 : decode cX9_readAll 34 = .ok (.aload_n 0, 1) := by decide +kernel
theorem dX9_readAll_35 : decode cX9_readAll 35 = .ok (.getfield 24, 3) := by decide +kernel
theorem dX9_readAll_38 : decode cX9_readAll 38 = .ok (.if_icmp .lt 5, 3) := by decide +kernel
theorem dX9_readAll_41 : decode cX9_readAll 41 = .ok (.iconst (-1), 1) := by decide +kernel
theorem dX9_readAll_42 : decode cX9_readAll 42 = .ok (.ireturn, 1) := by decide +kernel
theorem dX9_readAll_43 : decode cX9_readAll 43 = .ok (.aload_n 0, 1) := by decide +kernel
theorem dX9_readAll_44 : decode cX9_readAll 44 = .ok (.bipush 59, 2) := by decide +kernel
theorem dX9_readAll_46 : decode cX9_readAll 46 = .ok (.invokevirtual 38, 3) := by decide +kernel
theorem dX9_readAll_49 : decode cX9_readAll 49 = .ok (.ifCond .ne 8, 3) := by decide +kernel
theorem dX9_readAll_52 : decode cX9_readAll 52 = .ok (.aload_n 0, 1) := by decide +kernel
theorem dX9_readAll_53 : decode cX9_readAll 53 = .ok (.getfield 28, 3) := by decide +kernel
theorem dX9_readAll_56 : decode cX9_readAll 56 = .ok (.ireturn, 1) := by decide +kernel
theorem dX9_readAll_57 : decode cX9_readAll 57 = .ok (.iinc 1 1, 3) := by decide +kernel
theorem dX9_readAll_60 : decode cX9_readAll 60 = .ok (.goto (-48), 3) := by decide +kernel
theorem dX9_readAll_63 : decode cX9_readAll 63 = .ok (.aload_n 0, 1) := by decide +kernel
theorem dX9_readAll_64 : decode cX9_readAll 64 = .ok (.getfield 28, 3) := by decide +kernel
theorem dX9_readAll_67 : decode cX9_readAll 67 = .ok (.ireturn, 1) := by decide +kernel
theorem dX9_readCommand_0 : decode cX9_readCommand 0 = .ok (.iconst 0, 1) := by decide +kernel
theorem dX9_readCommand_1 : decode cX9_readCommand 1 = .ok (.istore_n 1, 1) := by decide +kernel
theorem dX9_readCommand_2 : decode cX9_readCommand 2 = .ok (.iload_n 1, 1) := by decide +kernel
theorem dX9_readCommand_3 : decode cX9_readCommand 3 = .ok (.getstatic 42, 3) := by decide +kernel
theorem dX9_readCommand_6 : decode cX9_readCommand 6 = .ok (.arraylength, 1) := by decide +kernel
theorem dX9_readCommand_7 : decode cX9_readCommand 7 = .ok (.if_icmp .ge 38, 3) := by decide +kernel
theorem dX9_readCommand_10 : decode cX9_readCommand 10 = .ok (.aload_n 0, 1) := by decide +kernel
theorem dX9_readCommand_11 : decode cX9_readCommand 11 = .ok (.getstatic 42, 3) := by decide +kernel
theorem dX9_readCommand_14 : decode cX9_readCommand 14 = .ok (.iload_n 1, 1) := by decide +kernel
theorem dX9_readCommand_15 : decode cX9_readCommand 15 = .ok (.aaload, 1) := by decide +kernel
theorem dX9_readCommand_16 : decode cX9_readCommand 16 = .ok (.getfield 48, 3) := by decide +kernel
theorem dX9_readCommand_19 : decode cX9_readCommand 19 = .ok (.iconst 0, 1) := by decide +kernel
theorem dX9_readCommand_20 : decode cX9_readCommand 20 = .ok (.invokevirtual 52, 3) := by decide +kernel
theorem dX9_readCommand_23 : decode cX9_readCommand 23 = .ok (.invokevirtual 58, 3) := by decide +kernel
theorem dX9_readCommand_26 : decode cX9_readCommand 26 = .ok (.ifCond .eq 13, 3) := by decide +kernel
theorem dX9_readCommand_29 : decode cX9_readCommand 29 = .ok (.aload_n 0, 1) := by decide +kernel
theorem dX9_readCommand_30 : decode cX9_readCommand 30 = .ok (.getstatic 42, 3) := by decide +kernel
theorem dX9_readCommand_33 : decode cX9_readCommand 33 = .ok (.iload_n 1, 1) := by decide +kernel
theorem dX9_readCommand_34 : decode cX9_readCommand 34 = .ok (.aaload, 1) := by decide +kernel
theorem dX9_readCommand_35 : decode cX9_readCommand 35 = .ok (.invokevirtual 61, 3) := by decide +kernel
theorem dX9_readCommand_38 : decode cX9_readCommand 38 = .ok (.ireturn, 1) := by decide +kernel
theorem dX9_readCommand_39 : decode cX9_readCommand 39 = .ok (.iinc 1 1, 3) := by decide +kernel
theorem dX9_readCommand_42 : decode cX9_readCommand 42 = .ok (.goto (-40), 3) := by decide +kernel
theorem dX9_readCommand_45 : decode cX9_readCommand 45 = .ok (.iconst 0, 1) := by decide +kernel
theorem dX9_readCommand_46 : decode cX9_readCommand 46 = .ok (.ireturn, 1) := by decide +kernel
theorem dX9_readAs_0 : decode cX9_readAs 0 = .ok (.aload_n 0, 1) := by decide +kernel
theorem dX9_readAs_1 : decode cX9_readAs 1 = .ok (.iconst 0, 1) := by decide +kernel
theorem dX9_readAs_2 : decode cX9_readAs 2 = .ok (.putfield 65, 3) := by decide +kernel
theorem dX9_readAs_5 : decode cX9_readAs 5 = .ok (.aload_n 0, 1) := by decide +kernel
theorem dX9_readAs_6 : decode cX9_readAs 6 = .ok (.iconst 0, 1) := by decide +kernel
theorem dX9_readAs_7 : decode cX9_readAs 7 = .ok (.putfield 68, 3) := by decide +kernel
theorem dX9_readAs_10 : decode cX9_readAs 10 = .ok (.iconst 0, 1) := by decide +kernel
theorem dX9_readAs_11 : decode cX9_readAs 11 = .ok (.istore_n 2, 1) := by decide +kernel
theorem dX9_readAs_12 : decode cX9_readAs 12 = .ok (.iload_n 2, 1) := by decide +kernel
theorem dX9_readAs_13 : decode cX9_readAs 13 = .ok (.aload_n 1, 1) := by decide +kernel
theorem dX9_readAs_14 : decode cX9_readAs 14 = .ok (.getfield 48, 3) := by decide +kernel
theorem dX9_readAs_17 : decode cX9_readAs 17 = .ok (.invokevirtual 72, 3) := by decide +kernel
theorem dX9_readAs_20 : decode cX9_readAs 20 = .ok (.if_icmp .ge 26, 3) := by decide +kernel
theorem dX9_readAs_23 : decode cX9_readAs 23 = .ok (.aload_n 0, 1) := by decide +kernel
theorem dX9_readAs_24 : decode cX9_readAs 24 = .ok (.aload_n 1, 1) := by decide +kernel
theorem dX9_readAs_25 : decode cX9_readAs 25 = .ok (.getfield 48, 3) := by decide +kernel
theorem dX9_readAs_28 : decode cX9_readAs 28 = .ok (.iload_n 2, 1) := by decide +kernel
theorem dX9_readAs_29 : decode cX9_readAs 29 = .ok (.invokevirtual 52, 3) := by decide +kernel
theorem dX9_readAs_32 : decode cX9_readAs 32 = .ok (.invokevirtual 75, 3) := by decide +kernel
theorem dX9_readAs_35 : decode cX9_readAs 35 = .ok (.ifCond .ne 5, 3) := by decide +kernel
theorem dX9_readAs_38 : decode cX9_readAs 38 = .ok (.iconst 0, 1) := by decide +kernel
theorem dX9_readAs_39 : decode cX9_readAs 39 = .ok (.ireturn, 1) := by decide +kernel
theorem dX9_readAs_40 : decode cX9_readAs 40 = .ok (.iinc 2 1, 3) := by decide +kernel
theorem dX9_readAs_43 : decode cX9_readAs 43 = .ok (.goto (-31), 3) := by decide +kernel
theorem dX9_readAs_46 : decode cX9_readAs 46 = .ok (.aload_n 0, 1) := by decide +kernel
theorem dX9_readAs_47 : decode cX9_readAs 47 = .ok (.getfield 15, 3) := by decide +kernel
theorem dX9_readAs_50 : decode cX9_readAs 50 = .ok (.aload_n 0, 1) := by decide +kernel
theorem dX9_readAs_51 : decode cX9_readAs 51 = .ok (.getfield 31, 3) := by decide +kernel
theorem dX9_readAs_54 : decode cX9_readAs 54 = .ok (.aaload, 1) := by decide +kernel
theorem dX9_readAs_55 : decode cX9_readAs 55 = .ok (.aload_n 1, 1) := by decide +kernel
theorem dX9_readAs_56 : decode cX9_readAs 56 = .ok (.aload_n 0, 1) := by decide +kernel
theorem dX9_readAs_57 : decode cX9_readAs 57 = .ok (.getfield 19, 3) := by decide +kernel
theorem dX9_readAs_60 : decode cX9_readAs 60 = .ok (.iconst 0, 1) := by decide +kernel
theorem dX9_readAs_61 : decode cX9_readAs 61 = .ok (.iaload, 1) := by decide +kernel
theorem dX9_readAs_62 : decode cX9_readAs 62 = .ok (.aload_n 0, 1) := by decide +kernel
theorem dX9_readAs_63 : decode cX9_readAs 63 = .ok (.getfield 19, 3) := by decide +kernel
theorem dX9_readAs_66 : decode cX9_readAs 66 = .ok (.iconst 1, 1) := by decide +kernel
theorem dX9_readAs_67 : decode cX9_readAs 67 = .ok (.iaload, 1) := by decide +kernel
theorem dX9_readAs_68 : decode cX9_readAs 68 = .ok (.aload_n 0, 1) := by decide +kernel
theorem dX9_readAs_69 : decode cX9_readAs 69 = .ok (.getfield 19, 3) := by decide +kernel
theorem dX9_readAs_72 : decode cX9_readAs 72 = .ok (.iconst 2, 1) := by decide +kernel
theorem dX9_readAs_73 : decode cX9_readAs 73 = .ok (.iaload, 1) := by decide +kernel
theorem dX9_readAs_74 : decode cX9_readAs 74 = .ok (.invokevirtual 78, 3) := by decide +kernel
theorem dX9_readAs_77 : decode cX9_readAs 77 = .ok (.aload_n 0, 1) := by decide +kernel
theorem dX9_readAs_78 : decode cX9_readAs 78 = .ok (.dup, 1) := by decide +kernel
theorem dX9_readAs_79 : decode cX9_readAs 79 = .ok (.getfield 31, 3) := by decide +kernel
theorem dX9_readAs_82 : decode cX9_readAs 82 = .ok (.iconst 1, 1) := by decide +kernel
theorem dX9_readAs_83 : decode cX9_readAs 83 = .ok (.iadd, 1) := by decide +kernel
theorem dX9_readAs_84 : decode cX9_readAs 84 = .ok (.putfield 31, 3) := by decide +kernel
theorem dX9_readAs_87 : decode cX9_readAs 87 = .ok (.iconst 1, 1) := by decide +kernel
theorem dX9_readAs_88 : decode cX9_readAs 88 = .ok (.ireturn, 1) := by decide +kernel
theorem dX9_readPart_0 : decode cX9_readPart 0 = .ok (.iload_n 1, 1) := by decide +kernel
theorem dX9_readPart_1 : decode cX9_readPart 1 = .ok (.bipush 43, 2) := by decide +kernel
theorem dX9_readPart_3 : decode cX9_readPart 3 = .ok (.if_icmp .ne 32, 3) := by decide +kernel
theorem dX9_readPart_6 : decode cX9_readPart 6 = .ok (.aload_n 0, 1) := by decide +kernel
theorem dX9_readPart_7 : decode cX9_readPart 7 = .ok (.aload_n 0, 1) := by decide +kernel
theorem dX9_readPart_8 : decode cX9_readPart 8 = .ok (.bipush 45, 2) := by decide +kernel
theorem dX9_readPart_10 : decode cX9_readPart 10 = .ok (.invokevirtual 58, 3) := by decide +kernel
theorem dX9_readPart_13 : decode cX9_readPart 13 = .ok (.putfield 68, 3) := by decide +kernel
theorem dX9_readPart_16 : decode cX9_readPart 16 = .ok (.aload_n 0, 1) := by decide +kernel
theorem dX9_readPart_17 : decode cX9_readPart 17 = .ok (.aload_n 0, 1) := by decide +kernel
theorem dX9_readPart_18 : decode cX9_readPart 18 = .ok (.getfield 68, 3) := by decide +kernel
theorem dX9_readPart_21 : decode cX9_readPart 21 = .ok (.ifCond .eq 8, 3) := by decide +kernel
theorem dX9_readPart_24 : decode cX9_readPart 24 = .ok (.bipush 45, 2) := by decide +kernel
theorem dX9_readPart_26 : decode cX9_readPart 26 = .ok (.goto 5, 3) := by decide +kernel
theorem dX9_readPart_29 : decode cX9_readPart 29 = .ok (.bipush 43, 2) := by decide +kernel
theorem dX9_readPart_31 : decode cX9_readPart 31 = .ok (.invokevirtual 38, 3) := by decide +kernel
theorem dX9_readPart_34 : decode cX9_readPart 34 = .ok (.ireturn, 1) := by decide +kernel
theorem dX9_readPart_35 : decode cX9_readPart 35 = .ok (.iload_n 1, 1) := by decide +kernel
theorem dX9_readPart_36 : decode cX9_readPart 36 = .ok (.bipush 48, 2) := by decide +kernel
theorem dX9_readPart_38 : decode cX9_readPart 38 = .ok (.if_icmp .ne 9, 3) := by decide +kernel
theorem dX9_readPart_41 : decode cX9_readPart 41 = .ok (.aload_n 0, 1) := by decide +kernel
theorem dX9_readPart_42 : decode cX9_readPart 42 = .ok (.iconst 1, 1) := by decide +kernel
theorem dX9_readPart_43 : decode cX9_readPart 43 = .ok (.invokevirtual 82, 3) := by decide +kernel
theorem dX9_readPart_46 : decode cX9_readPart 46 = .ok (.ireturn, 1) := by decide +kernel
theorem dX9_readPart_47 : decode cX9_readPart 47 = .ok (.iload_n 1, 1) := by decide +kernel
theorem dX9_readPart_48 : decode cX9_readPart 48 = .ok (.bipush 57, 2) := by decide +kernel
theorem dX9_readPart_50 : decode cX9_readPart 50 = .ok (.if_icmp .ne 11, 3) := by decide +kernel
theorem dX9_readPart_53 : decode cX9_readPart 53 = .ok (.aload_n 0, 1) := by decide +kernel
theorem dX9_readPart_54 : decode cX9_readPart 54 = .ok (.iconst 2, 1) := by decide +kernel
theorem dX9_readPart_55 : decode cX9_readPart 55 = .ok (.invokevirtual 82, 3) := by decide +kernel
theorem dX9_readPart_58 : decode cX9_readPart 58 = .ok (.goto 8, 3) := by decide +kernel
theorem dX9_readPart_61 : decode cX9_readPart 61 = .ok (.aload_n 0, 1) := by decide +kernel
theorem dX9_readPart_62 : decode cX9_readPart 62 = .ok (.iload_n 1, 1) := by decide +kernel
theorem dX9_readPart_63 : decode cX9_readPart 63 = .ok (.invokevirtual 38, 3) := by decide +kernel
theorem dX9_readPart_66 : decode cX9_readPart 66 = .ok (.ireturn, 1) := by decide +kernel
theorem dX9_readNumber_0 : decode cX9_readNumber 0 = .ok (.aload_n 0, 1) := by decide +kernel
theorem dX9_readNumber_1 : decode cX9_readNumber 1 = .ok (.invokevirtual 86, 3) := by decide +kernel
theorem dX9_readNumber_4 : decode cX9_readNumber 4 = .ok (.ifCond .ne 5, 3) := by decide +kernel
theorem dX9_readNumber_7 : decode cX9_readNumber 7 = .ok (.iconst 0, 1) := by decide +kernel
theorem dX9_readNumber_8 : decode cX9_readNumber 8 = .ok (.ireturn, 1) := by decide +kernel
theorem dX9_readNumber_9 : decode cX9_readNumber 9 = .ok (.iconst 0, 1) := by decide +kernel
theorem dX9_readNumber_10 : decode cX9_readNumber 10 = .ok (.istore_n 2, 1) := by decide +kernel
theorem dX9_readNumber_11 : decode cX9_readNumber 11 = .ok (.iconst 0, 1) := by decide +kernel
theorem dX9_readNumber_12 : decode cX9_readNumber 12 = .ok (.istore_n 3, 1) := by decide +kernel
theorem dX9_readNumber_13 : decode cX9_readNumber 13 = .ok (.iload_n 3, 1) := by decide +kernel
theorem dX9_readNumber_14 : decode cX9_readNumber 14 = .ok (.iload_n 1, 1) := by decide +kernel
theorem dX9_readNumber_15 : decode cX9_readNumber 15 = .ok (.if_icmp .ge 44, 3) := by decide +kernel
theorem dX9_readNumber_18 : decode cX9_readNumber 18 = .ok (.aload_n 0, 1) := by decide +kernel
theorem dX9_readNumber_19 : decode cX9_readNumber 19 = .ok (.invokevirtual 86, 3) := by decide +kernel
theorem dX9_readNumber_22 : decode cX9_readNumber 22 = .ok (.ifCond .eq 37, 3) := by decide +kernel
theorem dX9_readNumber_25 : decode cX9_readNumber 25 = .ok (.iload_n 2, 1) := by decide +kernel
theorem dX9_readNumber_26 : decode cX9_readNumber 26 = .ok (.bipush 10, 2) := by decide +kernel
theorem dX9_readNumber_28 : decode cX9_readNumber 28 = .ok (.imul, 1) := by decide +kernel
theorem dX9_readNumber_29 : decode cX9_readNumber 29 = .ok (.aload_n 0, 1) := by decide +kernel
theorem dX9_readNumber_30 : decode cX9_readNumber 30 = .ok (.getfield 9, 3) := by decide +kernel
theorem dX9_readNumber_33 : decode cX9_readNumber 33 = .ok (.aload_n 0, 1) := by decide +kernel
theorem dX9_readNumber_34 : decode cX9_readNumber 34 = .ok (.getfield 28, 3) := by decide +kernel
theorem dX9_readNumber_37 : decode cX9_readNumber 37 = .ok (.caload, 1) := by decide +kernel
theorem dX9_readNumber_38 : decode cX9_readNumber 38 = .ok (.iadd, 1) := by decide +kernel
theorem dX9_readNumber_39 : decode cX9_readNumber 39 = .ok (.bipush 48, 2) := by decide +kernel
theorem dX9_readNumber_41 : decode cX9_readNumber 41 = .ok (.isub, 1) := by decide +kernel
theorem dX9_readNumber_42 : decode cX9_readNumber 42 = .ok (.istore_n 2, 1) := by decide +kernel
theorem dX9_readNumber_43 : decode cX9_readNumber 43 = .ok (.aload_n 0, 1) := by decide +kernel
theorem dX9_readNumber_44 : decode cX9_readNumber 44 = .ok (.dup, 1) := by decide +kernel
theorem dX9_readNumber_45 : decode cX9_readNumber 45 = .ok (.getfield 28, 3) := by decide +kernel
theorem dX9_readNumber_48 : decode cX9_readNumber 48 = .ok (.iconst 1, 1) := by decide +kernel
theorem dX9_readNumber_49 : decode cX9_readNumber 49 = .ok (.iadd, 1) := by decide +kernel
theorem dX9_readNumber_50 : decode cX9_readNumber 50 = .ok (.putfield 28, 3) := by decide +kernel
theorem dX9_readNumber_53 : decode cX9_readNumber 53 = .ok (.iinc 3 1, 3) := by decide +kernel
theorem dX9_readNumber_56 : decode cX9_readNumber 56 = .ok (.goto (-43), 3) := by decide +kernel
theorem dX9_readNumber_59 : decode cX9_readNumber 59 = .ok (.aload_n 0, 1) := by decide +kernel
theorem dX9_readNumber_60 : decode cX9_readNumber 60 = .ok (.getfield 65, 3) := by decide +kernel
theorem dX9_readNumber_63 : decode cX9_readNumber 63 = .ok (.iconst 3, 1) := by decide +kernel
theorem dX9_readNumber_64 : decode cX9_readNumber 64 = .ok (.if_icmp .ge 35, 3) := by decide +kernel
theorem dX9_readNumber_67 : decode cX9_readNumber 67 = .ok (.aload_n 0, 1) := by decide +kernel
theorem dX9_readNumber_68 : decode cX9_readNumber 68 = .ok (.getfield 19, 3) := by decide +kernel
theorem dX9_readNumber_71 : decode cX9_readNumber 71 = .ok (.aload_n 0, 1) := by decide +kernel
theorem dX9_readNumber_72 : decode cX9_readNumber 72 = .ok (.getfield 65, 3) := by decide +kernel
theorem dX9_readNumber_75 : decode cX9_readNumber 75 = .ok (.aload_n 0, 1) := by decide +kernel
theorem dX9_readNumber_76 : decode cX9_readNumber 76 = .ok (.getfield 68, 3) := by decide +kernel
theorem dX9_readNumber_79 : decode cX9_readNumber 79 = .ok (.ifCond .eq 8, 3) := by decide +kernel
theorem dX9_readNumber_82 : decode cX9_readNumber 82 = .ok (.iload_n 2, 1) := by decide +kernel
theorem dX9_readNumber_83 : decode cX9_readNumber 83 = .ok (.ineg, 1) := by decide +kernel
theorem dX9_readNumber_84 : decode cX9_readNumber 84 = .ok (.goto 4, 3) := by decide +kernel
theorem dX9_readNumber_87 : decode cX9_readNumber 87 = .ok (.iload_n 2, 1) := by decide +kernel
theorem dX9_readNumber_88 : decode cX9_readNumber 88 = .ok (.iastore, 1) := by decide +kernel
theorem dX9_readNumber_89 : decode cX9_readNumber 89 = .ok (.aload_n 0, 1) := by decide +kernel
theorem dX9_readNumber_90 : decode cX9_readNumber 90 = .ok (.dup, 1) := by decide +kernel
theorem dX9_readNumber_91 : decode cX9_readNumber 91 = .ok (.getfield 65, 3) := by decide +kernel
theorem dX9_readNumber_94 : decode cX9_readNumber 94 = .ok (.iconst 1, 1) := by decide +kernel
theorem dX9_readNumber_95 : decode cX9_readNumber 95 = .ok (.iadd, 1) := by decide +kernel
theorem dX9_readNumber_96 : decode cX9_readNumber 96 = .ok (.putfield 65, 3) := by decide +kernel
theorem dX9_readNumber_99 : decode cX9_readNumber 99 = .ok (.iconst 1, 1) := by decide +kernel
theorem dX9_readNumber_100 : decode cX9_readNumber 100 = .ok (.ireturn, 1) := by decide +kernel
theorem dX9_readExactly_0 : decode cX9_readExactly 0 = .ok (.aload_n 0, 1) := by decide +kernel
theorem dX9_readExactly_1 : decode cX9_readExactly 1 = .ok (.iload_n 1, 1) := by decide +kernel
theorem dX9_readExactly_2 : decode cX9_readExactly 2 = .ok (.invokevirtual 58, 3) := by decide +kernel
theorem dX9_readExactly_5 : decode cX9_readExactly 5 = .ok (.ifCond .ne 5, 3) := by decide +kernel
theorem dX9_readExactly_8 : decode cX9_readExactly 8 = .ok (.iconst 0, 1) := by decide +kernel
theorem dX9_readExactly_9 : decode cX9_readExactly 9 = .ok (.ireturn, 1) := by decide +kernel
theorem dX9_readExactly_10 : decode cX9_readExactly 10 = .ok (.aload_n 0, 1) := by decide +kernel
theorem dX9_readExactly_11 : decode cX9_readExactly 11 = .ok (.dup, 1) := by decide +kernel
theorem dX9_readExactly_12 : decode cX9_readExactly 12 = .ok (.getfield 28, 3) := by decide +kernel
theorem dX9_readExactly_15 : decode cX9_readExactly 15 = .ok (.iconst 1, 1) := by decide +kernel
theorem dX9_readExactly_16 : decode cX9_readExactly 16 = .ok (.iadd, 1) := by decide +kernel
theorem dX9_readExactly_17 : decode cX9_readExactly 17 = .ok (.putfield 28, 3) := by decide +kernel
theorem dX9_readExactly_20 : decode cX9_readExactly 20 = .ok (.iconst 1, 1) := by decide +kernel
theorem dX9_readExactly_21 : decode cX9_readExactly 21 = .ok (.ireturn, 1) := by decide +kernel
theorem dX9_isNext_0 : decode cX9_isNext 0 = .ok (.aload_n 0, 1) := by decide +kernel
theorem dX9_isNext_1 : decode cX9_isNext 1 = .ok (.getfield 28, 3) := by decide +kernel
theorem dX9_isNext_4 : decode cX9_isNext 4 = .ok (.aload_n 0, 1) := by decide +kernel
theorem dX9_isNext_5 : decode cX9_isNext 5 = .ok (.getfield 24, 3) := by decide +kernel
theorem dX9_isNext_8 : decode cX9_isNext 8 = .ok (.if_icmp .ge 20, 3) := by decide +kernel
theorem dX9_isNext_11 : decode cX9_isNext 11 = .ok (.aload_n 0, 1) := by decide +kernel
theorem dX9_isNext_12 : decode cX9_isNext 12 = .ok (.getfield 9, 3) := by decide +kernel
theorem dX9_isNext_15 : decode cX9_isNext 15 = .ok (.aload_n 0, 1) := by decide +kernel
theorem dX9_isNext_16 : decode cX9_isNext 16 = .ok (.getfield 28, 3) := by decide +kernel
theorem dX9_isNext_19 : decode cX9_isNext 19 = .ok (.caload, 1) := by decide +kernel
theorem dX9_isNext_20 : decode cX9_isNext 20 = .ok (.iload_n 1, 1) := by decide +kernel
theorem dX9_isNext_21 : decode cX9_isNext 21 = .ok (.if_icmp .ne 7, 3) := by decide +kernel
theorem dX9_isNext_24 : decode cX9_isNext 24 = .ok (.iconst 1, 1) := by decide +kernel
theorem dX9_isNext_25 : decode cX9_isNext 25 = .ok (.goto 4, 3) := by decide +kernel
theorem dX9_isNext_28 : decode cX9_isNext 28 = .ok (.iconst 0, 1) := by decide +kernel
theorem dX9_isNext_29 : decode cX9_isNext 29 = .ok (.ireturn, 1) := by decide +kernel
theorem dX9_isDigitNext_0 : decode cX9_isDigitNext 0 = .ok (.aload_n 0, 1) := by decide +kernel
theorem dX9_isDigitNext_1 : decode cX9_isDigitNext 1 = .ok (.getfield 28, 3) := by decide +kernel
theorem dX9_isDigitNext_4 : decode cX9_isDigitNext 4 = .ok (.aload_n 0, 1) := by decide +kernel
theorem dX9_isDigitNext_5 : decode cX9_isDigitNext 5 = .ok (.getfield 24, 3) := by decide +kernel
theorem dX9_isDigitNext_8 : decode cX9_isDigitNext 8 = .ok (.if_icmp .ge 35, 3) := by decide +kernel
theorem dX9_isDigitNext_11 : decode cX9_isDigitNext 11 = .ok (.aload_n 0, 1) := by decide +kernel
theorem dX9_isDigitNext_12 : decode cX9_isDigitNext 12 = .ok (.getfield 9, 3) := by decide +kernel
theorem dX9_isDigitNext_15 : decode cX9_isDigitNext 15 = .ok (.aload_n 0, 1) := by decide +kernel
theorem dX9_isDigitNext_16 : decode cX9_isDigitNext 16 = .ok (.getfield 28, 3) := by decide +kernel
theorem dX9_isDigitNext_19 : decode cX9_isDigitNext 19 = .ok (.caload, 1) := by decide +kernel
theorem dX9_isDigitNext_20 : decode cX9_isDigitNext 20 = .ok (.bipush 48, 2) := by decide +kernel
theorem dX9_isDigitNext_22 : decode cX9_isDigitNext 22 = .ok (.if_icmp .lt 21, 3) := by decide +kernel
theorem dX9_isDigitNext_25 : decode cX9_isDigitNext 25 = .ok (.aload_n 0, 1) := by decide +kernel
theorem dX9_isDigitNext_26 : decode cX9_isDigitNext 26 = .ok (.getfield 9, 3) := by decide +kernel
theorem dX9_isDigitNext_29 : decode cX9_isDigitNext 29 = .ok (.aload_n 0, 1) := by decide +kernel
theorem dX9_isDigitNext_30 : decode cX9_isDigitNext 30 = .ok (.getfield 28, 3) := by decide +kernel
theorem dX9_isDigitNext_33 : decode cX9_isDigitNext 33 = .ok (.caload, 1) := by decide +kernel
theorem dX9_isDigitNext_34 : decode cX9_isDigitNext 34 = .ok (.bipush 57, 2) := by decide +kernel
theorem dX9_isDigitNext_36 : decode cX9_isDigitNext 36 = .ok (.if_icmp .gt 7, 3) := by decide +kernel
theorem dX9_isDigitNext_39 : decode cX9_isDigitNext 39 = .ok (.iconst 1, 1) := by decide +kernel
theorem dX9_isDigitNext_40 : decode cX9_isDigitNext 40 = .ok (.goto 4, 3) := by decide +kernel
theorem dX9_isDigitNext_43 : decode cX9_isDigitNext 43 = .ok (.iconst 0, 1) := by decide +kernel
theorem dX9_isDigitNext_44 : decode cX9_isDigitNext 44 = .ok (.ireturn, 1) := by decide +kernel
theorem dX10_init_0 : decode cX10_init 0 = .ok (.aload_n 0, 1) := by decide +kernel
theorem dX10_init_1 : decode cX10_init 1 = .ok (.invokespecial 1, 3) := by decide +kernel
theorem dX10_init_4 : decode cX10_init 4 = .ok (.aload_n 0, 1) := by decide +kernel
theorem dX10_init_5 : decode cX10_init 5 = .ok (.new 7, 3) := by decide +kernel
theorem dX10_init_8 : decode cX10_init 8 = .ok (.dup, 1) := by decide +kernel
theorem dX10_init_9 : decode cX10_init 9 = .ok (.invokespecial 9, 3) := by decide +kernel
theorem dX10_init_12 : decode cX10_init 12 = .ok (.putfield 10, 3) := by decide +kernel
theorem dX10_init_15 : decode cX10_init 15 = .ok (.aload_n 0, 1) := by decide +kernel
theorem dX10_init_16 : decode cX10_init 16 = .ok (.new 7, 3) := by decide +kernel
theorem dX10_init_19 : decode cX10_init 19 = .ok (.dup, 1) := by decide +kernel
theorem dX10_init_20 : decode cX10_init 20 = .ok (.invokespecial 9, 3) := by decide +kernel
theorem dX10_init_23 : decode cX10_init 23 = .ok (.putfield 16, 3) := by decide +kernel
theorem dX10_init_26 : decode cX10_init 26 = .ok (.aload_n 0, 1) := by decide +kernel
theorem dX10_init_27 : decode cX10_init 27 = .ok (.new 7, 3) := by decide +kernel
theorem dX10_init_30 : decode cX10_init 30 = .ok (.dup, 1) := by decide +kernel
theorem dX10_init_31 : decode cX10_init 31 = .ok (.invokespecial 9, 3) := by decide +kernel
theorem dX10_init_34 : decode cX10_init 34 = .ok (.putfield 19, 3) := by decide +kernel
theorem dX10_init_37 : decode cX10_init 37 = .ok (.aload_n 0, 1) := by decide +kernel
theorem dX10_init_38 : decode cX10_init 38 = .ok (.new 22, 3) := by decide +kernel
theorem dX10_init_41 : decode cX10_init 41 = .ok (.dup, 1) := by decide +kernel
theorem dX10_init_42 : decode cX10_init 42 = .ok (.invokespecial 24, 3) := by decide +kernel
theorem dX10_init_45 : decode cX10_init 45 = .ok (.putfield 25, 3) := by decide +kernel
theorem dX10_init_48 : decode cX10_init 48 = .ok (.aload_n 0, 1) := by decide +kernel
theorem dX10_init_49 : decode cX10_init 49 = .ok (.new 29, 3) := by decide +kernel
theorem dX10_init_52 : decode cX10_init 52 = .ok (.dup, 1) := by decide +kernel
theorem dX10_init_53 : decode cX10_init 53 = .ok (.invokespecial 31, 3) := by decide +kernel
theorem dX10_init_56 : decode cX10_init 56 = .ok (.putfield 32, 3) := by decide +kernel
theorem dX10_init_59 : decode cX10_init 59 = .ok (.aload_n 0, 1) := by decide +kernel
theorem dX10_init_60 : decode cX10_init 60 = .ok (.new 36, 3) := by decide +kernel
theorem dX10_init_63 : decode cX10_init 63 = .ok (.dup, 1) := by decide +kernel
theorem dX10_init_64 : decode cX10_init 64 = .ok (.invokespecial 38, 3) := by decide +kernel
theorem dX10_init_67 : decode cX10_init 67 = .ok (.putfield 39, 3) := by decide +kernel
theorem dX10_init_70 : decode cX10_init 70 = .ok (.aload_n 0, 1) := by decide +kernel
theorem dX10_init_71 : decode cX10_init 71 = .ok (.new 43, 3) := by decide +kernel
theorem dX10_init_74 : decode cX10_init 74 = .ok (.dup, 1) := by decide +kernel
theorem dX10_init_75 : decode cX10_init 75 = .ok (.invokespecial 45, 3) := by decide +kernel
theorem dX10_init_78 : decode cX10_init 78 = .ok (.putfield 46, 3) := by decide +kernel
theorem dX10_init_81 : decode cX10_init 81 = .ok (.aload_n 0, 1) := by decide +kernel
theorem dX10_init_82 : decode cX10_init 82 = .ok (.new 50, 3) := by decide +kernel
theorem dX10_init_85 : decode cX10_init 85 = .ok (.dup, 1) := by decide +kernel
theorem dX10_init_86 : decode cX10_init 86 = .ok (.invokespecial 52, 3) := by decide +kernel
theorem dX10_init_89 : decode cX10_init 89 = .ok (.putfield 53, 3) := by decide +kernel
theorem dX10_init_92 : decode cX10_init 92 = .ok (.aload_n 0, 1) := by decide +kernel
theorem dX10_init_93 : decode cX10_init 93 = .ok (.new 57, 3) := by decide +kernel
theorem dX10_init_96 : decode cX10_init 96 = .ok (.dup, 1) := by decide +kernel
theorem dX10_init_97 : decode cX10_init 97 = .ok (.invokespecial 59, 3) := by decide +kernel
theorem dX10_init_100 : decode cX10_init 100 = .ok (.putfield 60, 3) := by decide +kernel
theorem dX10_init_103 : decode cX10_init 103 = .ok (.aload_n 0, 1) := by decide +kernel
theorem dX10_init_104 : decode cX10_init 104 = .ok (.iconst (-1), 1) := by decide +kernel
theorem dX10_init_105 : decode cX10_init 105 = .ok (.putfield 64, 3) := by decide +kernel
theorem dX10_init_108 : decode cX10_init 108 = .ok (.return_, 1) := by decide +kernel
theorem dX10_person_0 : decode cX10_person 0 = .ok (.aload_n 0, 1) := by decide +kernel
theorem dX10_person_1 : decode cX10_person 1 = .ok (.getfield 53, 3) := by decide +kernel
theorem dX10_person_4 : decode cX10_person 4 = .ok (.iload_n 2, 1) := by decide +kernel
theorem dX10_person_5 : decode cX10_person 5 = .ok (.ifCond .eq 9, 3) := by decide +kernel
theorem dX10_person_8 : decode cX10_person 8 = .ok (.getstatic 68, 3) := by decide +kernel
theorem dX10_person_11 : decode cX10_person 11 = .ok (.goto 6, 3) := by decide +kernel
theorem dX10_person_14 : decode cX10_person 14 = .ok (.getstatic 74, 3) := by decide +kernel
theorem dX10_person_17 : decode cX10_person 17 = .ok (.iload_n 1, 1) := by decide +kernel
theorem dX10_person_18 : decode cX10_person 18 = .ok (.iconst 0, 1) := by decide +kernel
theorem dX10_person_19 : decode cX10_person 19 = .ok (.iconst 0, 1) := by decide +kernel
theorem dX10_person_20 : decode cX10_person 20 = .ok (.invokevirtual 77, 3) := by decide +kernel
theorem dX10_person_23 : decode cX10_person 23 = .ok (.aload_n 0, 1) := by decide +kernel
theorem dX10_person_24 : decode cX10_person 24 = .ok (.invokevirtual 81, 3) := by decide +kernel
theorem dX10_person_27 : decode cX10_person 27 = .ok (.ireturn, 1) := by decide +kernel
theorem dX10_friends_0 : decode cX10_friends 0 = .ok (.aload_n 0, 1) := by decide +kernel
theorem dX10_friends_1 : decode cX10_friends 1 = .ok (.getfield 53, 3) := by decide +kernel
theorem dX10_friends_4 : decode cX10_friends 4 = .ok (.getstatic 85, 3) := by decide +kernel
theorem dX10_friends_7 : decode cX10_friends 7 = .ok (.iload_n 1, 1) := by decide +kernel
theorem dX10_friends_8 : decode cX10_friends 8 = .ok (.iload_n 2, 1) := by decide +kernel
theorem dX10_friends_9 : decode cX10_friends 9 = .ok (.iload_n 3, 1) := by decide +kernel
theorem dX10_friends_10 : decode cX10_friends 10 = .ok (.invokevirtual 77, 3) := by decide +kernel
theorem dX10_friends_13 : decode cX10_friends 13 = .ok (.aload_n 0, 1) := by decide +kernel
theorem dX10_friends_14 : decode cX10_friends 14 = .ok (.invokevirtual 81, 3) := by decide +kernel
theorem dX10_friends_17 : decode cX10_friends 17 = .ok (.ireturn, 1) := by decide +kernel
theorem dX10_round_0 : decode cX10_round 0 = .ok (.aload_n 0, 1) := by decide +kernel
theorem dX10_round_1 : decode cX10_round 1 = .ok (.getfield 53, 3) := by decide +kernel
theorem dX10_round_4 : decode cX10_round 4 = .ok (.getstatic 88, 3) := by decide +kernel
theorem dX10_round_7 : decode cX10_round 7 = .ok (.iconst 0, 1) := by decide +kernel
theorem dX10_round_8 : decode cX10_round 8 = .ok (.iconst 0, 1) := by decide +kernel
theorem dX10_round_9 : decode cX10_round 9 = .ok (.iconst 0, 1) := by decide +kernel
theorem dX10_round_10 : decode cX10_round 10 = .ok (.invokevirtual 77, 3) := by decide +kernel
theorem dX10_round_13 : decode cX10_round 13 = .ok (.aload_n 0, 1) := by decide +kernel
theorem dX10_round_14 : decode cX10_round 14 = .ok (.invokevirtual 81, 3) := by decide +kernel
theorem dX10_round_17 : decode cX10_round 17 = .ok (.ireturn, 1) := by decide +kernel
theorem dX10_fact_0 : decode cX10_fact 0 = .ok (.aload_n 0, 1) := by decide +kernel
theorem dX10_fact_1 : decode cX10_fact 1 = .ok (.getfield 53, 3) := by decide +kernel
theorem dX10_fact_4 : decode cX10_fact 4 = .ok (.getstatic 91, 3) := by decide +kernel
theorem dX10_fact_7 : decode cX10_fact 7 = .ok (.iload_n 1, 1) := by decide +kernel
theorem dX10_fact_8 : decode cX10_fact 8 = .ok (.iload_n 2, 1) := by decide +kernel
theorem dX10_fact_9 : decode cX10_fact 9 = .ok (.iconst 0, 1) := by decide +kernel
theorem dX10_fact_10 : decode cX10_fact 10 = .ok (.invokevirtual 77, 3) := by decide +kernel
theorem dX10_fact_13 : decode cX10_fact 13 = .ok (.aload_n 0, 1) := by decide +kernel
theorem dX10_fact_14 : decode cX10_fact 14 = .ok (.invokevirtual 81, 3) := by decide +kernel
theorem dX10_fact_17 : decode cX10_fact 17 = .ok (.ireturn, 1) := by decide +kernel
theorem dX10_beam_0 : decode cX10_beam 0 = .ok (.aload_n 0, 1) := by decide +kernel
theorem dX10_beam_1 : decode cX10_beam 1 = .ok (.getfield 53, 3) := by decide +kernel
theorem dX10_beam_4 : decode cX10_beam 4 = .ok (.getstatic 94, 3) := by decide +kernel
theorem dX10_beam_7 : decode cX10_beam 7 = .ok (.iload_n 1, 1) := by decide +kernel
theorem dX10_beam_8 : decode cX10_beam 8 = .ok (.iload_n 2, 1) := by decide +kernel
theorem dX10_beam_9 : decode cX10_beam 9 = .ok (.iload_n 3, 1) := by decide +kernel
theorem dX10_beam_10 : decode cX10_beam 10 = .ok (.invokevirtual 77, 3) := by decide +kernel
theorem dX10_beam_13 : decode cX10_beam 13 = .ok (.aload_n 0, 1) := by decide +kernel
theorem dX10_beam_14 : decode cX10_beam 14 = .ok (.invokevirtual 81, 3) := by decide +kernel
theorem dX10_beam_17 : decode cX10_beam 17 = .ok (.ireturn, 1) := by decide +kernel
theorem dX10_remove_0 : decode cX10_remove 0 = .ok (.aload_n 0, 1) := by decide +kernel
theorem dX10_remove_1 : decode cX10_remove 1 = .ok (.getfield 53, 3) := by decide +kernel
theorem dX10_remove_4 : decode cX10_remove 4 = .ok (.getstatic 97, 3) := by decide +kernel
theorem dX10_remove_7 : decode cX10_remove 7 = .ok (.iload_n 1, 1) := by decide +kernel
theorem dX10_remove_8 : decode cX10_remove 8 = .ok (.iconst 0, 1) := by decide +kernel
theorem dX10_remove_9 : decode cX10_remove 9 = .ok (.iconst 0, 1) := by decide +kernel
theorem dX10_remove_10 : decode cX10_remove 10 = .ok (.invokevirtual 77, 3) := by decide +kernel
theorem dX10_remove_13 : decode cX10_remove 13 = .ok (.aload_n 0, 1) := by decide +kernel
theorem dX10_remove_14 : decode cX10_remove 14 = .ok (.invokevirtual 81, 3) := by decide +kernel
theorem dX10_remove_17 : decode cX10_remove 17 = .ok (.ireturn, 1) := by decide +kernel
theorem dX10_habit_0 : decode cX10_habit 0 = .ok (.aload_n 0, 1) := by decide +kernel
theorem dX10_habit_1 : decode cX10_habit 1 = .ok (.getfield 53, 3) := by decide +kernel
theorem dX10_habit_4 : decode cX10_habit 4 = .ok (.getstatic 100, 3) := by decide +kernel
theorem dX10_habit_7 : decode cX10_habit 7 = .ok (.iload_n 1, 1) := by decide +kernel
theorem dX10_habit_8 : decode cX10_habit 8 = .ok (.iload_n 2, 1) := by decide +kernel
theorem dX10_habit_9 : decode cX10_habit 9 = .ok (.iconst 0, 1) := by decide +kernel
theorem dX10_habit_10 : decode cX10_habit 10 = .ok (.invokevirtual 77, 3) := by decide +kernel
theorem dX10_habit_13 : decode cX10_habit 13 = .ok (.aload_n 0, 1) := by decide +kernel
theorem dX10_habit_14 : decode cX10_habit 14 = .ok (.invokevirtual 81, 3) := by decide +kernel
theorem dX10_habit_17 : decode cX10_habit 17 = .ok (.ireturn, 1) := by decide +kernel
theorem dX10_personOf_0 : decode cX10_personOf 0 = .ok (.aload_n 0, 1) := by decide +kernel
theorem dX10_personOf_1 : decode cX10_personOf 1 = .ok (.iload_n 1, 1) := by decide +kernel
theorem dX10_personOf_2 : decode cX10_personOf 2 = .ok (.invokevirtual 103, 3) := by decide +kernel
theorem dX10_personOf_5 : decode cX10_personOf 5 = .ok (.aload_n 0, 1) := by decide +kernel
theorem dX10_personOf_6 : decode cX10_personOf 6 = .ok (.getfield 10, 3) := by decide +kernel
theorem dX10_personOf_9 : decode cX10_personOf 9 = .ok (.getfield 107, 3) := by decide +kernel
theorem dX10_personOf_12 : decode cX10_personOf 12 = .ok (.astore_n 3, 1) := by decide +kernel
theorem dX10_personOf_13 : decode cX10_personOf 13 = .ok (.iload_n 2, 1) := by decide +kernel
theorem dX10_personOf_14 : decode cX10_personOf 14 = .ok (.tableswitch 107 0 7 #[46, 53, 60, 75, 81, 87, 93, 100], 46) := by decide +kernel
theorem dX10_personOf_60 : decode cX10_personOf 60 = .ok (.aload_n 3, 1) := by decide +kernel
theorem dX10_personOf_61 : decode cX10_personOf 61 = .ok (.getfield 110, 3) := by decide +kernel
theorem dX10_personOf_64 : decode cX10_personOf 64 = .ok (.iload_n 1, 1) := by decide +kernel
theorem dX10_personOf_65 : decode cX10_personOf 65 = .ok (.iaload, 1) := by decide +kernel
theorem dX10_personOf_66 : decode cX10_personOf 66 = .ok (.ireturn, 1) := by decide +kernel
theorem dX10_personOf_67 : decode cX10_personOf 67 = .ok (.aload_n 3, 1) := by decide +kernel
theorem dX10_personOf_68 : decode cX10_personOf 68 = .ok (.getfield 114, 3) := by decide +kernel
theorem dX10_personOf_71 : decode cX10_personOf 71 = .ok (.iload_n 1, 1) := by decide +kernel
theorem dX10_personOf_72 : decode cX10_personOf 72 = .ok (.iaload, 1) := by decide +kernel
theorem dX10_personOf_73 : decode cX10_personOf 73 = .ok (.ireturn, 1) := by decide +kernel
theorem dX10_personOf_74 : decode cX10_personOf 74 = .ok (.aload_n 3, 1) := by decide +kernel
theorem dX10_personOf_75 : decode cX10_personOf 75 = .ok (.getfield 117, 3) := by decide +kernel
theorem dX10_personOf_78 : decode cX10_personOf 78 = .ok (.iload_n 1, 1) := by decide +kernel
theorem dX10_personOf_79 : decode cX10_personOf 79 = .ok (.baload, 1) := by decide +kernel
theorem dX10_personOf_80 : decode cX10_personOf 80 = .ok (.ifCond .eq 7, 3) := by decide +kernel
theorem dX10_personOf_83 : decode cX10_personOf 83 = .ok (.iconst 1, 1) := by decide +kernel
theorem dX10_personOf_84 : decode cX10_personOf 84 = .ok (.goto 4, 3) := by decide +kernel
theorem dX10_personOf_87 : decode cX10_personOf 87 = .ok (.iconst 0, 1) := by decide +kernel
theorem dX10_personOf_88 : decode cX10_personOf 88 = .ok (.ireturn, 1) := by decide +kernel
theorem dX10_personOf_89 : decode cX10_personOf 89 = .ok (.aload_n 3, 1) := by decide +kernel
theorem dX10_personOf_90 : decode cX10_personOf 90 = .ok (.iload_n 1, 1) := by decide +kernel
theorem dX10_personOf_91 : decode cX10_personOf 91 = .ok (.invokevirtual 121, 3) := by decide +kernel
theorem dX10_personOf_94 : decode cX10_personOf 94 = .ok (.ireturn, 1) := by decide +kernel
theorem dX10_personOf_95 : decode cX10_personOf 95 = .ok (.aload_n 3, 1) := by decide +kernel
theorem dX10_personOf_96 : decode cX10_personOf 96 = .ok (.iload_n 1, 1) := by decide +kernel
theorem dX10_personOf_97 : decode cX10_personOf 97 = .ok (.invokevirtual 125, 3) := by decide +kernel
theorem dX10_personOf_100 : decode cX10_personOf 100 = .ok (.ireturn, 1) := by decide +kernel
theorem dX10_personOf_101 : decode cX10_personOf 101 = .ok (.aload_n 3, 1) := by decide +kernel
theorem dX10_personOf_102 : decode cX10_personOf 102 = .ok (.iload_n 1, 1) := by decide +kernel
theorem dX10_personOf_103 : decode cX10_personOf 103 = .ok (.invokevirtual 128, 3) := by decide +kernel
theorem dX10_personOf_106 : decode cX10_personOf 106 = .ok (.ireturn, 1) := by decide +kernel
theorem dX10_personOf_107 : decode cX10_personOf 107 = .ok (.aload_n 3, 1) := by decide +kernel
theorem dX10_personOf_108 : decode cX10_personOf 108 = .ok (.getfield 131, 3) := by decide +kernel
theorem dX10_personOf_111 : decode cX10_personOf 111 = .ok (.iload_n 1, 1) := by decide +kernel
theorem dX10_personOf_112 : decode cX10_personOf 112 = .ok (.iaload, 1) := by decide +kernel
theorem dX10_personOf_113 : decode cX10_personOf 113 = .ok (.ireturn, 1) := by decide +kernel
theorem dX10_personOf_114 : decode cX10_personOf 114 = .ok (.aload_n 3, 1) := by decide +kernel
theorem dX10_personOf_115 : decode cX10_personOf 115 = .ok (.getfield 134, 3) := by decide +kernel
theorem dX10_personOf_118 : decode cX10_personOf 118 = .ok (.iload_n 1, 1) := by decide +kernel
theorem dX10_personOf_119 : decode cX10_personOf 119 = .ok (.iaload, 1) := by decide +kernel
theorem dX10_personOf_120 : decode cX10_personOf 120 = .ok (.ireturn, 1) := by decide +kernel
theorem dX10_personOf_121 : decode cX10_personOf 121 = .ok (.new 137, 3) := by decide +kernel
theorem dX10_personOf_124 : decode cX10_personOf 124 = .ok (.dup, 1) := by decide +kernel
theorem dX10_personOf_125 : decode cX10_personOf 125 = .ok (.ldc 139, 2) := by decide +kernel
theorem dX10_personOf_127 : decode cX10_personOf 127 = .ok (.invokespecial 141, 3) := by decide +kernel
theorem dX10_personOf_130 : decode cX10_personOf 130 = .ok (.athrow, 1) := by decide +kernel
theorem dX10_weight_0 : decode cX10_weight 0 = .ok (.aload_n 0, 1) := by decide +kernel
theorem dX10_weight_1 : decode cX10_weight 1 = .ok (.iload_n 1, 1) := by decide +kernel
theorem dX10_weight_2 : decode cX10_weight 2 = .ok (.invokevirtual 103, 3) := by decide +kernel
theorem dX10_weight_5 : decode cX10_weight 5 = .ok (.aload_n 0, 1) := by decide +kernel
theorem dX10_weight_6 : decode cX10_weight 6 = .ok (.iload_n 2, 1) := by decide +kernel
theorem dX10_weight_7 : decode cX10_weight 7 = .ok (.invokevirtual 103, 3) := by decide +kernel
theorem dX10_weight_10 : decode cX10_weight 10 = .ok (.aload_n 0, 1) := by decide +kernel
theorem dX10_weight_11 : decode cX10_weight 11 = .ok (.getfield 10, 3) := by decide +kernel
theorem dX10_weight_14 : decode cX10_weight 14 = .ok (.getfield 107, 3) := by decide +kernel
theorem dX10_weight_17 : decode cX10_weight 17 = .ok (.getfield 144, 3) := by decide +kernel
theorem dX10_weight_20 : decode cX10_weight 20 = .ok (.iload_n 1, 1) := by decide +kernel
theorem dX10_weight_21 : decode cX10_weight 21 = .ok (.aaload, 1) := by decide +kernel
theorem dX10_weight_22 : decode cX10_weight 22 = .ok (.iload_n 2, 1) := by decide +kernel
theorem dX10_weight_23 : decode cX10_weight 23 = .ok (.iaload, 1) := by decide +kernel
theorem dX10_weight_24 : decode cX10_weight 24 = .ok (.ireturn, 1) := by decide +kernel
theorem dX10_beamOf_0 : decode cX10_beamOf 0 = .ok (.aload_n 0, 1) := by decide +kernel
theorem dX10_beamOf_1 : decode cX10_beamOf 1 = .ok (.iload_n 1, 1) := by decide +kernel
theorem dX10_beamOf_2 : decode cX10_beamOf 2 = .ok (.invokevirtual 148, 3) := by decide +kernel
theorem dX10_beamOf_5 : decode cX10_beamOf 5 = .ok (.aload_n 0, 1) := by decide +kernel
theorem dX10_beamOf_6 : decode cX10_beamOf 6 = .ok (.getfield 10, 3) := by decide +kernel
theorem dX10_beamOf_9 : decode cX10_beamOf 9 = .ok (.getfield 151, 3) := by decide +kernel
theorem dX10_beamOf_12 : decode cX10_beamOf 12 = .ok (.astore_n 3, 1) := by decide +kernel
theorem dX10_beamOf_13 : decode cX10_beamOf 13 = .ok (.iload_n 2, 1) := by decide +kernel
theorem dX10_beamOf_14 : decode cX10_beamOf 14 = .ok (.tableswitch 75 0 4 #[34, 41, 48, 55, 62], 34) := by decide +kernel
theorem dX10_beamOf_48 : decode cX10_beamOf 48 = .ok (.aload_n 3, 1) := by decide +kernel
theorem dX10_beamOf_49 : decode cX10_beamOf 49 = .ok (.getfield 155, 3) := by decide +kernel
theorem dX10_beamOf_52 : decode cX10_beamOf 52 = .ok (.iload_n 1, 1) := by decide +kernel
theorem dX10_beamOf_53 : decode cX10_beamOf 53 = .ok (.iaload, 1) := by decide +kernel
theorem dX10_beamOf_54 : decode cX10_beamOf 54 = .ok (.ireturn, 1) := by decide +kernel
theorem dX10_beamOf_55 : decode cX10_beamOf 55 = .ok (.aload_n 3, 1) := by decide +kernel
theorem dX10_beamOf_56 : decode cX10_beamOf 56 = .ok (.getfield 160, 3) := by decide +kernel
theorem dX10_beamOf_59 : decode cX10_beamOf 59 = .ok (.iload_n 1, 1) := by decide +kernel
theorem dX10_beamOf_60 : decode cX10_beamOf 60 = .ok (.iaload, 1) := by decide +kernel
theorem dX10_beamOf_61 : decode cX10_beamOf 61 = .ok (.ireturn, 1) := by decide +kernel
theorem dX10_beamOf_62 : decode cX10_beamOf 62 = .ok (.aload_n 3, 1) := by decide +kernel
theorem dX10_beamOf_63 : decode cX10_beamOf 63 = .ok (.getfield 163, 3) := by decide +kernel
theorem dX10_beamOf_66 : decode cX10_beamOf 66 = .ok (.iload_n 1, 1) := by decide +kernel
theorem dX10_beamOf_67 : decode cX10_beamOf 67 = .ok (.iaload, 1) := by decide +kernel
theorem dX10_beamOf_68 : decode cX10_beamOf 68 = .ok (.ireturn, 1) := by decide +kernel
theorem dX10_beamOf_69 : decode cX10_beamOf 69 = .ok (.aload_n 3, 1) := by decide +kernel
theorem dX10_beamOf_70 : decode cX10_beamOf 70 = .ok (.getfield 166, 3) := by decide +kernel
theorem dX10_beamOf_73 : decode cX10_beamOf 73 = .ok (.iload_n 1, 1) := by decide +kernel
theorem dX10_beamOf_74 : decode cX10_beamOf 74 = .ok (.iaload, 1) := by decide +kernel
theorem dX10_beamOf_75 : decode cX10_beamOf 75 = .ok (.ireturn, 1) := by decide +kernel
theorem dX10_beamOf_76 : decode cX10_beamOf 76 = .ok (.aload_n 3, 1) := by decide +kernel
theorem dX10_beamOf_77 : decode cX10_beamOf 77 = .ok (.iload_n 1, 1) := by decide +kernel
theorem dX10_beamOf_78 : decode cX10_beamOf 78 = .ok (.aload_n 0, 1) := by decide +kernel
theorem dX10_beamOf_79 : decode cX10_beamOf 79 = .ok (.getfield 10, 3) := by decide +kernel
theorem dX10_beamOf_82 : decode cX10_beamOf 82 = .ok (.getfield 107, 3) := by decide +kernel
theorem dX10_beamOf_85 : decode cX10_beamOf 85 = .ok (.invokevirtual 169, 3) := by decide +kernel
theorem dX10_beamOf_88 : decode cX10_beamOf 88 = .ok (.ireturn, 1) := by decide +kernel
theorem dX10_beamOf_89 : decode cX10_beamOf 89 = .ok (.new 137, 3) := by decide +kernel
theorem dX10_beamOf_92 : decode cX10_beamOf 92 = .ok (.dup, 1) := by decide +kernel
theorem dX10_beamOf_93 : decode cX10_beamOf 93 = .ok (.ldc 173, 2) := by decide +kernel
theorem dX10_beamOf_95 : decode cX10_beamOf 95 = .ok (.invokespecial 141, 3) := by decide +kernel
theorem dX10_beamOf_98 : decode cX10_beamOf 98 = .ok (.athrow, 1) := by decide +kernel
theorem dX10_lean_0 : decode cX10_lean 0 = .ok (.aload_n 0, 1) := by decide +kernel
theorem dX10_lean_1 : decode cX10_lean 1 = .ok (.iload_n 1, 1) := by decide +kernel
theorem dX10_lean_2 : decode cX10_lean 2 = .ok (.invokevirtual 103, 3) := by decide +kernel
theorem dX10_lean_5 : decode cX10_lean 5 = .ok (.aload_n 0, 1) := by decide +kernel
theorem dX10_lean_6 : decode cX10_lean 6 = .ok (.getfield 10, 3) := by decide +kernel
theorem dX10_lean_9 : decode cX10_lean 9 = .ok (.getfield 107, 3) := by decide +kernel
theorem dX10_lean_12 : decode cX10_lean 12 = .ok (.iload_n 1, 1) := by decide +kernel
theorem dX10_lean_13 : decode cX10_lean 13 = .ok (.invokevirtual 175, 3) := by decide +kernel
theorem dX10_lean_16 : decode cX10_lean 16 = .ok (.ireturn, 1) := by decide +kernel
theorem dX10_mean_0 : decode cX10_mean 0 = .ok (.aload_n 0, 1) := by decide +kernel
theorem dX10_mean_1 : decode cX10_mean 1 = .ok (.iload_n 1, 1) := by decide +kernel
theorem dX10_mean_2 : decode cX10_mean 2 = .ok (.invokevirtual 103, 3) := by decide +kernel
theorem dX10_mean_5 : decode cX10_mean 5 = .ok (.aload_n 0, 1) := by decide +kernel
theorem dX10_mean_6 : decode cX10_mean 6 = .ok (.getfield 10, 3) := by decide +kernel
theorem dX10_mean_9 : decode cX10_mean 9 = .ok (.getfield 107, 3) := by decide +kernel
theorem dX10_mean_12 : decode cX10_mean 12 = .ok (.iload_n 1, 1) := by decide +kernel
theorem dX10_mean_13 : decode cX10_mean 13 = .ok (.invokevirtual 178, 3) := by decide +kernel
theorem dX10_mean_16 : decode cX10_mean 16 = .ok (.ireturn, 1) := by decide +kernel
theorem dX10_meanAgain_0 : decode cX10_meanAgain 0 = .ok (.aload_n 0, 1) := by decide +kernel
theorem dX10_meanAgain_1 : decode cX10_meanAgain 1 = .ok (.iload_n 1, 1) := by decide +kernel
theorem dX10_meanAgain_2 : decode cX10_meanAgain 2 = .ok (.invokevirtual 103, 3) := by decide +kernel
theorem dX10_meanAgain_5 : decode cX10_meanAgain 5 = .ok (.aload_n 0, 1) := by decide +kernel
theorem dX10_meanAgain_6 : decode cX10_meanAgain 6 = .ok (.getfield 10, 3) := by decide +kernel
theorem dX10_meanAgain_9 : decode cX10_meanAgain 9 = .ok (.getfield 107, 3) := by decide +kernel
theorem dX10_meanAgain_12 : decode cX10_meanAgain 12 = .ok (.iload_n 1, 1) := by decide +kernel
theorem dX10_meanAgain_13 : decode cX10_meanAgain 13 = .ok (.invokevirtual 181, 3) := by decide +kernel
theorem dX10_meanAgain_16 : decode cX10_meanAgain 16 = .ok (.ireturn, 1) := by decide +kernel
theorem dX10_wouldMove_0 : decode cX10_wouldMove 0 = .ok (.aload_n 0, 1) := by decide +kernel
theorem dX10_wouldMove_1 : decode cX10_wouldMove 1 = .ok (.iload_n 1, 1) := by decide +kernel
theorem dX10_wouldMove_2 : decode cX10_wouldMove 2 = .ok (.invokevirtual 103, 3) := by decide +kernel
theorem dX10_wouldMove_5 : decode cX10_wouldMove 5 = .ok (.aload_n 0, 1) := by decide +kernel
theorem dX10_wouldMove_6 : decode cX10_wouldMove 6 = .ok (.getfield 10, 3) := by decide +kernel
theorem dX10_wouldMove_9 : decode cX10_wouldMove 9 = .ok (.getfield 107, 3) := by decide +kernel
theorem dX10_wouldMove_12 : decode cX10_wouldMove 12 = .ok (.iload_n 1, 1) := by decide +kernel
theorem dX10_wouldMove_13 : decode cX10_wouldMove 13 = .ok (.invokevirtual 184, 3) := by decide +kernel
theorem dX10_wouldMove_16 : decode cX10_wouldMove 16 = .ok (.ireturn, 1) := by decide +kernel
theorem dX10_puller_0 : decode cX10_puller 0 = .ok (.aload_n 0, 1) := by decide +kernel
theorem dX10_puller_1 : decode cX10_puller 1 = .ok (.iload_n 1, 1) := by decide +kernel
theorem dX10_puller_2 : decode cX10_puller 2 = .ok (.invokevirtual 103, 3) := by decide +kernel
theorem dX10_puller_5 : decode cX10_puller 5 = .ok (.aload_n 0, 1) := by decide +kernel
theorem dX10_puller_6 : decode cX10_puller 6 = .ok (.getfield 10, 3) := by decide +kernel
theorem dX10_puller_9 : decode cX10_puller 9 = .ok (.getfield 107, 3) := by decide +kernel
theorem dX10_puller_12 : decode cX10_puller 12 = .ok (.iload_n 1, 1) := by decide +kernel
theorem dX10_puller_13 : decode cX10_puller 13 = .ok (.invokevirtual 187, 3) := by decide +kernel
theorem dX10_puller_16 : decode cX10_puller 16 = .ok (.istore_n 2, 1) := by decide +kernel
theorem dX10_puller_17 : decode cX10_puller 17 = .ok (.iload_n 2, 1) := by decide +kernel
theorem dX10_puller_18 : decode cX10_puller 18 = .ok (.ifCond .ge 13, 3) := by decide +kernel
theorem dX10_puller_21 : decode cX10_puller 21 = .ok (.new 190, 3) := by decide +kernel
theorem dX10_puller_24 : decode cX10_puller 24 = .ok (.dup, 1) := by decide +kernel
theorem dX10_puller_25 : decode cX10_puller 25 = .ok (.ldc 192, 2) := by decide +kernel
theorem dX10_puller_27 : decode cX10_puller 27 = .ok (.invokespecial 194, 3) := by decide +kernel
theorem dX10_puller_30 : decode cX10_puller 30 = .ok (.athrow, 1) := by decide +kernel
theorem dX10_puller_31 : decode cX10_puller 31 = .ok (.iload_n 2, 1) := by decide +kernel
theorem dX10_puller_32 : decode cX10_puller 32 = .ok (.ireturn, 1) := by decide +kernel
theorem dX10_force_0 : decode cX10_force 0 = .ok (.aload_n 0, 1) := by decide +kernel
theorem dX10_force_1 : decode cX10_force 1 = .ok (.iload_n 1, 1) := by decide +kernel
theorem dX10_force_2 : decode cX10_force 2 = .ok (.invokevirtual 103, 3) := by decide +kernel
theorem dX10_force_5 : decode cX10_force 5 = .ok (.aload_n 0, 1) := by decide +kernel
theorem dX10_force_6 : decode cX10_force 6 = .ok (.iload_n 2, 1) := by decide +kernel
theorem dX10_force_7 : decode cX10_force 7 = .ok (.invokevirtual 195, 3) := by decide +kernel
theorem dX10_force_10 : decode cX10_force 10 = .ok (.aload_n 0, 1) := by decide +kernel
theorem dX10_force_11 : decode cX10_force 11 = .ok (.getfield 10, 3) := by decide +kernel
theorem dX10_force_14 : decode cX10_force 14 = .ok (.getfield 107, 3) := by decide +kernel
theorem dX10_force_17 : decode cX10_force 17 = .ok (.iload_n 1, 1) := by decide +kernel
theorem dX10_force_18 : decode cX10_force 18 = .ok (.iload_n 2, 1) := by decide +kernel
theorem dX10_force_19 : decode cX10_force 19 = .ok (.invokevirtual 198, 3) := by decide +kernel
theorem dX10_force_22 : decode cX10_force 22 = .ok (.ireturn, 1) := by decide +kernel
theorem dX10_factsFor_0 : decode cX10_factsFor 0 = .ok (.aload_n 0, 1) := by decide +kernel
theorem dX10_factsFor_1 : decode cX10_factsFor 1 = .ok (.iload_n 1, 1) := by decide +kernel
theorem dX10_factsFor_2 : decode cX10_factsFor 2 = .ok (.invokevirtual 103, 3) := by decide +kernel
theorem dX10_factsFor_5 : decode cX10_factsFor 5 = .ok (.aload_n 0, 1) := by decide +kernel
theorem dX10_factsFor_6 : decode cX10_factsFor 6 = .ok (.iload_n 2, 1) := by decide +kernel
theorem dX10_factsFor_7 : decode cX10_factsFor 7 = .ok (.invokevirtual 195, 3) := by decide +kernel
theorem dX10_factsFor_10 : decode cX10_factsFor 10 = .ok (.aload_n 0, 1) := by decide +kernel
theorem dX10_factsFor_11 : decode cX10_factsFor 11 = .ok (.getfield 10, 3) := by decide +kernel
theorem dX10_factsFor_14 : decode cX10_factsFor 14 = .ok (.getfield 107, 3) := by decide +kernel
theorem dX10_factsFor_17 : decode cX10_factsFor 17 = .ok (.getfield 110, 3) := by decide +kernel
theorem dX10_factsFor_20 : decode cX10_factsFor 20 = .ok (.iload_n 1, 1) := by decide +kernel
theorem dX10_factsFor_21 : decode cX10_factsFor 21 = .ok (.iaload, 1) := by decide +kernel
theorem dX10_factsFor_22 : decode cX10_factsFor 22 = .ok (.invokestatic 202, 3) := by decide +kernel
theorem dX10_factsFor_25 : decode cX10_factsFor 25 = .ok (.istore_n 3, 1) := by decide +kernel
theorem dX10_factsFor_26 : decode cX10_factsFor 26 = .ok (.iload_n 3, 1) := by decide +kernel
theorem dX10_factsFor_27 : decode cX10_factsFor 27 = .ok (.ifCond .ne 5, 3) := by decide +kernel
theorem dX10_factsFor_30 : decode cX10_factsFor 30 = .ok (.iconst 0, 1) := by decide +kernel
theorem dX10_factsFor_31 : decode cX10_factsFor 31 = .ok (.ireturn, 1) := by decide +kernel
theorem dX10_factsFor_32 : decode cX10_factsFor 32 = .ok (.aload_n 0, 1) := by decide +kernel
theorem dX10_factsFor_33 : decode cX10_factsFor 33 = .ok (.getfield 10, 3) := by decide +kernel
theorem dX10_factsFor_36 : decode cX10_factsFor 36 = .ok (.getfield 107, 3) := by decide +kernel
theorem dX10_factsFor_39 : decode cX10_factsFor 39 = .ok (.iload_n 1, 1) := by decide +kernel
theorem dX10_factsFor_40 : decode cX10_factsFor 40 = .ok (.iload_n 2, 1) := by decide +kernel
theorem dX10_factsFor_41 : decode cX10_factsFor 41 = .ok (.invokevirtual 198, 3) := by decide +kernel
theorem dX10_factsFor_44 : decode cX10_factsFor 44 = .ok (.istore 4, 2) := by decide +kernel
theorem dX10_factsFor_46 : decode cX10_factsFor 46 = .ok (.iload 4, 2) := by decide +kernel
theorem dX10_factsFor_48 : decode cX10_factsFor 48 = .ok (.iconst 1, 1) := by decide +kernel
theorem dX10_factsFor_49 : decode cX10_factsFor 49 = .ok (.if_icmp .ge 13, 3) := by decide +kernel
theorem dX10_factsFor_52 : decode cX10_factsFor 52 = .ok (.new 190, 3) := by decide +kernel
theorem dX10_factsFor_55 : decode cX10_factsFor 55 = .ok (.dup, 1) := by decide +kernel
theorem dX10_factsFor_56 : decode cX10_factsFor 56 = .ok (.ldc 207, 2) := by decide +kernel
theorem dX10_factsFor_58 : decode cX10_factsFor 58 = .ok (.invokespecial 194, 3) := by decide +kernel
theorem dX10_factsFor_61 : decode cX10_factsFor 61 = .ok (.athrow, 1) := by decide +kernel
theorem dX10_factsFor_62 : decode cX10_factsFor 62 = .ok (.iload_n 3, 1) := by decide +kernel
theorem dX10_factsFor_63 : decode cX10_factsFor 63 = .ok (.iload 4, 2) := by decide +kernel
theorem dX10_factsFor_65 : decode cX10_factsFor 65 = .ok (.iadd, 1) := by decide +kernel
theorem dX10_factsFor_66 : decode cX10_factsFor 66 = .ok (.iconst 1, 1) := by decide +kernel
theorem dX10_factsFor_67 : decode cX10_factsFor 67 = .ok (.isub, 1) := by decide +kernel
theorem dX10_factsFor_68 : decode cX10_factsFor 68 = .ok (.iload 4, 2) := by decide +kernel
theorem dX10_factsFor_70 : decode cX10_factsFor 70 = .ok (.idiv, 1) := by decide +kernel
theorem dX10_factsFor_71 : decode cX10_factsFor 71 = .ok (.ireturn, 1) := by decide +kernel
theorem dX10_tiltIn_0 : decode cX10_tiltIn 0 = .ok (.aload_n 0, 1) := by decide +kernel
theorem dX10_tiltIn_1 : decode cX10_tiltIn 1 = .ok (.iload_n 1, 1) := by decide +kernel
theorem dX10_tiltIn_2 : decode cX10_tiltIn 2 = .ok (.invokevirtual 103, 3) := by decide +kernel
theorem dX10_tiltIn_5 : decode cX10_tiltIn 5 = .ok (.iload_n 2, 1) := by decide +kernel
theorem dX10_tiltIn_6 : decode cX10_tiltIn 6 = .ok (.ifCond .lt 9, 3) := by decide +kernel
theorem dX10_tiltIn_9 : decode cX10_tiltIn 9 = .ok (.iload_n 2, 1) := by decide +kernel
theorem dX10_tiltIn_10 : decode cX10_tiltIn 10 = .ok (.bipush 30, 2) := by decide +kernel
theorem dX10_tiltIn_12 : decode cX10_tiltIn 12 = .ok (.if_icmp .le 13, 3) := by decide +kernel
theorem dX10_tiltIn_15 : decode cX10_tiltIn 15 = .ok (.new 137, 3) := by decide +kernel
theorem dX10_tiltIn_18 : decode cX10_tiltIn 18 = .ok (.dup, 1) := by decide +kernel
theorem dX10_tiltIn_19 : decode cX10_tiltIn 19 = .ok (.ldc 209, 2) := by decide +kernel
theorem dX10_tiltIn_21 : decode cX10_tiltIn 21 = .ok (.invokespecial 141, 3) := by decide +kernel
theorem dX10_tiltIn_24 : decode cX10_tiltIn 24 = .ok (.athrow, 1) := by decide +kernel
theorem dX10_tiltIn_25 : decode cX10_tiltIn 25 = .ok (.aload_n 0, 1) := by decide +kernel
theorem dX10_tiltIn_26 : decode cX10_tiltIn 26 = .ok (.getfield 25, 3) := by decide +kernel
theorem dX10_tiltIn_29 : decode cX10_tiltIn 29 = .ok (.aload_n 0, 1) := by decide +kernel
theorem dX10_tiltIn_30 : decode cX10_tiltIn 30 = .ok (.getfield 10, 3) := by decide +kernel
theorem dX10_tiltIn_33 : decode cX10_tiltIn 33 = .ok (.getfield 107, 3) := by decide +kernel
theorem dX10_tiltIn_36 : decode cX10_tiltIn 36 = .ok (.invokevirtual 211, 3) := by decide +kernel
theorem dX10_tiltIn_39 : decode cX10_tiltIn 39 = .ok (.iconst 0, 1) := by decide +kernel
theorem dX10_tiltIn_40 : decode cX10_tiltIn 40 = .ok (.istore_n 3, 1) := by decide +kernel
theorem dX10_tiltIn_41 : decode cX10_tiltIn 41 = .ok (.iload_n 3, 1) := by decide +kernel
theorem dX10_tiltIn_42 : decode cX10_tiltIn 42 = .ok (.iload_n 2, 1) := by decide +kernel
theorem dX10_tiltIn_43 : decode cX10_tiltIn 43 = .ok (.if_icmp .ge 17, 3) := by decide +kernel
theorem dX10_tiltIn_46 : decode cX10_tiltIn 46 = .ok (.aload_n 0, 1) := by decide +kernel
theorem dX10_tiltIn_47 : decode cX10_tiltIn 47 = .ok (.getfield 25, 3) := by decide +kernel
theorem dX10_tiltIn_50 : decode cX10_tiltIn 50 = .ok (.invokevirtual 215, 3) := by decide +kernel
theorem dX10_tiltIn_53 : decode cX10_tiltIn 53 = .ok (.pop, 1) := by decide +kernel
theorem dX10_tiltIn_54 : decode cX10_tiltIn 54 = .ok (.iinc 3 1, 3) := by decide +kernel
theorem dX10_tiltIn_57 : decode cX10_tiltIn 57 = .ok (.goto (-16), 3) := by decide +kernel
theorem dX10_tiltIn_60 : decode cX10_tiltIn 60 = .ok (.aload_n 0, 1) := by decide +kernel
theorem dX10_tiltIn_61 : decode cX10_tiltIn 61 = .ok (.getfield 25, 3) := by decide +kernel
theorem dX10_tiltIn_64 : decode cX10_tiltIn 64 = .ok (.getfield 110, 3) := by decide +kernel
theorem dX10_tiltIn_67 : decode cX10_tiltIn 67 = .ok (.iload_n 1, 1) := by decide +kernel
theorem dX10_tiltIn_68 : decode cX10_tiltIn 68 = .ok (.iaload, 1) := by decide +kernel
theorem dX10_tiltIn_69 : decode cX10_tiltIn 69 = .ok (.ireturn, 1) := by decide +kernel
theorem dX10_restsIn_0 : decode cX10_restsIn 0 = .ok (.aload_n 0, 1) := by decide +kernel
theorem dX10_restsIn_1 : decode cX10_restsIn 1 = .ok (.getfield 10, 3) := by decide +kernel
theorem dX10_restsIn_4 : decode cX10_restsIn 4 = .ok (.getfield 107, 3) := by decide +kernel
theorem dX10_restsIn_7 : decode cX10_restsIn 7 = .ok (.getfield 218, 3) := by decide +kernel
theorem dX10_restsIn_10 : decode cX10_restsIn 10 = .ok (.ifCond .ne 13, 3) := by decide +kernel
theorem dX10_restsIn_13 : decode cX10_restsIn 13 = .ok (.new 190, 3) := by decide +kernel
theorem dX10_restsIn_16 : decode cX10_restsIn 16 = .ok (.dup, 1) := by decide +kernel
theorem dX10_restsIn_17 : decode cX10_restsIn 17 = .ok (.ldc 221, 2) := by decide +kernel
theorem dX10_restsIn_19 : decode cX10_restsIn 19 = .ok (.invokespecial 194, 3) := by decide +kernel
theorem dX10_restsIn_22 : decode cX10_restsIn 22 = .ok (.athrow, 1) := by decide +kernel
theorem dX10_restsIn_23 : decode cX10_restsIn 23 = .ok (.aload_n 0, 1) := by decide +kernel
theorem dX10_restsIn_24 : decode cX10_restsIn 24 = .ok (.getfield 25, 3) := by decide +kernel
theorem dX10_restsIn_27 : decode cX10_restsIn 27 = .ok (.aload_n 0, 1) := by decide +kernel
theorem dX10_restsIn_28 : decode cX10_restsIn 28 = .ok (.getfield 10, 3) := by decide +kernel
theorem dX10_restsIn_31 : decode cX10_restsIn 31 = .ok (.getfield 107, 3) := by decide +kernel
theorem dX10_restsIn_34 : decode cX10_restsIn 34 = .ok (.invokevirtual 211, 3) := by decide +kernel
theorem dX10_restsIn_37 : decode cX10_restsIn 37 = .ok (.iconst 0, 1) := by decide +kernel
theorem dX10_restsIn_38 : decode cX10_restsIn 38 = .ok (.istore_n 1, 1) := by decide +kernel
theorem dX10_restsIn_39 : decode cX10_restsIn 39 = .ok (.iload_n 1, 1) := by decide +kernel
theorem dX10_restsIn_40 : decode cX10_restsIn 40 = .ok (.bipush 99, 2) := by decide +kernel
theorem dX10_restsIn_42 : decode cX10_restsIn 42 = .ok (.if_icmp .gt 21, 3) := by decide +kernel
theorem dX10_restsIn_45 : decode cX10_restsIn 45 = .ok (.aload_n 0, 1) := by decide +kernel
theorem dX10_restsIn_46 : decode cX10_restsIn 46 = .ok (.getfield 25, 3) := by decide +kernel
theorem dX10_restsIn_49 : decode cX10_restsIn 49 = .ok (.invokevirtual 215, 3) := by decide +kernel
theorem dX10_restsIn_52 : decode cX10_restsIn 52 = .ok (.ifCond .ne 5, 3) := by decide +kernel
theorem dX10_restsIn_55 : decode cX10_restsIn 55 = .ok (.iload_n 1, 1) := by decide +kernel
theorem dX10_restsIn_56 : decode cX10_restsIn 56 = .ok (.ireturn, 1) := by decide +kernel
theorem dX10_restsIn_57 : decode cX10_restsIn 57 = .ok (.iinc 1 1, 3) := by decide +kernel
theorem dX10_restsIn_60 : decode cX10_restsIn 60 = .ok (.goto (-21), 3) := by decide +kernel
theorem dX10_restsIn_63 : decode cX10_restsIn 63 = .ok (.new 190, 3) := by decide +kernel
theorem dX10_restsIn_66 : decode cX10_restsIn 66 = .ok (.dup, 1) := by decide +kernel
theorem dX10_restsIn_67 : decode cX10_restsIn 67 = .ok (.ldc 223, 2) := by decide +kernel
theorem dX10_restsIn_69 : decode cX10_restsIn 69 = .ok (.invokespecial 194, 3) := by decide +kernel
theorem dX10_restsIn_72 : decode cX10_restsIn 72 = .ok (.athrow, 1) := by decide +kernel
theorem dX10_breaksIn_0 : decode cX10_breaksIn 0 = .ok (.aload_n 0, 1) := by decide +kernel
theorem dX10_breaksIn_1 : decode cX10_breaksIn 1 = .ok (.iload_n 1, 1) := by decide +kernel
theorem dX10_breaksIn_2 : decode cX10_breaksIn 2 = .ok (.invokevirtual 148, 3) := by decide +kernel
theorem dX10_breaksIn_5 : decode cX10_breaksIn 5 = .ok (.aload_n 0, 1) := by decide +kernel
theorem dX10_breaksIn_6 : decode cX10_breaksIn 6 = .ok (.getfield 10, 3) := by decide +kernel
theorem dX10_breaksIn_9 : decode cX10_breaksIn 9 = .ok (.getfield 151, 3) := by decide +kernel
theorem dX10_breaksIn_12 : decode cX10_breaksIn 12 = .ok (.astore_n 2, 1) := by decide +kernel
theorem dX10_breaksIn_13 : decode cX10_breaksIn 13 = .ok (.aload_n 2, 1) := by decide +kernel
theorem dX10_breaksIn_14 : decode cX10_breaksIn 14 = .ok (.getfield 166, 3) := by decide +kernel
theorem dX10_breaksIn_17 : decode cX10_breaksIn 17 = .ok (.iload_n 1, 1) := by decide +kernel
theorem dX10_breaksIn_18 : decode cX10_breaksIn 18 = .ok (.iaload, 1) := by decide +kernel
theorem dX10_breaksIn_19 : decode cX10_breaksIn 19 = .ok (.istore_n 3, 1) := by decide +kernel
theorem dX10_breaksIn_20 : decode cX10_breaksIn 20 = .ok (.aload_n 0, 1) := by decide +kernel
theorem dX10_breaksIn_21 : decode cX10_breaksIn 21 = .ok (.getfield 25, 3) := by decide +kernel
theorem dX10_breaksIn_24 : decode cX10_breaksIn 24 = .ok (.aload_n 0, 1) := by decide +kernel
theorem dX10_breaksIn_25 : decode cX10_breaksIn 25 = .ok (.getfield 10, 3) := by decide +kernel
theorem dX10_breaksIn_28 : decode cX10_breaksIn 28 = .ok (.getfield 107, 3) := by decide +kernel
theorem dX10_breaksIn_31 : decode cX10_breaksIn 31 = .ok (.invokevirtual 211, 3) := by decide +kernel
theorem dX10_breaksIn_34 : decode cX10_breaksIn 34 = .ok (.iconst 1, 1) := by decide +kernel
theorem dX10_breaksIn_35 : decode cX10_breaksIn 35 = .ok (.istore 4, 2) := by decide +kernel
theorem dX10_breaksIn_37 : decode cX10_breaksIn 37 = .ok (.iload 4, 2) := by decide +kernel
theorem dX10_breaksIn_39 : decode cX10_breaksIn 39 = .ok (.bipush 99, 2) := by decide +kernel
theorem dX10_breaksIn_41 : decode cX10_breaksIn 41 = .ok (.if_icmp .gt 40, 3) := by decide +kernel
theorem dX10_breaksIn_44 : decode cX10_breaksIn 44 = .ok (.aload_n 0, 1) := by decide +kernel
theorem dX10_breaksIn_45 : decode cX10_breaksIn 45 = .ok (.getfield 25, 3) := by decide +kernel
theorem dX10_breaksIn_48 : decode cX10_breaksIn 48 = .ok (.invokevirtual 215, 3) := by decide +kernel
theorem dX10_breaksIn_51 : decode cX10_breaksIn 51 = .ok (.pop, 1) := by decide +kernel
theorem dX10_breaksIn_52 : decode cX10_breaksIn 52 = .ok (.aload_n 2, 1) := by decide +kernel
theorem dX10_breaksIn_53 : decode cX10_breaksIn 53 = .ok (.iload_n 1, 1) := by decide +kernel
theorem dX10_breaksIn_54 : decode cX10_breaksIn 54 = .ok (.aload_n 0, 1) := by decide +kernel
theorem dX10_breaksIn_55 : decode cX10_breaksIn 55 = .ok (.getfield 25, 3) := by decide +kernel
theorem dX10_breaksIn_58 : decode cX10_breaksIn 58 = .ok (.invokevirtual 225, 3) := by decide +kernel
theorem dX10_breaksIn_61 : decode cX10_breaksIn 61 = .ok (.ifCond .eq 6, 3) := by decide +kernel
theorem dX10_breaksIn_64 : decode cX10_breaksIn 64 = .ok (.iinc 3 1, 3) := by decide +kernel
theorem dX10_breaksIn_67 : decode cX10_breaksIn 67 = .ok (.iload_n 3, 1) := by decide +kernel
theorem dX10_breaksIn_68 : decode cX10_breaksIn 68 = .ok (.iconst 3, 1) := by decide +kernel
theorem dX10_breaksIn_69 : decode cX10_breaksIn 69 = .ok (.if_icmp .lt 6, 3) := by decide +kernel
theorem dX10_breaksIn_72 : decode cX10_breaksIn 72 = .ok (.iload 4, 2) := by decide +kernel
theorem dX10_breaksIn_74 : decode cX10_breaksIn 74 = .ok (.ireturn, 1) := by decide +kernel
theorem dX10_breaksIn_75 : decode cX10_breaksIn 75 = .ok (.iinc 4 1, 3) := by decide +kernel
theorem dX10_breaksIn_78 : decode cX10_breaksIn 78 = .ok (.goto (-41), 3) := by decide +kernel
theorem dX10_breaksIn_81 : decode cX10_breaksIn 81 = .ok (.new 190, 3) := by decide +kernel
theorem dX10_breaksIn_84 : decode cX10_breaksIn 84 = .ok (.dup, 1) := by decide +kernel
theorem dX10_breaksIn_85 : decode cX10_breaksIn 85 = .ok (.ldc 229, 2) := by decide +kernel
theorem dX10_breaksIn_87 : decode cX10_breaksIn 87 = .ok (.invokespecial 194, 3) := by decide +kernel
theorem dX10_breaksIn_90 : decode cX10_breaksIn 90 = .ok (.athrow, 1) := by decide +kernel
theorem dX10_camp_0 : decode cX10_camp 0 = .ok (.aload_n 0, 1) := by decide +kernel
theorem dX10_camp_1 : decode cX10_camp 1 = .ok (.iload_n 1, 1) := by decide +kernel
theorem dX10_camp_2 : decode cX10_camp 2 = .ok (.invokevirtual 103, 3) := by decide +kernel
theorem dX10_camp_5 : decode cX10_camp 5 = .ok (.aload_n 0, 1) := by decide +kernel
theorem dX10_camp_6 : decode cX10_camp 6 = .ok (.getfield 32, 3) := by decide +kernel
theorem dX10_camp_9 : decode cX10_camp 9 = .ok (.iload_n 1, 1) := by decide +kernel
theorem dX10_camp_10 : decode cX10_camp 10 = .ok (.aload_n 0, 1) := by decide +kernel
theorem dX10_camp_11 : decode cX10_camp 11 = .ok (.getfield 10, 3) := by decide +kernel
theorem dX10_camp_14 : decode cX10_camp 14 = .ok (.getfield 107, 3) := by decide +kernel
theorem dX10_camp_17 : decode cX10_camp 17 = .ok (.invokevirtual 231, 3) := by decide +kernel
theorem dX10_camp_20 : decode cX10_camp 20 = .ok (.ireturn, 1) := by decide +kernel
theorem dX10_camps_0 : decode cX10_camps 0 = .ok (.aload_n 0, 1) := by decide +kernel
theorem dX10_camps_1 : decode cX10_camps 1 = .ok (.getfield 32, 3) := by decide +kernel
theorem dX10_camps_4 : decode cX10_camps 4 = .ok (.aload_n 0, 1) := by decide +kernel
theorem dX10_camps_5 : decode cX10_camps 5 = .ok (.getfield 10, 3) := by decide +kernel
theorem dX10_camps_8 : decode cX10_camps 8 = .ok (.getfield 107, 3) := by decide +kernel
theorem dX10_camps_11 : decode cX10_camps 11 = .ok (.invokevirtual 234, 3) := by decide +kernel
theorem dX10_camps_14 : decode cX10_camps 14 = .ok (.ireturn, 1) := by decide +kernel
theorem dX10_greatest_0 : decode cX10_greatest 0 = .ok (.aload_n 0, 1) := by decide +kernel
theorem dX10_greatest_1 : decode cX10_greatest 1 = .ok (.getfield 10, 3) := by decide +kernel
theorem dX10_greatest_4 : decode cX10_greatest 4 = .ok (.getfield 107, 3) := by decide +kernel
theorem dX10_greatest_7 : decode cX10_greatest 7 = .ok (.iload_n 1, 1) := by decide +kernel
theorem dX10_greatest_8 : decode cX10_greatest 8 = .ok (.ifCond .eq 7, 3) := by decide +kernel
theorem dX10_greatest_11 : decode cX10_greatest 11 = .ok (.iconst (-1), 1) := by decide +kernel
theorem dX10_greatest_12 : decode cX10_greatest 12 = .ok (.goto 4, 3) := by decide +kernel
theorem dX10_greatest_15 : decode cX10_greatest 15 = .ok (.iconst 1, 1) := by decide +kernel
theorem dX10_greatest_16 : decode cX10_greatest 16 = .ok (.invokevirtual 241, 3) := by decide +kernel
theorem dX10_greatest_19 : decode cX10_greatest 19 = .ok (.istore_n 2, 1) := by decide +kernel
theorem dX10_greatest_20 : decode cX10_greatest 20 = .ok (.iload_n 2, 1) := by decide +kernel
theorem dX10_greatest_21 : decode cX10_greatest 21 = .ok (.ifCond .ge 13, 3) := by decide +kernel
theorem dX10_greatest_24 : decode cX10_greatest 24 = .ok (.new 190, 3) := by decide +kernel
theorem dX10_greatest_27 : decode cX10_greatest 27 = .ok (.dup, 1) := by decide +kernel
theorem dX10_greatest_28 : decode cX10_greatest 28 = .ok (.ldc 244, 2) := by decide +kernel
theorem dX10_greatest_30 : decode cX10_greatest 30 = .ok (.invokespecial 194, 3) := by decide +kernel
theorem dX10_greatest_33 : decode cX10_greatest 33 = .ok (.athrow, 1) := by decide +kernel
theorem dX10_greatest_34 : decode cX10_greatest 34 = .ok (.iload_n 2, 1) := by decide +kernel
theorem dX10_greatest_35 : decode cX10_greatest 35 = .ok (.ireturn, 1) := by decide +kernel
theorem dX10_ranked_0 : decode cX10_ranked 0 = .ok (.iload_n 1, 1) := by decide +kernel
theorem dX10_ranked_1 : decode cX10_ranked 1 = .ok (.ifCond .lt 8, 3) := by decide +kernel
theorem dX10_ranked_4 : decode cX10_ranked 4 = .ok (.iload_n 1, 1) := by decide +kernel
theorem dX10_ranked_5 : decode cX10_ranked 5 = .ok (.iconst 3, 1) := by decide +kernel
theorem dX10_ranked_6 : decode cX10_ranked 6 = .ok (.if_icmp .le 13, 3) := by decide +kernel
theorem dX10_ranked_9 : decode cX10_ranked 9 = .ok (.new 137, 3) := by decide +kernel
theorem dX10_ranked_12 : decode cX10_ranked 12 = .ok (.dup, 1) := by decide +kernel
theorem dX10_ranked_13 : decode cX10_ranked 13 = .ok (.ldc 246, 2) := by decide +kernel
theorem dX10_ranked_15 : decode cX10_ranked 15 = .ok (.invokespecial 141, 3) := by decide +kernel
theorem dX10_ranked_18 : decode cX10_ranked 18 = .ok (.athrow, 1) := by decide +kernel
theorem dX10_ranked_19 : decode cX10_ranked 19 = .ok (.aload_n 0, 1) := by decide +kernel
theorem dX10_ranked_20 : decode cX10_ranked 20 = .ok (.getfield 10, 3) := by decide +kernel
theorem dX10_ranked_23 : decode cX10_ranked 23 = .ok (.getfield 107, 3) := by decide +kernel
theorem dX10_ranked_26 : decode cX10_ranked 26 = .ok (.iload_n 1, 1) := by decide +kernel
theorem dX10_ranked_27 : decode cX10_ranked 27 = .ok (.iload_n 2, 1) := by decide +kernel
theorem dX10_ranked_28 : decode cX10_ranked 28 = .ok (.invokevirtual 248, 3) := by decide +kernel
theorem dX10_ranked_31 : decode cX10_ranked 31 = .ok (.istore_n 3, 1) := by decide +kernel
theorem dX10_ranked_32 : decode cX10_ranked 32 = .ok (.iload_n 3, 1) := by decide +kernel
theorem dX10_ranked_33 : decode cX10_ranked 33 = .ok (.ifCond .ge 13, 3) := by decide +kernel
theorem dX10_ranked_36 : decode cX10_ranked 36 = .ok (.new 190, 3) := by decide +kernel
theorem dX10_ranked_39 : decode cX10_ranked 39 = .ok (.dup, 1) := by decide +kernel
theorem dX10_ranked_40 : decode cX10_ranked 40 = .ok (.ldc 251, 2) := by decide +kernel
theorem dX10_ranked_42 : decode cX10_ranked 42 = .ok (.invokespecial 194, 3) := by decide +kernel
theorem dX10_ranked_45 : decode cX10_ranked 45 = .ok (.athrow, 1) := by decide +kernel
theorem dX10_ranked_46 : decode cX10_ranked 46 = .ok (.iload_n 3, 1) := by decide +kernel
theorem dX10_ranked_47 : decode cX10_ranked 47 = .ok (.ireturn, 1) := by decide +kernel
theorem dX10_weakest_0 : decode cX10_weakest 0 = .ok (.aload_n 0, 1) := by decide +kernel
theorem dX10_weakest_1 : decode cX10_weakest 1 = .ok (.getfield 10, 3) := by decide +kernel
theorem dX10_weakest_4 : decode cX10_weakest 4 = .ok (.getfield 151, 3) := by decide +kernel
theorem dX10_weakest_7 : decode cX10_weakest 7 = .ok (.iload_n 1, 1) := by decide +kernel
theorem dX10_weakest_8 : decode cX10_weakest 8 = .ok (.aload_n 0, 1) := by decide +kernel
theorem dX10_weakest_9 : decode cX10_weakest 9 = .ok (.getfield 10, 3) := by decide +kernel
theorem dX10_weakest_12 : decode cX10_weakest 12 = .ok (.getfield 107, 3) := by decide +kernel
theorem dX10_weakest_15 : decode cX10_weakest 15 = .ok (.invokevirtual 253, 3) := by decide +kernel
theorem dX10_weakest_18 : decode cX10_weakest 18 = .ok (.istore_n 2, 1) := by decide +kernel
theorem dX10_weakest_19 : decode cX10_weakest 19 = .ok (.iload_n 2, 1) := by decide +kernel
theorem dX10_weakest_20 : decode cX10_weakest 20 = .ok (.ifCond .ge 13, 3) := by decide +kernel
theorem dX10_weakest_23 : decode cX10_weakest 23 = .ok (.new 190, 3) := by decide +kernel
theorem dX10_weakest_26 : decode cX10_weakest 26 = .ok (.dup, 1) := by decide +kernel
theorem dX10_weakest_27 : decode cX10_weakest 27 = .ok (.ldc 251, 2) := by decide +kernel
theorem dX10_weakest_29 : decode cX10_weakest 29 = .ok (.invokespecial 194, 3) := by decide +kernel
theorem dX10_weakest_32 : decode cX10_weakest 32 = .ok (.athrow, 1) := by decide +kernel
theorem dX10_weakest_33 : decode cX10_weakest 33 = .ok (.iload_n 2, 1) := by decide +kernel
theorem dX10_weakest_34 : decode cX10_weakest 34 = .ok (.ireturn, 1) := by decide +kernel
theorem dX10_append_0 : decode cX10_append 0 = .ok (.aload_n 0, 1) := by decide +kernel
theorem dX10_append_1 : decode cX10_append 1 = .ok (.getfield 46, 3) := by decide +kernel
theorem dX10_append_4 : decode cX10_append 4 = .ok (.invokevirtual 262, 3) := by decide +kernel
theorem dX10_append_7 : decode cX10_append 7 = .ok (.ifCond .eq 14, 3) := by decide +kernel
theorem dX10_append_10 : decode cX10_append 10 = .ok (.new 265, 3) := by decide +kernel
theorem dX10_append_13 : decode cX10_append 13 = .ok (.dup, 1) := by decide +kernel
theorem dX10_append_14 : decode cX10_append 14 = .ok (.ldc_w 267, 3) := by decide +kernel
theorem dX10_append_17 : decode cX10_append 17 = .ok (.invokespecial 269, 3) := by decide +kernel
theorem dX10_append_20 : decode cX10_append 20 = .ok (.athrow, 1) := by decide +kernel
theorem dX10_append_21 : decode cX10_append 21 = .ok (.aload_n 0, 1) := by decide +kernel
theorem dX10_append_22 : decode cX10_append 22 = .ok (.getfield 46, 3) := by decide +kernel
theorem dX10_append_25 : decode cX10_append 25 = .ok (.iload_n 1, 1) := by decide +kernel
theorem dX10_append_26 : decode cX10_append 26 = .ok (.invokevirtual 270, 3) := by decide +kernel
theorem dX10_append_29 : decode cX10_append 29 = .ok (.ireturn, 1) := by decide +kernel
theorem dX10_commands_0 : decode cX10_commands 0 = .ok (.aload_n 0, 1) := by decide +kernel
theorem dX10_commands_1 : decode cX10_commands 1 = .ok (.aload_n 0, 1) := by decide +kernel
theorem dX10_commands_2 : decode cX10_commands 2 = .ok (.getfield 46, 3) := by decide +kernel
theorem dX10_commands_5 : decode cX10_commands 5 = .ok (.invokevirtual 274, 3) := by decide +kernel
theorem dX10_commands_8 : decode cX10_commands 8 = .ok (.putfield 64, 3) := by decide +kernel
theorem dX10_commands_11 : decode cX10_commands 11 = .ok (.aload_n 0, 1) := by decide +kernel
theorem dX10_commands_12 : decode cX10_commands 12 = .ok (.getfield 46, 3) := by decide +kernel
theorem dX10_commands_15 : decode cX10_commands 15 = .ok (.invokevirtual 277, 3) := by decide +kernel
theorem dX10_commands_18 : decode cX10_commands 18 = .ok (.aload_n 0, 1) := by decide +kernel
theorem dX10_commands_19 : decode cX10_commands 19 = .ok (.getfield 64, 3) := by decide +kernel
theorem dX10_commands_22 : decode cX10_commands 22 = .ok (.ifCond .lt 14, 3) := by decide +kernel
theorem dX10_commands_25 : decode cX10_commands 25 = .ok (.new 137, 3) := by decide +kernel
theorem dX10_commands_28 : decode cX10_commands 28 = .ok (.dup, 1) := by decide +kernel
theorem dX10_commands_29 : decode cX10_commands 29 = .ok (.ldc_w 280, 3) := by decide +kernel
theorem dX10_commands_32 : decode cX10_commands 32 = .ok (.invokespecial 141, 3) := by decide +kernel
theorem dX10_commands_35 : decode cX10_commands 35 = .ok (.athrow, 1) := by decide +kernel
theorem dX10_commands_36 : decode cX10_commands 36 = .ok (.aload_n 0, 1) := by decide +kernel
theorem dX10_commands_37 : decode cX10_commands 37 = .ok (.getfield 16, 3) := by decide +kernel
theorem dX10_commands_40 : decode cX10_commands 40 = .ok (.aload_n 0, 1) := by decide +kernel
theorem dX10_commands_41 : decode cX10_commands 41 = .ok (.getfield 10, 3) := by decide +kernel
theorem dX10_commands_44 : decode cX10_commands 44 = .ok (.invokevirtual 282, 3) := by decide +kernel
theorem dX10_commands_47 : decode cX10_commands 47 = .ok (.iconst 0, 1) := by decide +kernel
theorem dX10_commands_48 : decode cX10_commands 48 = .ok (.istore_n 1, 1) := by decide +kernel
theorem dX10_commands_49 : decode cX10_commands 49 = .ok (.iload_n 1, 1) := by decide +kernel
theorem dX10_commands_50 : decode cX10_commands 50 = .ok (.aload_n 0, 1) := by decide +kernel
theorem dX10_commands_51 : decode cX10_commands 51 = .ok (.getfield 46, 3) := by decide +kernel
theorem dX10_commands_54 : decode cX10_commands 54 = .ok (.getfield 285, 3) := by decide +kernel
theorem dX10_commands_57 : decode cX10_commands 57 = .ok (.if_icmp .ge 51, 3) := by decide +kernel
theorem dX10_commands_60 : decode cX10_commands 60 = .ok (.aload_n 0, 1) := by decide +kernel
theorem dX10_commands_61 : decode cX10_commands 61 = .ok (.getfield 46, 3) := by decide +kernel
theorem dX10_commands_64 : decode cX10_commands 64 = .ok (.getfield 288, 3) := by decide +kernel
theorem dX10_commands_67 : decode cX10_commands 67 = .ok (.iload_n 1, 1) := by decide +kernel
theorem dX10_commands_68 : decode cX10_commands 68 = .ok (.aaload, 1) := by decide +kernel
theorem dX10_commands_69 : decode cX10_commands 69 = .ok (.astore_n 2, 1) := by decide +kernel
theorem dX10_commands_70 : decode cX10_commands 70 = .ok (.aload_n 0, 1) := by decide +kernel
theorem dX10_commands_71 : decode cX10_commands 71 = .ok (.getfield 16, 3) := by decide +kernel
theorem dX10_commands_74 : decode cX10_commands 74 = .ok (.aload_n 2, 1) := by decide +kernel
theorem dX10_commands_75 : decode cX10_commands 75 = .ok (.invokevirtual 292, 3) := by decide +kernel
theorem dX10_commands_78 : decode cX10_commands 78 = .ok (.aload_n 2, 1) := by decide +kernel
theorem dX10_commands_79 : decode cX10_commands 79 = .ok (.invokevirtual 296, 3) := by decide +kernel
theorem dX10_commands_82 : decode cX10_commands 82 = .ok (.ifCond .eq 20, 3) := by decide +kernel
theorem dX10_commands_85 : decode cX10_commands 85 = .ok (.aload_n 0, 1) := by decide +kernel
theorem dX10_commands_86 : decode cX10_commands 86 = .ok (.aload_n 2, 1) := by decide +kernel
theorem dX10_commands_87 : decode cX10_commands 87 = .ok (.iload_n 1, 1) := by decide +kernel
theorem dX10_commands_88 : decode cX10_commands 88 = .ok (.invokevirtual 299, 3) := by decide +kernel
theorem dX10_commands_91 : decode cX10_commands 91 = .ok (.new 303, 3) := by decide +kernel
theorem dX10_commands_94 : decode cX10_commands 94 = .ok (.dup, 1) := by decide +kernel
theorem dX10_commands_95 : decode cX10_commands 95 = .ok (.ldc_w 305, 3) := by decide +kernel
theorem dX10_commands_98 : decode cX10_commands 98 = .ok (.invokespecial 307, 3) := by decide +kernel
theorem dX10_commands_101 : decode cX10_commands 101 = .ok (.athrow, 1) := by decide +kernel
theorem dX10_commands_102 : decode cX10_commands 102 = .ok (.iinc 1 1, 3) := by decide +kernel
theorem dX10_commands_105 : decode cX10_commands 105 = .ok (.goto (-56), 3) := by decide +kernel
theorem dX10_commands_108 : decode cX10_commands 108 = .ok (.aload_n 0, 1) := by decide +kernel
theorem dX10_commands_109 : decode cX10_commands 109 = .ok (.invokevirtual 308, 3) := by decide +kernel
theorem dX10_commands_112 : decode cX10_commands 112 = .ok (.aload_n 0, 1) := by decide +kernel
theorem dX10_commands_113 : decode cX10_commands 113 = .ok (.getfield 46, 3) := by decide +kernel
theorem dX10_commands_116 : decode cX10_commands 116 = .ok (.getfield 285, 3) := by decide +kernel
theorem dX10_commands_119 : decode cX10_commands 119 = .ok (.ireturn, 1) := by decide +kernel
theorem dX10_faultPosition_0 : decode cX10_faultPosition 0 = .ok (.aload_n 0, 1) := by decide +kernel
theorem dX10_faultPosition_1 : decode cX10_faultPosition 1 = .ok (.getfield 64, 3) := by decide +kernel
theorem dX10_faultPosition_4 : decode cX10_faultPosition 4 = .ok (.ireturn, 1) := by decide +kernel
theorem dX10_reason_0 : decode cX10_reason 0 = .ok (.iload_n 1, 1) := by decide +kernel
theorem dX10_reason_1 : decode cX10_reason 1 = .ok (.ifCond .lt 8, 3) := by decide +kernel
theorem dX10_reason_4 : decode cX10_reason 4 = .ok (.iload_n 1, 1) := by decide +kernel
theorem dX10_reason_5 : decode cX10_reason 5 = .ok (.iconst 2, 1) := by decide +kernel
theorem dX10_reason_6 : decode cX10_reason 6 = .ok (.if_icmp .le 14, 3) := by decide +kernel
theorem dX10_reason_9 : decode cX10_reason 9 = .ok (.new 137, 3) := by decide +kernel
theorem dX10_reason_12 : decode cX10_reason 12 = .ok (.dup, 1) := by decide +kernel
theorem dX10_reason_13 : decode cX10_reason 13 = .ok (.ldc_w 311, 3) := by decide +kernel
theorem dX10_reason_16 : decode cX10_reason 16 = .ok (.invokespecial 141, 3) := by decide +kernel
theorem dX10_reason_19 : decode cX10_reason 19 = .ok (.athrow, 1) := by decide +kernel
theorem dX10_reason_20 : decode cX10_reason 20 = .ok (.aload_n 0, 1) := by decide +kernel
theorem dX10_reason_21 : decode cX10_reason 21 = .ok (.getfield 313, 3) := by decide +kernel
theorem dX10_reason_24 : decode cX10_reason 24 = .ok (.ifCond .ne 14, 3) := by decide +kernel
theorem dX10_reason_27 : decode cX10_reason 27 = .ok (.new 190, 3) := by decide +kernel
theorem dX10_reason_30 : decode cX10_reason 30 = .ok (.dup, 1) := by decide +kernel
theorem dX10_reason_31 : decode cX10_reason 31 = .ok (.ldc_w 316, 3) := by decide +kernel
theorem dX10_reason_34 : decode cX10_reason 34 = .ok (.invokespecial 194, 3) := by decide +kernel
theorem dX10_reason_37 : decode cX10_reason 37 = .ok (.athrow, 1) := by decide +kernel
theorem dX10_reason_38 : decode cX10_reason 38 = .ok (.iload_n 1, 1) := by decide +kernel
theorem dX10_reason_39 : decode cX10_reason 39 = .ok (.ifCond .ne 8, 3) := by decide +kernel
theorem dX10_reason_42 : decode cX10_reason 42 = .ok (.aload_n 0, 1) := by decide +kernel
theorem dX10_reason_43 : decode cX10_reason 43 = .ok (.getfield 313, 3) := by decide +kernel
theorem dX10_reason_46 : decode cX10_reason 46 = .ok (.ireturn, 1) := by decide +kernel
theorem dX10_reason_47 : decode cX10_reason 47 = .ok (.iload_n 1, 1) := by decide +kernel
theorem dX10_reason_48 : decode cX10_reason 48 = .ok (.iconst 1, 1) := by decide +kernel
theorem dX10_reason_49 : decode cX10_reason 49 = .ok (.if_icmp .ne 10, 3) := by decide +kernel
theorem dX10_reason_52 : decode cX10_reason 52 = .ok (.aload_n 0, 1) := by decide +kernel
theorem dX10_reason_53 : decode cX10_reason 53 = .ok (.getfield 318, 3) := by decide +kernel
theorem dX10_reason_56 : decode cX10_reason 56 = .ok (.goto 7, 3) := by decide +kernel
theorem dX10_reason_59 : decode cX10_reason 59 = .ok (.aload_n 0, 1) := by decide +kernel
theorem dX10_reason_60 : decode cX10_reason 60 = .ok (.getfield 321, 3) := by decide +kernel
theorem dX10_reason_63 : decode cX10_reason 63 = .ok (.ireturn, 1) := by decide +kernel
theorem dX10_line_0 : decode cX10_line 0 = .ok (.aload_n 0, 1) := by decide +kernel
theorem dX10_line_1 : decode cX10_line 1 = .ok (.iload_n 1, 1) := by decide +kernel
theorem dX10_line_2 : decode cX10_line 2 = .ok (.invokevirtual 103, 3) := by decide +kernel
theorem dX10_line_5 : decode cX10_line 5 = .ok (.aload_n 0, 1) := by decide +kernel
theorem dX10_line_6 : decode cX10_line 6 = .ok (.getfield 60, 3) := by decide +kernel
theorem dX10_line_9 : decode cX10_line 9 = .ok (.iload_n 1, 1) := by decide +kernel
theorem dX10_line_10 : decode cX10_line 10 = .ok (.aload_n 0, 1) := by decide +kernel
theorem dX10_line_11 : decode cX10_line 11 = .ok (.getfield 10, 3) := by decide +kernel
theorem dX10_line_14 : decode cX10_line 14 = .ok (.getfield 107, 3) := by decide +kernel
theorem dX10_line_17 : decode cX10_line 17 = .ok (.invokevirtual 324, 3) := by decide +kernel
theorem dX10_line_20 : decode cX10_line 20 = .ok (.ireturn, 1) := by decide +kernel
theorem dX10_beams_0 : decode cX10_beams 0 = .ok (.aload_n 0, 1) := by decide +kernel
theorem dX10_beams_1 : decode cX10_beams 1 = .ok (.getfield 60, 3) := by decide +kernel
theorem dX10_beams_4 : decode cX10_beams 4 = .ok (.aload_n 0, 1) := by decide +kernel
theorem dX10_beams_5 : decode cX10_beams 5 = .ok (.getfield 10, 3) := by decide +kernel
theorem dX10_beams_8 : decode cX10_beams 8 = .ok (.getfield 151, 3) := by decide +kernel
theorem dX10_beams_11 : decode cX10_beams 11 = .ok (.invokevirtual 327, 3) := by decide +kernel
theorem dX10_beams_14 : decode cX10_beams 14 = .ok (.ireturn, 1) := by decide +kernel
theorem dX10_character_0 : decode cX10_character 0 = .ok (.iload_n 1, 1) := by decide +kernel
theorem dX10_character_1 : decode cX10_character 1 = .ok (.ifCond .lt 14, 3) := by decide +kernel
theorem dX10_character_4 : decode cX10_character 4 = .ok (.iload_n 1, 1) := by decide +kernel
theorem dX10_character_5 : decode cX10_character 5 = .ok (.aload_n 0, 1) := by decide +kernel
theorem dX10_character_6 : decode cX10_character 6 = .ok (.getfield 60, 3) := by decide +kernel
theorem dX10_character_9 : decode cX10_character 9 = .ok (.getfield 331, 3) := by decide +kernel
theorem dX10_character_12 : decode cX10_character 12 = .ok (.if_icmp .lt 14, 3) := by decide +kernel
theorem dX10_character_15 : decode cX10_character 15 = .ok (.new 334, 3) := by decide +kernel
theorem dX10_character_18 : decode cX10_character 18 = .ok (.dup, 1) := by decide +kernel
theorem dX10_character_19 : decode cX10_character 19 = .ok (.ldc_w 336, 3) := by decide +kernel
theorem dX10_character_22 : decode cX10_character 22 = .ok (.invokespecial 338, 3) := by decide +kernel
theorem dX10_character_25 : decode cX10_character 25 = .ok (.athrow, 1) := by decide +kernel
theorem dX10_character_26 : decode cX10_character 26 = .ok (.aload_n 0, 1) := by decide +kernel
theorem dX10_character_27 : decode cX10_character 27 = .ok (.getfield 60, 3) := by decide +kernel
theorem dX10_character_30 : decode cX10_character 30 = .ok (.getfield 339, 3) := by decide +kernel
theorem dX10_character_33 : decode cX10_character 33 = .ok (.iload_n 1, 1) := by decide +kernel
theorem dX10_character_34 : decode cX10_character 34 = .ok (.caload, 1) := by decide +kernel
theorem dX10_character_35 : decode cX10_character 35 = .ok (.ireturn, 1) := by decide +kernel
theorem dX10_meanTilt_0 : decode cX10_meanTilt 0 = .ok (.aload_n 0, 1) := by decide +kernel
theorem dX10_meanTilt_1 : decode cX10_meanTilt 1 = .ok (.getfield 10, 3) := by decide +kernel
theorem dX10_meanTilt_4 : decode cX10_meanTilt 4 = .ok (.getfield 107, 3) := by decide +kernel
theorem dX10_meanTilt_7 : decode cX10_meanTilt 7 = .ok (.getfield 218, 3) := by decide +kernel
theorem dX10_meanTilt_10 : decode cX10_meanTilt 10 = .ok (.istore_n 1, 1) := by decide +kernel
theorem dX10_meanTilt_11 : decode cX10_meanTilt 11 = .ok (.iload_n 1, 1) := by decide +kernel
theorem dX10_meanTilt_12 : decode cX10_meanTilt 12 = .ok (.ifCond .ne 13, 3) := by decide +kernel
theorem dX10_meanTilt_15 : decode cX10_meanTilt 15 = .ok (.new 343, 3) := by decide +kernel
theorem dX10_meanTilt_18 : decode cX10_meanTilt 18 = .ok (.dup, 1) := by decide +kernel
theorem dX10_meanTilt_19 : decode cX10_meanTilt 19 = .ok (.ldc 221, 2) := by decide +kernel
theorem dX10_meanTilt_21 : decode cX10_meanTilt 21 = .ok (.invokespecial 345, 3) := by decide +kernel
theorem dX10_meanTilt_24 : decode cX10_meanTilt 24 = .ok (.athrow, 1) := by decide +kernel
theorem dX10_meanTilt_25 : decode cX10_meanTilt 25 = .ok (.aload_n 0, 1) := by decide +kernel
theorem dX10_meanTilt_26 : decode cX10_meanTilt 26 = .ok (.getfield 10, 3) := by decide +kernel
theorem dX10_meanTilt_29 : decode cX10_meanTilt 29 = .ok (.getfield 107, 3) := by decide +kernel
theorem dX10_meanTilt_32 : decode cX10_meanTilt 32 = .ok (.invokevirtual 346, 3) := by decide +kernel
theorem dX10_meanTilt_35 : decode cX10_meanTilt 35 = .ok (.i2d, 1) := by decide +kernel
theorem dX10_meanTilt_36 : decode cX10_meanTilt 36 = .ok (.iload_n 1, 1) := by decide +kernel
theorem dX10_meanTilt_37 : decode cX10_meanTilt 37 = .ok (.i2d, 1) := by decide +kernel
theorem dX10_meanTilt_38 : decode cX10_meanTilt 38 = .ok (.ddiv, 1) := by decide +kernel
theorem dX10_meanTilt_39 : decode cX10_meanTilt 39 = .ok (.dreturn, 1) := by decide +kernel
theorem dX10_plumbShare_0 : decode cX10_plumbShare 0 = .ok (.aload_n 0, 1) := by decide +kernel
theorem dX10_plumbShare_1 : decode cX10_plumbShare 1 = .ok (.getfield 10, 3) := by decide +kernel
theorem dX10_plumbShare_4 : decode cX10_plumbShare 4 = .ok (.getfield 107, 3) := by decide +kernel
theorem dX10_plumbShare_7 : decode cX10_plumbShare 7 = .ok (.getfield 218, 3) := by decide +kernel
theorem dX10_plumbShare_10 : decode cX10_plumbShare 10 = .ok (.istore_n 1, 1) := by decide +kernel
theorem dX10_plumbShare_11 : decode cX10_plumbShare 11 = .ok (.iload_n 1, 1) := by decide +kernel
theorem dX10_plumbShare_12 : decode cX10_plumbShare 12 = .ok (.ifCond .ne 13, 3) := by decide +kernel
theorem dX10_plumbShare_15 : decode cX10_plumbShare 15 = .ok (.new 343, 3) := by decide +kernel
theorem dX10_plumbShare_18 : decode cX10_plumbShare 18 = .ok (.dup, 1) := by decide +kernel
theorem dX10_plumbShare_19 : decode cX10_plumbShare 19 = .ok (.ldc 221, 2) := by decide +kernel
theorem dX10_plumbShare_21 : decode cX10_plumbShare 21 = .ok (.invokespecial 345, 3) := by decide +kernel
theorem dX10_plumbShare_24 : decode cX10_plumbShare 24 = .ok (.athrow, 1) := by decide +kernel
theorem dX10_plumbShare_25 : decode cX10_plumbShare 25 = .ok (.aload_n 0, 1) := by decide +kernel
theorem dX10_plumbShare_26 : decode cX10_plumbShare 26 = .ok (.getfield 10, 3) := by decide +kernel
theorem dX10_plumbShare_29 : decode cX10_plumbShare 29 = .ok (.getfield 107, 3) := by decide +kernel
theorem dX10_plumbShare_32 : decode cX10_plumbShare 32 = .ok (.invokevirtual 349, 3) := by decide +kernel
theorem dX10_plumbShare_35 : decode cX10_plumbShare 35 = .ok (.i2f, 1) := by decide +kernel
theorem dX10_plumbShare_36 : decode cX10_plumbShare 36 = .ok (.iload_n 1, 1) := by decide +kernel
theorem dX10_plumbShare_37 : decode cX10_plumbShare 37 = .ok (.i2f, 1) := by decide +kernel
theorem dX10_plumbShare_38 : decode cX10_plumbShare 38 = .ok (.fdiv, 1) := by decide +kernel
theorem dX10_plumbShare_39 : decode cX10_plumbShare 39 = .ok (.freturn, 1) := by decide +kernel
theorem dX10_account_0 : decode cX10_account 0 = .ok (.iload_n 1, 1) := by decide +kernel
theorem dX10_account_1 : decode cX10_account 1 = .ok (.tableswitch 165 0 10 #[59, 70, 81, 92, 103, 111, 122, 130, 138, 149, 157], 59) := by decide +kernel
theorem dX10_account_60 : decode cX10_account 60 = .ok (.aload_n 0, 1) := by decide +kernel
theorem dX10_account_61 : decode cX10_account 61 = .ok (.getfield 10, 3) := by decide +kernel
theorem dX10_account_64 : decode cX10_account 64 = .ok (.getfield 107, 3) := by decide +kernel
theorem dX10_account_67 : decode cX10_account 67 = .ok (.getfield 218, 3) := by decide +kernel
theorem dX10_account_70 : decode cX10_account 70 = .ok (.ireturn, 1) := by decide +kernel
theorem dX10_account_71 : decode cX10_account 71 = .ok (.aload_n 0, 1) := by decide +kernel
theorem dX10_account_72 : decode cX10_account 72 = .ok (.getfield 10, 3) := by decide +kernel
theorem dX10_account_75 : decode cX10_account 75 = .ok (.getfield 107, 3) := by decide +kernel
theorem dX10_account_78 : decode cX10_account 78 = .ok (.invokevirtual 352, 3) := by decide +kernel
theorem dX10_account_81 : decode cX10_account 81 = .ok (.ireturn, 1) := by decide +kernel
theorem dX10_account_82 : decode cX10_account 82 = .ok (.aload_n 0, 1) := by decide +kernel
theorem dX10_account_83 : decode cX10_account 83 = .ok (.getfield 10, 3) := by decide +kernel
theorem dX10_account_86 : decode cX10_account 86 = .ok (.getfield 151, 3) := by decide +kernel
theorem dX10_account_89 : decode cX10_account 89 = .ok (.getfield 355, 3) := by decide +kernel
theorem dX10_account_92 : decode cX10_account 92 = .ok (.ireturn, 1) := by decide +kernel
theorem dX10_account_93 : decode cX10_account 93 = .ok (.aload_n 0, 1) := by decide +kernel
theorem dX10_account_94 : decode cX10_account 94 = .ok (.getfield 10, 3) := by decide +kernel
theorem dX10_account_97 : decode cX10_account 97 = .ok (.getfield 107, 3) := by decide +kernel
theorem dX10_account_100 : decode cX10_account 100 = .ok (.invokevirtual 349, 3) := by decide +kernel
theorem dX10_account_103 : decode cX10_account 103 = .ok (.ireturn, 1) := by decide +kernel
theorem dX10_account_104 : decode cX10_account 104 = .ok (.aload_n 0, 1) := by decide +kernel
theorem dX10_account_105 : decode cX10_account 105 = .ok (.getfield 10, 3) := by decide +kernel
theorem dX10_account_108 : decode cX10_account 108 = .ok (.getfield 356, 3) := by decide +kernel
theorem dX10_account_111 : decode cX10_account 111 = .ok (.ireturn, 1) := by decide +kernel
theorem dX10_account_112 : decode cX10_account 112 = .ok (.aload_n 0, 1) := by decide +kernel
theorem dX10_account_113 : decode cX10_account 113 = .ok (.getfield 10, 3) := by decide +kernel
theorem dX10_account_116 : decode cX10_account 116 = .ok (.getfield 107, 3) := by decide +kernel
theorem dX10_account_119 : decode cX10_account 119 = .ok (.invokevirtual 359, 3) := by decide +kernel
theorem dX10_account_122 : decode cX10_account 122 = .ok (.ireturn, 1) := by decide +kernel
theorem dX10_account_123 : decode cX10_account 123 = .ok (.aload_n 0, 1) := by decide +kernel
theorem dX10_account_124 : decode cX10_account 124 = .ok (.getfield 10, 3) := by decide +kernel
theorem dX10_account_127 : decode cX10_account 127 = .ok (.getfield 362, 3) := by decide +kernel
theorem dX10_account_130 : decode cX10_account 130 = .ok (.ireturn, 1) := by decide +kernel
theorem dX10_account_131 : decode cX10_account 131 = .ok (.aload_n 0, 1) := by decide +kernel
theorem dX10_account_132 : decode cX10_account 132 = .ok (.getfield 10, 3) := by decide +kernel
theorem dX10_account_135 : decode cX10_account 135 = .ok (.getfield 365, 3) := by decide +kernel
theorem dX10_account_138 : decode cX10_account 138 = .ok (.ireturn, 1) := by decide +kernel
theorem dX10_account_139 : decode cX10_account 139 = .ok (.aload_n 0, 1) := by decide +kernel
theorem dX10_account_140 : decode cX10_account 140 = .ok (.getfield 10, 3) := by decide +kernel
theorem dX10_account_143 : decode cX10_account 143 = .ok (.getfield 107, 3) := by decide +kernel
theorem dX10_account_146 : decode cX10_account 146 = .ok (.invokevirtual 346, 3) := by decide +kernel
theorem dX10_account_149 : decode cX10_account 149 = .ok (.ireturn, 1) := by decide +kernel
theorem dX10_account_150 : decode cX10_account 150 = .ok (.aload_n 0, 1) := by decide +kernel
theorem dX10_account_151 : decode cX10_account 151 = .ok (.getfield 39, 3) := by decide +kernel
theorem dX10_account_154 : decode cX10_account 154 = .ok (.getfield 368, 3) := by decide +kernel
theorem dX10_account_157 : decode cX10_account 157 = .ok (.ireturn, 1) := by decide +kernel
theorem dX10_account_158 : decode cX10_account 158 = .ok (.aload_n 0, 1) := by decide +kernel
theorem dX10_account_159 : decode cX10_account 159 = .ok (.getfield 46, 3) := by decide +kernel
theorem dX10_account_162 : decode cX10_account 162 = .ok (.getfield 369, 3) := by decide +kernel
theorem dX10_account_165 : decode cX10_account 165 = .ok (.ireturn, 1) := by decide +kernel
theorem dX10_account_166 : decode cX10_account 166 = .ok (.new 137, 3) := by decide +kernel
theorem dX10_account_169 : decode cX10_account 169 = .ok (.dup, 1) := by decide +kernel
theorem dX10_account_170 : decode cX10_account 170 = .ok (.ldc_w 370, 3) := by decide +kernel
theorem dX10_account_173 : decode cX10_account 173 = .ok (.invokespecial 141, 3) := by decide +kernel
theorem dX10_account_176 : decode cX10_account 176 = .ok (.athrow, 1) := by decide +kernel
theorem dX10_undo_0 : decode cX10_undo 0 = .ok (.aload_n 0, 1) := by decide +kernel
theorem dX10_undo_1 : decode cX10_undo 1 = .ok (.getfield 39, 3) := by decide +kernel
theorem dX10_undo_4 : decode cX10_undo 4 = .ok (.getfield 368, 3) := by decide +kernel
theorem dX10_undo_7 : decode cX10_undo 7 = .ok (.ifCond .ne 14, 3) := by decide +kernel
theorem dX10_undo_10 : decode cX10_undo 10 = .ok (.new 265, 3) := by decide +kernel
theorem dX10_undo_13 : decode cX10_undo 13 = .ok (.dup, 1) := by decide +kernel
theorem dX10_undo_14 : decode cX10_undo 14 = .ok (.ldc_w 372, 3) := by decide +kernel
theorem dX10_undo_17 : decode cX10_undo 17 = .ok (.invokespecial 269, 3) := by decide +kernel
theorem dX10_undo_20 : decode cX10_undo 20 = .ok (.athrow, 1) := by decide +kernel
theorem dX10_undo_21 : decode cX10_undo 21 = .ok (.aload_n 0, 1) := by decide +kernel
theorem dX10_undo_22 : decode cX10_undo 22 = .ok (.getfield 39, 3) := by decide +kernel
theorem dX10_undo_25 : decode cX10_undo 25 = .ok (.aload_n 0, 1) := by decide +kernel
theorem dX10_undo_26 : decode cX10_undo 26 = .ok (.getfield 10, 3) := by decide +kernel
theorem dX10_undo_29 : decode cX10_undo 29 = .ok (.invokevirtual 374, 3) := by decide +kernel
theorem dX10_undo_32 : decode cX10_undo 32 = .ok (.aload_n 0, 1) := by decide +kernel
theorem dX10_undo_33 : decode cX10_undo 33 = .ok (.getfield 39, 3) := by decide +kernel
theorem dX10_undo_36 : decode cX10_undo 36 = .ok (.getfield 368, 3) := by decide +kernel
theorem dX10_undo_39 : decode cX10_undo 39 = .ok (.ireturn, 1) := by decide +kernel
theorem dX10_save_0 : decode cX10_save 0 = .ok (.aload_n 0, 1) := by decide +kernel
theorem dX10_save_1 : decode cX10_save 1 = .ok (.getfield 19, 3) := by decide +kernel
theorem dX10_save_4 : decode cX10_save 4 = .ok (.aload_n 0, 1) := by decide +kernel
theorem dX10_save_5 : decode cX10_save 5 = .ok (.getfield 10, 3) := by decide +kernel
theorem dX10_save_8 : decode cX10_save 8 = .ok (.invokevirtual 282, 3) := by decide +kernel
theorem dX10_save_11 : decode cX10_save 11 = .ok (.aload_n 0, 1) := by decide +kernel
theorem dX10_save_12 : decode cX10_save 12 = .ok (.iconst 1, 1) := by decide +kernel
theorem dX10_save_13 : decode cX10_save 13 = .ok (.putfield 377, 3) := by decide +kernel
theorem dX10_save_16 : decode cX10_save 16 = .ok (.aload_n 0, 1) := by decide +kernel
theorem dX10_save_17 : decode cX10_save 17 = .ok (.getfield 10, 3) := by decide +kernel
theorem dX10_save_20 : decode cX10_save 20 = .ok (.getfield 107, 3) := by decide +kernel
theorem dX10_save_23 : decode cX10_save 23 = .ok (.getfield 218, 3) := by decide +kernel
theorem dX10_save_26 : decode cX10_save 26 = .ok (.ireturn, 1) := by decide +kernel
theorem dX10_restore_0 : decode cX10_restore 0 = .ok (.aload_n 0, 1) := by decide +kernel
theorem dX10_restore_1 : decode cX10_restore 1 = .ok (.getfield 377, 3) := by decide +kernel
theorem dX10_restore_4 : decode cX10_restore 4 = .ok (.ifCond .ne 14, 3) := by decide +kernel
theorem dX10_restore_7 : decode cX10_restore 7 = .ok (.new 265, 3) := by decide +kernel
theorem dX10_restore_10 : decode cX10_restore 10 = .ok (.dup, 1) := by decide +kernel
theorem dX10_restore_11 : decode cX10_restore 11 = .ok (.ldc_w 381, 3) := by decide +kernel
theorem dX10_restore_14 : decode cX10_restore 14 = .ok (.invokespecial 269, 3) := by decide +kernel
theorem dX10_restore_17 : decode cX10_restore 17 = .ok (.athrow, 1) := by decide +kernel
theorem dX10_restore_18 : decode cX10_restore 18 = .ok (.aload_n 0, 1) := by decide +kernel
theorem dX10_restore_19 : decode cX10_restore 19 = .ok (.getfield 10, 3) := by decide +kernel
theorem dX10_restore_22 : decode cX10_restore 22 = .ok (.aload_n 0, 1) := by decide +kernel
theorem dX10_restore_23 : decode cX10_restore 23 = .ok (.getfield 19, 3) := by decide +kernel
theorem dX10_restore_26 : decode cX10_restore 26 = .ok (.invokevirtual 282, 3) := by decide +kernel
theorem dX10_restore_29 : decode cX10_restore 29 = .ok (.aload_n 0, 1) := by decide +kernel
theorem dX10_restore_30 : decode cX10_restore 30 = .ok (.getfield 39, 3) := by decide +kernel
theorem dX10_restore_33 : decode cX10_restore 33 = .ok (.invokevirtual 383, 3) := by decide +kernel
theorem dX10_restore_36 : decode cX10_restore 36 = .ok (.aload_n 0, 1) := by decide +kernel
theorem dX10_restore_37 : decode cX10_restore 37 = .ok (.getfield 10, 3) := by decide +kernel
theorem dX10_restore_40 : decode cX10_restore 40 = .ok (.getfield 107, 3) := by decide +kernel
theorem dX10_restore_43 : decode cX10_restore 43 = .ok (.getfield 218, 3) := by decide +kernel
theorem dX10_restore_46 : decode cX10_restore 46 = .ok (.ireturn, 1) := by decide +kernel
theorem dX10_needPerson_0 : decode cX10_needPerson 0 = .ok (.aload_n 0, 1) := by decide +kernel
theorem dX10_needPerson_1 : decode cX10_needPerson 1 = .ok (.getfield 10, 3) := by decide +kernel
theorem dX10_needPerson_4 : decode cX10_needPerson 4 = .ok (.getfield 107, 3) := by decide +kernel
theorem dX10_needPerson_7 : decode cX10_needPerson 7 = .ok (.iload_n 1, 1) := by decide +kernel
theorem dX10_needPerson_8 : decode cX10_needPerson 8 = .ok (.invokevirtual 386, 3) := by decide +kernel
theorem dX10_needPerson_11 : decode cX10_needPerson 11 = .ok (.ifCond .ne 14, 3) := by decide +kernel
theorem dX10_needPerson_14 : decode cX10_needPerson 14 = .ok (.new 334, 3) := by decide +kernel
theorem dX10_needPerson_17 : decode cX10_needPerson 17 = .ok (.dup, 1) := by decide +kernel
theorem dX10_needPerson_18 : decode cX10_needPerson 18 = .ok (.ldc_w 390, 3) := by decide +kernel
theorem dX10_needPerson_21 : decode cX10_needPerson 21 = .ok (.invokespecial 338, 3) := by decide +kernel
theorem dX10_needPerson_24 : decode cX10_needPerson 24 = .ok (.athrow, 1) := by decide +kernel
theorem dX10_needPerson_25 : decode cX10_needPerson 25 = .ok (.return_, 1) := by decide +kernel
theorem dX10_needBeam_0 : decode cX10_needBeam 0 = .ok (.aload_n 0, 1) := by decide +kernel
theorem dX10_needBeam_1 : decode cX10_needBeam 1 = .ok (.getfield 10, 3) := by decide +kernel
theorem dX10_needBeam_4 : decode cX10_needBeam 4 = .ok (.getfield 151, 3) := by decide +kernel
theorem dX10_needBeam_7 : decode cX10_needBeam 7 = .ok (.iload_n 1, 1) := by decide +kernel
theorem dX10_needBeam_8 : decode cX10_needBeam 8 = .ok (.invokevirtual 392, 3) := by decide +kernel
theorem dX10_needBeam_11 : decode cX10_needBeam 11 = .ok (.ifCond .ne 14, 3) := by decide +kernel
theorem dX10_needBeam_14 : decode cX10_needBeam 14 = .ok (.new 334, 3) := by decide +kernel
theorem dX10_needBeam_17 : decode cX10_needBeam 17 = .ok (.dup, 1) := by decide +kernel
theorem dX10_needBeam_18 : decode cX10_needBeam 18 = .ok (.ldc_w 393, 3) := by decide +kernel
theorem dX10_needBeam_21 : decode cX10_needBeam 21 = .ok (.invokespecial 338, 3) := by decide +kernel
theorem dX10_needBeam_24 : decode cX10_needBeam 24 = .ok (.athrow, 1) := by decide +kernel
theorem dX10_needBeam_25 : decode cX10_needBeam 25 = .ok (.return_, 1) := by decide +kernel
theorem dX10_needStrength_0 : decode cX10_needStrength 0 = .ok (.iload_n 1, 1) := by decide +kernel
theorem dX10_needStrength_1 : decode cX10_needStrength 1 = .ok (.invokestatic 395, 3) := by decide +kernel
theorem dX10_needStrength_4 : decode cX10_needStrength 4 = .ok (.ifCond .ne 14, 3) := by decide +kernel
theorem dX10_needStrength_7 : decode cX10_needStrength 7 = .ok (.new 137, 3) := by decide +kernel
theorem dX10_needStrength_10 : decode cX10_needStrength 10 = .ok (.dup, 1) := by decide +kernel
theorem dX10_needStrength_11 : decode cX10_needStrength 11 = .ok (.ldc_w 398, 3) := by decide +kernel
theorem dX10_needStrength_14 : decode cX10_needStrength 14 = .ok (.invokespecial 141, 3) := by decide +kernel
theorem dX10_needStrength_17 : decode cX10_needStrength 17 = .ok (.athrow, 1) := by decide +kernel
theorem dX10_needStrength_18 : decode cX10_needStrength 18 = .ok (.return_, 1) := by decide +kernel
theorem dX10_carryOutChange_0 : decode cX10_carryOutChange 0 = .ok (.aload_n 0, 1) := by decide +kernel
theorem dX10_carryOutChange_1 : decode cX10_carryOutChange 1 = .ok (.getfield 16, 3) := by decide +kernel
theorem dX10_carryOutChange_4 : decode cX10_carryOutChange 4 = .ok (.aload_n 0, 1) := by decide +kernel
theorem dX10_carryOutChange_5 : decode cX10_carryOutChange 5 = .ok (.getfield 10, 3) := by decide +kernel
theorem dX10_carryOutChange_8 : decode cX10_carryOutChange 8 = .ok (.invokevirtual 282, 3) := by decide +kernel
theorem dX10_carryOutChange_11 : decode cX10_carryOutChange 11 = .ok (.aload_n 0, 1) := by decide +kernel
theorem dX10_carryOutChange_12 : decode cX10_carryOutChange 12 = .ok (.getfield 16, 3) := by decide +kernel
theorem dX10_carryOutChange_15 : decode cX10_carryOutChange 15 = .ok (.aload_n 0, 1) := by decide +kernel
theorem dX10_carryOutChange_16 : decode cX10_carryOutChange 16 = .ok (.getfield 53, 3) := by decide +kernel
theorem dX10_carryOutChange_19 : decode cX10_carryOutChange 19 = .ok (.invokevirtual 292, 3) := by decide +kernel
theorem dX10_carryOutChange_22 : decode cX10_carryOutChange 22 = .ok (.aload_n 0, 1) := by decide +kernel
theorem dX10_carryOutChange_23 : decode cX10_carryOutChange 23 = .ok (.getfield 53, 3) := by decide +kernel
theorem dX10_carryOutChange_26 : decode cX10_carryOutChange 26 = .ok (.invokevirtual 296, 3) := by decide +kernel
theorem dX10_carryOutChange_29 : decode cX10_carryOutChange 29 = .ok (.ifCond .eq 23, 3) := by decide +kernel
theorem dX10_carryOutChange_32 : decode cX10_carryOutChange 32 = .ok (.aload_n 0, 1) := by decide +kernel
theorem dX10_carryOutChange_33 : decode cX10_carryOutChange 33 = .ok (.aload_n 0, 1) := by decide +kernel
theorem dX10_carryOutChange_34 : decode cX10_carryOutChange 34 = .ok (.getfield 53, 3) := by decide +kernel
theorem dX10_carryOutChange_37 : decode cX10_carryOutChange 37 = .ok (.iconst 0, 1) := by decide +kernel
theorem dX10_carryOutChange_38 : decode cX10_carryOutChange 38 = .ok (.invokevirtual 299, 3) := by decide +kernel
theorem dX10_carryOutChange_41 : decode cX10_carryOutChange 41 = .ok (.new 303, 3) := by decide +kernel
theorem dX10_carryOutChange_44 : decode cX10_carryOutChange 44 = .ok (.dup, 1) := by decide +kernel
theorem dX10_carryOutChange_45 : decode cX10_carryOutChange 45 = .ok (.ldc_w 400, 3) := by decide +kernel
theorem dX10_carryOutChange_48 : decode cX10_carryOutChange 48 = .ok (.invokespecial 307, 3) := by decide +kernel
theorem dX10_carryOutChange_51 : decode cX10_carryOutChange 51 = .ok (.athrow, 1) := by decide +kernel
theorem dX10_carryOutChange_52 : decode cX10_carryOutChange 52 = .ok (.aload_n 0, 1) := by decide +kernel
theorem dX10_carryOutChange_53 : decode cX10_carryOutChange 53 = .ok (.invokevirtual 308, 3) := by decide +kernel
theorem dX10_carryOutChange_56 : decode cX10_carryOutChange 56 = .ok (.aload_n 0, 1) := by decide +kernel
theorem dX10_carryOutChange_57 : decode cX10_carryOutChange 57 = .ok (.getfield 53, 3) := by decide +kernel
theorem dX10_carryOutChange_60 : decode cX10_carryOutChange 60 = .ok (.getfield 402, 3) := by decide +kernel
theorem dX10_carryOutChange_63 : decode cX10_carryOutChange 63 = .ok (.ireturn, 1) := by decide +kernel
theorem dX10_acceptDraft_0 : decode cX10_acceptDraft 0 = .ok (.aload_n 0, 1) := by decide +kernel
theorem dX10_acceptDraft_1 : decode cX10_acceptDraft 1 = .ok (.getfield 39, 3) := by decide +kernel
theorem dX10_acceptDraft_4 : decode cX10_acceptDraft 4 = .ok (.aload_n 0, 1) := by decide +kernel
theorem dX10_acceptDraft_5 : decode cX10_acceptDraft 5 = .ok (.getfield 10, 3) := by decide +kernel
theorem dX10_acceptDraft_8 : decode cX10_acceptDraft 8 = .ok (.invokevirtual 405, 3) := by decide +kernel
theorem dX10_acceptDraft_11 : decode cX10_acceptDraft 11 = .ok (.aload_n 0, 1) := by decide +kernel
theorem dX10_acceptDraft_12 : decode cX10_acceptDraft 12 = .ok (.getfield 10, 3) := by decide +kernel
theorem dX10_acceptDraft_15 : decode cX10_acceptDraft 15 = .ok (.aload_n 0, 1) := by decide +kernel
theorem dX10_acceptDraft_16 : decode cX10_acceptDraft 16 = .ok (.getfield 16, 3) := by decide +kernel
theorem dX10_acceptDraft_19 : decode cX10_acceptDraft 19 = .ok (.invokevirtual 282, 3) := by decide +kernel
theorem dX10_acceptDraft_22 : decode cX10_acceptDraft 22 = .ok (.return_, 1) := by decide +kernel
theorem dX10_keepReason_0 : decode cX10_keepReason 0 = .ok (.aload_n 0, 1) := by decide +kernel
theorem dX10_keepReason_1 : decode cX10_keepReason 1 = .ok (.aload_n 1, 1) := by decide +kernel
theorem dX10_keepReason_2 : decode cX10_keepReason 2 = .ok (.getfield 408, 3) := by decide +kernel
theorem dX10_keepReason_5 : decode cX10_keepReason 5 = .ok (.putfield 313, 3) := by decide +kernel
theorem dX10_keepReason_8 : decode cX10_keepReason 8 = .ok (.aload_n 0, 1) := by decide +kernel
theorem dX10_keepReason_9 : decode cX10_keepReason 9 = .ok (.aload_n 1, 1) := by decide +kernel
theorem dX10_keepReason_10 : decode cX10_keepReason 10 = .ok (.getfield 411, 3) := by decide +kernel
theorem dX10_keepReason_13 : decode cX10_keepReason 13 = .ok (.putfield 318, 3) := by decide +kernel
theorem dX10_keepReason_16 : decode cX10_keepReason 16 = .ok (.aload_n 0, 1) := by decide +kernel
theorem dX10_keepReason_17 : decode cX10_keepReason 17 = .ok (.iload_n 2, 1) := by decide +kernel
theorem dX10_keepReason_18 : decode cX10_keepReason 18 = .ok (.putfield 321, 3) := by decide +kernel
theorem dX10_keepReason_21 : decode cX10_keepReason 21 = .ok (.return_, 1) := by decide +kernel
