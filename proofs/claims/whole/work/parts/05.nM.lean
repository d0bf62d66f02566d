/-! decode rows, cut out of the printed names -/
theorem dX11_init_0 : decode cX11_init 0 = .ok (.aload_n 0, 1) := by decide +kernel
theorem dX11_init_1 : decode cX11_init 1 = .ok (.invokespecial 3, 3) := by decide +kernel
theorem dX11_init_4 : decode cX11_init 4 = .ok (.aload_n 0, 1) := by decide +kernel
theorem dX11_init_5 : decode cX11_init 5 = .ok (.bipush 96, 2) := by decide +kernel
theorem dX11_init_7 : decode cX11_init 7 = .ok (.newarray .int, 2) := by decide +kernel
theorem dX11_init_9 : decode cX11_init 9 = .ok (.putfield 9, 3) := by decide +kernel
theorem dX11_init_12 : decode cX11_init 12 = .ok (.aload_n 0, 1) := by decide +kernel
theorem dX11_init_13 : decode cX11_init 13 = .ok (.bipush 96, 2) := by decide +kernel
theorem dX11_init_15 : decode cX11_init 15 = .ok (.newarray .int, 2) := by decide +kernel
theorem dX11_init_17 : decode cX11_init 17 = .ok (.putfield 13, 3) := by decide +kernel
theorem dX11_init_20 : decode cX11_init 20 = .ok (.aload_n 0, 1) := by decide +kernel
theorem dX11_init_21 : decode cX11_init 21 = .ok (.bipush 96, 2) := by decide +kernel
theorem dX11_init_23 : decode cX11_init 23 = .ok (.newarray .int, 2) := by decide +kernel
theorem dX11_init_25 : decode cX11_init 25 = .ok (.putfield 16, 3) := by decide +kernel
theorem dX11_init_28 : decode cX11_init 28 = .ok (.aload_n 0, 1) := by decide +kernel
theorem dX11_init_29 : decode cX11_init 29 = .ok (.sipush 768, 3) := by decide +kernel
theorem dX11_init_32 : decode cX11_init 32 = .ok (.newarray .int, 2) := by decide +kernel
theorem dX11_init_34 : decode cX11_init 34 = .ok (.putfield 19, 3) := by decide +kernel
theorem dX11_init_37 : decode cX11_init 37 = .ok (.aload_n 0, 1) := by decide +kernel
theorem dX11_init_38 : decode cX11_init 38 = .ok (.bipush 96, 2) := by decide +kernel
theorem dX11_init_40 : decode cX11_init 40 = .ok (.newarray .int, 2) := by decide +kernel
theorem dX11_init_42 : decode cX11_init 42 = .ok (.putfield 22, 3) := by decide +kernel
theorem dX11_init_45 : decode cX11_init 45 = .ok (.aload_n 0, 1) := by decide +kernel
theorem dX11_init_46 : decode cX11_init 46 = .ok (.bipush 6, 2) := by decide +kernel
theorem dX11_init_48 : decode cX11_init 48 = .ok (.newarray .int, 2) := by decide +kernel
theorem dX11_init_50 : decode cX11_init 50 = .ok (.putfield 25, 3) := by decide +kernel
theorem dX11_init_53 : decode cX11_init 53 = .ok (.aload_n 0, 1) := by decide +kernel
theorem dX11_init_54 : decode cX11_init 54 = .ok (.bipush 120, 2) := by decide +kernel
theorem dX11_init_56 : decode cX11_init 56 = .ok (.newarray .char, 2) := by decide +kernel
theorem dX11_init_58 : decode cX11_init 58 = .ok (.putfield 28, 3) := by decide +kernel
theorem dX11_init_61 : decode cX11_init 61 = .ok (.aload_n 0, 1) := by decide +kernel
theorem dX11_init_62 : decode cX11_init 62 = .ok (.bipush 60, 2) := by decide +kernel
theorem dX11_init_64 : decode cX11_init 64 = .ok (.newarray .char, 2) := by decide +kernel
theorem dX11_init_66 : decode cX11_init 66 = .ok (.putfield 32, 3) := by decide +kernel
theorem dX11_init_69 : decode cX11_init 69 = .ok (.aload_n 0, 1) := by decide +kernel
theorem dX11_init_70 : decode cX11_init 70 = .ok (.iconst 3, 1) := by decide +kernel
theorem dX11_init_71 : decode cX11_init 71 = .ok (.newarray .int, 2) := by decide +kernel
theorem dX11_init_73 : decode cX11_init 73 = .ok (.putfield 35, 3) := by decide +kernel
theorem dX11_init_76 : decode cX11_init 76 = .ok (.aload_n 0, 1) := by decide +kernel
theorem dX11_init_77 : decode cX11_init 77 = .ok (.iconst (-1), 1) := by decide +kernel
theorem dX11_init_78 : decode cX11_init 78 = .ok (.putfield 38, 3) := by decide +kernel
theorem dX11_init_81 : decode cX11_init 81 = .ok (.return_, 1) := by decide +kernel
theorem dX11_thrown_0 : decode cX11_thrown 0 = .ok (.aload_n 0, 1) := by decide +kernel
theorem dX11_thrown_1 : decode cX11_thrown 1 = .ok (.getfield 42, 3) := by decide +kernel
theorem dX11_thrown_4 : decode cX11_thrown 4 = .ok (.ireturn, 1) := by decide +kernel
theorem dX11_raises_0 : decode cX11_raises 0 = .ok (.aload_n 0, 1) := by decide +kernel
theorem dX11_raises_1 : decode cX11_raises 1 = .ok (.iload_n 1, 1) := by decide +kernel
theorem dX11_raises_2 : decode cX11_raises 2 = .ok (.putfield 42, 3) := by decide +kernel
theorem dX11_raises_5 : decode cX11_raises 5 = .ok (.iconst 0, 1) := by decide +kernel
theorem dX11_raises_6 : decode cX11_raises 6 = .ok (.ireturn, 1) := by decide +kernel
theorem dX11_in_0 : decode cX11_in 0 = .ok (.iload_n 0, 1) := by decide +kernel
theorem dX11_in_1 : decode cX11_in 1 = .ok (.iload_n 1, 1) := by decide +kernel
theorem dX11_in_2 : decode cX11_in 2 = .ok (.if_icmp .lt 12, 3) := by decide +kernel
theorem dX11_in_5 : decode cX11_in 5 = .ok (.iload_n 0, 1) := by decide +kernel
theorem dX11_in_6 : decode cX11_in 6 = .ok (.iload_n 2, 1) := by decide +kernel
theorem dX11_in_7 : decode cX11_in 7 = .ok (.if_icmp .gt 7, 3) := by decide +kernel
theorem dX11_in_10 : decode cX11_in 10 = .ok (.iconst 1, 1) := by decide +kernel
theorem dX11_in_11 : decode cX11_in 11 = .ok (.goto 4, 3) := by decide +kernel
theorem dX11_in_14 : decode cX11_in 14 = .ok (.iconst 0, 1) := by decide +kernel
theorem dX11_in_15 : decode cX11_in 15 = .ok (.ireturn, 1) := by decide +kernel
theorem dX11_tries_0 : decode cX11_tries 0 = .ok (.aload_n 0, 1) := by decide +kernel
theorem dX11_tries_1 : decode cX11_tries 1 = .ok (.iconst 0, 1) := by decide +kernel
theorem dX11_tries_2 : decode cX11_tries 2 = .ok (.putfield 42, 3) := by decide +kernel
theorem dX11_tries_5 : decode cX11_tries 5 = .ok (.iconst 0, 1) := by decide +kernel
theorem dX11_tries_6 : decode cX11_tries 6 = .ok (.istore_n 1, 1) := by decide +kernel
theorem dX11_tries_7 : decode cX11_tries 7 = .ok (.iload_n 1, 1) := by decide +kernel
theorem dX11_tries_8 : decode cX11_tries 8 = .ok (.bipush 96, 2) := by decide +kernel
theorem dX11_tries_10 : decode cX11_tries 10 = .ok (.if_icmp .ge 21, 3) := by decide +kernel
theorem dX11_tries_13 : decode cX11_tries 13 = .ok (.aload_n 0, 1) := by decide +kernel
theorem dX11_tries_14 : decode cX11_tries 14 = .ok (.getfield 13, 3) := by decide +kernel
theorem dX11_tries_17 : decode cX11_tries 17 = .ok (.iload_n 1, 1) := by decide +kernel
theorem dX11_tries_18 : decode cX11_tries 18 = .ok (.aload_n 0, 1) := by decide +kernel
theorem dX11_tries_19 : decode cX11_tries 19 = .ok (.getfield 9, 3) := by decide +kernel
theorem dX11_tries_22 : decode cX11_tries 22 = .ok (.iload_n 1, 1) := by decide +kernel
theorem dX11_tries_23 : decode cX11_tries 23 = .ok (.iaload, 1) := by decide +kernel
theorem dX11_tries_24 : decode cX11_tries 24 = .ok (.iastore, 1) := by decide +kernel
theorem dX11_tries_25 : decode cX11_tries 25 = .ok (.iinc 1 1, 3) := by decide +kernel
theorem dX11_tries_28 : decode cX11_tries 28 = .ok (.goto (-21), 3) := by decide +kernel
theorem dX11_tries_31 : decode cX11_tries 31 = .ok (.return_, 1) := by decide +kernel
theorem dX11_keeps_0 : decode cX11_keeps 0 = .ok (.aload_n 0, 1) := by decide +kernel
theorem dX11_keeps_1 : decode cX11_keeps 1 = .ok (.getfield 45, 3) := by decide +kernel
theorem dX11_keeps_4 : decode cX11_keeps 4 = .ok (.bipush 8, 2) := by decide +kernel
theorem dX11_keeps_6 : decode cX11_keeps 6 = .ok (.if_icmp .ne 43, 3) := by decide +kernel
theorem dX11_keeps_9 : decode cX11_keeps 9 = .ok (.iconst 0, 1) := by decide +kernel
theorem dX11_keeps_10 : decode cX11_keeps 10 = .ok (.istore_n 2, 1) := by decide +kernel
theorem dX11_keeps_11 : decode cX11_keeps 11 = .ok (.iload_n 2, 1) := by decide +kernel
theorem dX11_keeps_12 : decode cX11_keeps 12 = .ok (.sipush 672, 3) := by decide +kernel
theorem dX11_keeps_15 : decode cX11_keeps 15 = .ok (.if_icmp .ge 24, 3) := by decide +kernel
theorem dX11_keeps_18 : decode cX11_keeps 18 = .ok (.aload_n 0, 1) := by decide +kernel
theorem dX11_keeps_19 : decode cX11_keeps 19 = .ok (.getfield 19, 3) := by decide +kernel
theorem dX11_keeps_22 : decode cX11_keeps 22 = .ok (.iload_n 2, 1) := by decide +kernel
theorem dX11_keeps_23 : decode cX11_keeps 23 = .ok (.aload_n 0, 1) := by decide +kernel
theorem dX11_keeps_24 : decode cX11_keeps 24 = .ok (.getfield 19, 3) := by decide +kernel
theorem dX11_keeps_27 : decode cX11_keeps 27 = .ok (.bipush 96, 2) := by decide +kernel
theorem dX11_keeps_29 : decode cX11_keeps 29 = .ok (.iload_n 2, 1) := by decide +kernel
theorem dX11_keeps_30 : decode cX11_keeps 30 = .ok (.iadd, 1) := by decide +kernel
theorem dX11_keeps_31 : decode cX11_keeps 31 = .ok (.iaload, 1) := by decide +kernel
theorem dX11_keeps_32 : decode cX11_keeps 32 = .ok (.iastore, 1) := by decide +kernel
theorem dX11_keeps_33 : decode cX11_keeps 33 = .ok (.iinc 2 1, 3) := by decide +kernel
theorem dX11_keeps_36 : decode cX11_keeps 36 = .ok (.goto (-25), 3) := by decide +kernel
theorem dX11_keeps_39 : decode cX11_keeps 39 = .ok (.aload_n 0, 1) := by decide +kernel
theorem dX11_keeps_40 : decode cX11_keeps 40 = .ok (.dup, 1) := by decide +kernel
theorem dX11_keeps_41 : decode cX11_keeps 41 = .ok (.getfield 45, 3) := by decide +kernel
theorem dX11_keeps_44 : decode cX11_keeps 44 = .ok (.iconst 1, 1) := by decide +kernel
theorem dX11_keeps_45 : decode cX11_keeps 45 = .ok (.isub, 1) := by decide +kernel
theorem dX11_keeps_46 : decode cX11_keeps 46 = .ok (.putfield 45, 3) := by decide +kernel
theorem dX11_keeps_49 : decode cX11_keeps 49 = .ok (.iconst 0, 1) := by decide +kernel
theorem dX11_keeps_50 : decode cX11_keeps 50 = .ok (.istore_n 2, 1) := by decide +kernel
theorem dX11_keeps_51 : decode cX11_keeps 51 = .ok (.iload_n 2, 1) := by decide +kernel
theorem dX11_keeps_52 : decode cX11_keeps 52 = .ok (.bipush 96, 2) := by decide +kernel
theorem dX11_keeps_54 : decode cX11_keeps 54 = .ok (.if_icmp .ge 29, 3) := by decide +kernel
theorem dX11_keeps_57 : decode cX11_keeps 57 = .ok (.aload_n 0, 1) := by decide +kernel
theorem dX11_keeps_58 : decode cX11_keeps 58 = .ok (.getfield 19, 3) := by decide +kernel
theorem dX11_keeps_61 : decode cX11_keeps 61 = .ok (.bipush 96, 2) := by decide +kernel
theorem dX11_keeps_63 : decode cX11_keeps 63 = .ok (.aload_n 0, 1) := by decide +kernel
theorem dX11_keeps_64 : decode cX11_keeps 64 = .ok (.getfield 45, 3) := by decide +kernel
theorem dX11_keeps_67 : decode cX11_keeps 67 = .ok (.imul, 1) := by decide +kernel
theorem dX11_keeps_68 : decode cX11_keeps 68 = .ok (.iload_n 2, 1) := by decide +kernel
theorem dX11_keeps_69 : decode cX11_keeps 69 = .ok (.iadd, 1) := by decide +kernel
theorem dX11_keeps_70 : decode cX11_keeps 70 = .ok (.aload_n 0, 1) := by decide +kernel
theorem dX11_keeps_71 : decode cX11_keeps 71 = .ok (.getfield 13, 3) := by decide +kernel
theorem dX11_keeps_74 : decode cX11_keeps 74 = .ok (.iload_n 2, 1) := by decide +kernel
theorem dX11_keeps_75 : decode cX11_keeps 75 = .ok (.iaload, 1) := by decide +kernel
theorem dX11_keeps_76 : decode cX11_keeps 76 = .ok (.iastore, 1) := by decide +kernel
theorem dX11_keeps_77 : decode cX11_keeps 77 = .ok (.iinc 2 1, 3) := by decide +kernel
theorem dX11_keeps_80 : decode cX11_keeps 80 = .ok (.goto (-29), 3) := by decide +kernel
theorem dX11_keeps_83 : decode cX11_keeps 83 = .ok (.aload_n 0, 1) := by decide +kernel
theorem dX11_keeps_84 : decode cX11_keeps 84 = .ok (.dup, 1) := by decide +kernel
theorem dX11_keeps_85 : decode cX11_keeps 85 = .ok (.getfield 45, 3) := by decide +kernel
theorem dX11_keeps_88 : decode cX11_keeps 88 = .ok (.iconst 1, 1) := by decide +kernel
theorem dX11_keeps_89 : decode cX11_keeps 89 = .ok (.iadd, 1) := by decide +kernel
theorem dX11_keeps_90 : decode cX11_keeps 90 = .ok (.putfield 45, 3) := by decide +kernel
theorem dX11_keeps_93 : decode cX11_keeps 93 = .ok (.iload_n 1, 1) := by decide +kernel
theorem dX11_keeps_94 : decode cX11_keeps 94 = .ok (.ireturn, 1) := by decide +kernel
theorem dX11_does_0 : decode cX11_does 0 = .ok (.aload_n 0, 1) := by decide +kernel
theorem dX11_does_1 : decode cX11_does 1 = .ok (.iload_n 1, 1) := by decide +kernel
theorem dX11_does_2 : decode cX11_does 2 = .ok (.putfield 48, 3) := by decide +kernel
theorem dX11_does_5 : decode cX11_does 5 = .ok (.iconst 1, 1) := by decide +kernel
theorem dX11_does_6 : decode cX11_does 6 = .ok (.ireturn, 1) := by decide +kernel
theorem dX11_refuses_0 : decode cX11_refuses 0 = .ok (.aload_n 0, 1) := by decide +kernel
theorem dX11_refuses_1 : decode cX11_refuses 1 = .ok (.iload_n 1, 1) := by decide +kernel
theorem dX11_refuses_2 : decode cX11_refuses 2 = .ok (.putfield 51, 3) := by decide +kernel
theorem dX11_refuses_5 : decode cX11_refuses 5 = .ok (.aload_n 0, 1) := by decide +kernel
theorem dX11_refuses_6 : decode cX11_refuses 6 = .ok (.iload_n 2, 1) := by decide +kernel
theorem dX11_refuses_7 : decode cX11_refuses 7 = .ok (.putfield 54, 3) := by decide +kernel
theorem dX11_refuses_10 : decode cX11_refuses 10 = .ok (.aload_n 0, 1) := by decide +kernel
theorem dX11_refuses_11 : decode cX11_refuses 11 = .ok (.iconst 0, 1) := by decide +kernel
theorem dX11_refuses_12 : decode cX11_refuses 12 = .ok (.putfield 57, 3) := by decide +kernel
theorem dX11_refuses_15 : decode cX11_refuses 15 = .ok (.iconst 0, 1) := by decide +kernel
theorem dX11_refuses_16 : decode cX11_refuses 16 = .ok (.ireturn, 1) := by decide +kernel
theorem dX11_ends_0 : decode cX11_ends 0 = .ok (.iload_n 1, 1) := by decide +kernel
theorem dX11_ends_1 : decode cX11_ends 1 = .ok (.ifCond .eq 14, 3) := by decide +kernel
theorem dX11_ends_4 : decode cX11_ends 4 = .ok (.aload_n 0, 1) := by decide +kernel
theorem dX11_ends_5 : decode cX11_ends 5 = .ok (.aload_n 0, 1) := by decide +kernel
theorem dX11_ends_6 : decode cX11_ends 6 = .ok (.getfield 48, 3) := by decide +kernel
theorem dX11_ends_9 : decode cX11_ends 9 = .ok (.invokevirtual 60, 3) := by decide +kernel
theorem dX11_ends_12 : decode cX11_ends 12 = .ok (.goto 8, 3) := by decide +kernel
theorem dX11_ends_15 : decode cX11_ends 15 = .ok (.aload_n 0, 1) := by decide +kernel
theorem dX11_ends_16 : decode cX11_ends 16 = .ok (.iconst 1, 1) := by decide +kernel
theorem dX11_ends_17 : decode cX11_ends 17 = .ok (.invokevirtual 64, 3) := by decide +kernel
theorem dX11_ends_20 : decode cX11_ends 20 = .ok (.ireturn, 1) := by decide +kernel
theorem dX11_isOne_0 : decode cX11_isOne 0 = .ok (.iload_n 1, 1) := by decide +kernel
theorem dX11_isOne_1 : decode cX11_isOne 1 = .ok (.iconst 0, 1) := by decide +kernel
theorem dX11_isOne_2 : decode cX11_isOne 2 = .ok (.aload_n 0, 1) := by decide +kernel
theorem dX11_isOne_3 : decode cX11_isOne 3 = .ok (.getfield 9, 3) := by decide +kernel
theorem dX11_isOne_6 : decode cX11_isOne 6 = .ok (.iconst 0, 1) := by decide +kernel
theorem dX11_isOne_7 : decode cX11_isOne 7 = .ok (.iaload, 1) := by decide +kernel
theorem dX11_isOne_8 : decode cX11_isOne 8 = .ok (.iconst 1, 1) := by decide +kernel
theorem dX11_isOne_9 : decode cX11_isOne 9 = .ok (.isub, 1) := by decide +kernel
theorem dX11_isOne_10 : decode cX11_isOne 10 = .ok (.invokestatic 67, 3) := by decide +kernel
theorem dX11_isOne_13 : decode cX11_isOne 13 = .ok (.ireturn, 1) := by decide +kernel
theorem dX11_isThere_0 : decode cX11_isThere 0 = .ok (.aload_n 0, 1) := by decide +kernel
theorem dX11_isThere_1 : decode cX11_isThere 1 = .ok (.iload_n 1, 1) := by decide +kernel
theorem dX11_isThere_2 : decode cX11_isThere 2 = .ok (.invokevirtual 71, 3) := by decide +kernel
theorem dX11_isThere_5 : decode cX11_isThere 5 = .ok (.ifCond .ne 17, 3) := by decide +kernel
theorem dX11_isThere_8 : decode cX11_isThere 8 = .ok (.aload_n 0, 1) := by decide +kernel
theorem dX11_isThere_9 : decode cX11_isThere 9 = .ok (.iconst 3, 1) := by decide +kernel
theorem dX11_isThere_10 : decode cX11_isThere 10 = .ok (.aload_n 0, 1) := by decide +kernel
theorem dX11_isThere_11 : decode cX11_isThere 11 = .ok (.getfield 9, 3) := by decide +kernel
theorem dX11_isThere_14 : decode cX11_isThere 14 = .ok (.iconst 0, 1) := by decide +kernel
theorem dX11_isThere_15 : decode cX11_isThere 15 = .ok (.iaload, 1) := by decide +kernel
theorem dX11_isThere_16 : decode cX11_isThere 16 = .ok (.invokevirtual 75, 3) := by decide +kernel
theorem dX11_isThere_19 : decode cX11_isThere 19 = .ok (.ifCond .eq 7, 3) := by decide +kernel
theorem dX11_isThere_22 : decode cX11_isThere 22 = .ok (.iconst 1, 1) := by decide +kernel
theorem dX11_isThere_23 : decode cX11_isThere 23 = .ok (.goto 4, 3) := by decide +kernel
theorem dX11_isThere_26 : decode cX11_isThere 26 = .ok (.iconst 0, 1) := by decide +kernel
theorem dX11_isThere_27 : decode cX11_isThere 27 = .ok (.ireturn, 1) := by decide +kernel
theorem dX11_of_0 : decode cX11_of 0 = .ok (.aload_n 0, 1) := by decide +kernel
theorem dX11_of_1 : decode cX11_of 1 = .ok (.getfield 9, 3) := by decide +kernel
theorem dX11_of_4 : decode cX11_of 4 = .ok (.bipush 6, 2) := by decide +kernel
theorem dX11_of_6 : decode cX11_of 6 = .ok (.iconst 5, 1) := by decide +kernel
theorem dX11_of_7 : decode cX11_of 7 = .ok (.iload_n 1, 1) := by decide +kernel
theorem dX11_of_8 : decode cX11_of 8 = .ok (.imul, 1) := by decide +kernel
theorem dX11_of_9 : decode cX11_of 9 = .ok (.iadd, 1) := by decide +kernel
theorem dX11_of_10 : decode cX11_of 10 = .ok (.iload_n 2, 1) := by decide +kernel
theorem dX11_of_11 : decode cX11_of 11 = .ok (.iadd, 1) := by decide +kernel
theorem dX11_of_12 : decode cX11_of 12 = .ok (.iaload, 1) := by decide +kernel
theorem dX11_of_13 : decode cX11_of 13 = .ok (.ireturn, 1) := by decide +kernel
theorem dX11_sets_0 : decode cX11_sets 0 = .ok (.aload_n 0, 1) := by decide +kernel
theorem dX11_sets_1 : decode cX11_sets 1 = .ok (.getfield 9, 3) := by decide +kernel
theorem dX11_sets_4 : decode cX11_sets 4 = .ok (.bipush 6, 2) := by decide +kernel
theorem dX11_sets_6 : decode cX11_sets 6 = .ok (.iconst 5, 1) := by decide +kernel
theorem dX11_sets_7 : decode cX11_sets 7 = .ok (.iload_n 1, 1) := by decide +kernel
theorem dX11_sets_8 : decode cX11_sets 8 = .ok (.imul, 1) := by decide +kernel
theorem dX11_sets_9 : decode cX11_sets 9 = .ok (.iadd, 1) := by decide +kernel
theorem dX11_sets_10 : decode cX11_sets 10 = .ok (.iload_n 2, 1) := by decide +kernel
theorem dX11_sets_11 : decode cX11_sets 11 = .ok (.iadd, 1) := by decide +kernel
theorem dX11_sets_12 : decode cX11_sets 12 = .ok (.iload_n 3, 1) := by decide +kernel
theorem dX11_sets_13 : decode cX11_sets 13 = .ok (.iastore, 1) := by decide +kernel
theorem dX11_sets_14 : decode cX11_sets 14 = .ok (.return_, 1) := by decide +kernel
theorem dX11_weighs_0 : decode cX11_weighs 0 = .ok (.aload_n 0, 1) := by decide +kernel
theorem dX11_weighs_1 : decode cX11_weighs 1 = .ok (.getfield 9, 3) := by decide +kernel
theorem dX11_weighs_4 : decode cX11_weighs 4 = .ok (.bipush 36, 2) := by decide +kernel
theorem dX11_weighs_6 : decode cX11_weighs 6 = .ok (.bipush 6, 2) := by decide +kernel
theorem dX11_weighs_8 : decode cX11_weighs 8 = .ok (.iload_n 1, 1) := by decide +kernel
theorem dX11_weighs_9 : decode cX11_weighs 9 = .ok (.imul, 1) := by decide +kernel
theorem dX11_weighs_10 : decode cX11_weighs 10 = .ok (.iadd, 1) := by decide +kernel
theorem dX11_weighs_11 : decode cX11_weighs 11 = .ok (.iload_n 2, 1) := by decide +kernel
theorem dX11_weighs_12 : decode cX11_weighs 12 = .ok (.iadd, 1) := by decide +kernel
theorem dX11_weighs_13 : decode cX11_weighs 13 = .ok (.iaload, 1) := by decide +kernel
theorem dX11_weighs_14 : decode cX11_weighs 14 = .ok (.ireturn, 1) := by decide +kernel
theorem dX11_beam_0 : decode cX11_beam 0 = .ok (.aload_n 0, 1) := by decide +kernel
theorem dX11_beam_1 : decode cX11_beam 1 = .ok (.getfield 9, 3) := by decide +kernel
theorem dX11_beam_4 : decode cX11_beam 4 = .ok (.bipush 72, 2) := by decide +kernel
theorem dX11_beam_6 : decode cX11_beam 6 = .ok (.iconst 4, 1) := by decide +kernel
theorem dX11_beam_7 : decode cX11_beam 7 = .ok (.iload_n 1, 1) := by decide +kernel
theorem dX11_beam_8 : decode cX11_beam 8 = .ok (.imul, 1) := by decide +kernel
theorem dX11_beam_9 : decode cX11_beam 9 = .ok (.iadd, 1) := by decide +kernel
theorem dX11_beam_10 : decode cX11_beam 10 = .ok (.iload_n 2, 1) := by decide +kernel
theorem dX11_beam_11 : decode cX11_beam 11 = .ok (.iadd, 1) := by decide +kernel
theorem dX11_beam_12 : decode cX11_beam 12 = .ok (.iaload, 1) := by decide +kernel
theorem dX11_beam_13 : decode cX11_beam 13 = .ok (.ireturn, 1) := by decide +kernel
theorem dX11_apart_0 : decode cX11_apart 0 = .ok (.aload_n 0, 1) := by decide +kernel
theorem dX11_apart_1 : decode cX11_apart 1 = .ok (.aload_n 0, 1) := by decide +kernel
theorem dX11_apart_2 : decode cX11_apart 2 = .ok (.iload_n 1, 1) := by decide +kernel
theorem dX11_apart_3 : decode cX11_apart 3 = .ok (.iconst 0, 1) := by decide +kernel
theorem dX11_apart_4 : decode cX11_apart 4 = .ok (.invokevirtual 79, 3) := by decide +kernel
theorem dX11_apart_7 : decode cX11_apart 7 = .ok (.iconst 0, 1) := by decide +kernel
theorem dX11_apart_8 : decode cX11_apart 8 = .ok (.invokevirtual 83, 3) := by decide +kernel
theorem dX11_apart_11 : decode cX11_apart 11 = .ok (.aload_n 0, 1) := by decide +kernel
theorem dX11_apart_12 : decode cX11_apart 12 = .ok (.aload_n 0, 1) := by decide +kernel
theorem dX11_apart_13 : decode cX11_apart 13 = .ok (.iload_n 1, 1) := by decide +kernel
theorem dX11_apart_14 : decode cX11_apart 14 = .ok (.iconst 1, 1) := by decide +kernel
theorem dX11_apart_15 : decode cX11_apart 15 = .ok (.invokevirtual 79, 3) := by decide +kernel
theorem dX11_apart_18 : decode cX11_apart 18 = .ok (.iconst 0, 1) := by decide +kernel
theorem dX11_apart_19 : decode cX11_apart 19 = .ok (.invokevirtual 83, 3) := by decide +kernel
theorem dX11_apart_22 : decode cX11_apart 22 = .ok (.isub, 1) := by decide +kernel
theorem dX11_apart_23 : decode cX11_apart 23 = .ok (.invokestatic 86, 3) := by decide +kernel
theorem dX11_apart_26 : decode cX11_apart 26 = .ok (.ireturn, 1) := by decide +kernel
theorem dX11_weights_0 : decode cX11_weights 0 = .ok (.iconst 0, 1) := by decide +kernel
theorem dX11_weights_1 : decode cX11_weights 1 = .ok (.istore_n 2, 1) := by decide +kernel
theorem dX11_weights_2 : decode cX11_weights 2 = .ok (.iconst 0, 1) := by decide +kernel
theorem dX11_weights_3 : decode cX11_weights 3 = .ok (.istore_n 3, 1) := by decide +kernel
theorem dX11_weights_4 : decode cX11_weights 4 = .ok (.iload_n 3, 1) := by decide +kernel
theorem dX11_weights_5 : decode cX11_weights 5 = .ok (.aload_n 0, 1) := by decide +kernel
theorem dX11_weights_6 : decode cX11_weights 6 = .ok (.getfield 9, 3) := by decide +kernel
theorem dX11_weights_9 : decode cX11_weights 9 = .ok (.iconst 0, 1) := by decide +kernel
theorem dX11_weights_10 : decode cX11_weights 10 = .ok (.iaload, 1) := by decide +kernel
theorem dX11_weights_11 : decode cX11_weights 11 = .ok (.if_icmp .ge 18, 3) := by decide +kernel
theorem dX11_weights_14 : decode cX11_weights 14 = .ok (.iload_n 2, 1) := by decide +kernel
theorem dX11_weights_15 : decode cX11_weights 15 = .ok (.aload_n 0, 1) := by decide +kernel
theorem dX11_weights_16 : decode cX11_weights 16 = .ok (.iload_n 1, 1) := by decide +kernel
theorem dX11_weights_17 : decode cX11_weights 17 = .ok (.iload_n 3, 1) := by decide +kernel
theorem dX11_weights_18 : decode cX11_weights 18 = .ok (.invokevirtual 91, 3) := by decide +kernel
theorem dX11_weights_21 : decode cX11_weights 21 = .ok (.iadd, 1) := by decide +kernel
theorem dX11_weights_22 : decode cX11_weights 22 = .ok (.istore_n 2, 1) := by decide +kernel
theorem dX11_weights_23 : decode cX11_weights 23 = .ok (.iinc 3 1, 3) := by decide +kernel
theorem dX11_weights_26 : decode cX11_weights 26 = .ok (.goto (-22), 3) := by decide +kernel
theorem dX11_weights_29 : decode cX11_weights 29 = .ok (.iload_n 2, 1) := by decide +kernel
theorem dX11_weights_30 : decode cX11_weights 30 = .ok (.ireturn, 1) := by decide +kernel
theorem dX11_meanOf_0 : decode cX11_meanOf 0 = .ok (.aload_n 0, 1) := by decide +kernel
theorem dX11_meanOf_1 : decode cX11_meanOf 1 = .ok (.iload_n 1, 1) := by decide +kernel
theorem dX11_meanOf_2 : decode cX11_meanOf 2 = .ok (.iconst 1, 1) := by decide +kernel
theorem dX11_meanOf_3 : decode cX11_meanOf 3 = .ok (.invokevirtual 83, 3) := by decide +kernel
theorem dX11_meanOf_6 : decode cX11_meanOf 6 = .ok (.iconst 1, 1) := by decide +kernel
theorem dX11_meanOf_7 : decode cX11_meanOf 7 = .ok (.iadd, 1) := by decide +kernel
theorem dX11_meanOf_8 : decode cX11_meanOf 8 = .ok (.istore_n 2, 1) := by decide +kernel
theorem dX11_meanOf_9 : decode cX11_meanOf 9 = .ok (.aload_n 0, 1) := by decide +kernel
theorem dX11_meanOf_10 : decode cX11_meanOf 10 = .ok (.iload_n 1, 1) := by decide +kernel
theorem dX11_meanOf_11 : decode cX11_meanOf 11 = .ok (.iconst 0, 1) := by decide +kernel
theorem dX11_meanOf_12 : decode cX11_meanOf 12 = .ok (.invokevirtual 83, 3) := by decide +kernel
theorem dX11_meanOf_15 : decode cX11_meanOf 15 = .ok (.iload_n 2, 1) := by decide +kernel
theorem dX11_meanOf_16 : decode cX11_meanOf 16 = .ok (.imul, 1) := by decide +kernel
theorem dX11_meanOf_17 : decode cX11_meanOf 17 = .ok (.istore_n 3, 1) := by decide +kernel
theorem dX11_meanOf_18 : decode cX11_meanOf 18 = .ok (.iconst 0, 1) := by decide +kernel
theorem dX11_meanOf_19 : decode cX11_meanOf 19 = .ok (.istore 4, 2) := by decide +kernel
theorem dX11_meanOf_21 : decode cX11_meanOf 21 = .ok (.iload 4, 2) := by decide +kernel
theorem dX11_meanOf_23 : decode cX11_meanOf 23 = .ok (.aload_n 0, 1) := by decide +kernel
theorem dX11_meanOf_24 : decode cX11_meanOf 24 = .ok (.getfield 9, 3) := by decide +kernel
theorem dX11_meanOf_27 : decode cX11_meanOf 27 = .ok (.iconst 0, 1) := by decide +kernel
theorem dX11_meanOf_28 : decode cX11_meanOf 28 = .ok (.iaload, 1) := by decide +kernel
theorem dX11_meanOf_29 : decode cX11_meanOf 29 = .ok (.if_icmp .ge 27, 3) := by decide +kernel
theorem dX11_meanOf_32 : decode cX11_meanOf 32 = .ok (.iload_n 3, 1) := by decide +kernel
theorem dX11_meanOf_33 : decode cX11_meanOf 33 = .ok (.aload_n 0, 1) := by decide +kernel
theorem dX11_meanOf_34 : decode cX11_meanOf 34 = .ok (.iload 4, 2) := by decide +kernel
theorem dX11_meanOf_36 : decode cX11_meanOf 36 = .ok (.iconst 0, 1) := by decide +kernel
theorem dX11_meanOf_37 : decode cX11_meanOf 37 = .ok (.invokevirtual 83, 3) := by decide +kernel
theorem dX11_meanOf_40 : decode cX11_meanOf 40 = .ok (.aload_n 0, 1) := by decide +kernel
theorem dX11_meanOf_41 : decode cX11_meanOf 41 = .ok (.iload_n 1, 1) := by decide +kernel
theorem dX11_meanOf_42 : decode cX11_meanOf 42 = .ok (.iload 4, 2) := by decide +kernel
theorem dX11_meanOf_44 : decode cX11_meanOf 44 = .ok (.invokevirtual 91, 3) := by decide +kernel
theorem dX11_meanOf_47 : decode cX11_meanOf 47 = .ok (.imul, 1) := by decide +kernel
theorem dX11_meanOf_48 : decode cX11_meanOf 48 = .ok (.iadd, 1) := by decide +kernel
theorem dX11_meanOf_49 : decode cX11_meanOf 49 = .ok (.istore_n 3, 1) := by decide +kernel
theorem dX11_meanOf_50 : decode cX11_meanOf 50 = .ok (.iinc 4 1, 3) := by decide +kernel
theorem dX11_meanOf_53 : decode cX11_meanOf 53 = .ok (.goto (-32), 3) := by decide +kernel
theorem dX11_meanOf_56 : decode cX11_meanOf 56 = .ok (.iload_n 3, 1) := by decide +kernel
theorem dX11_meanOf_57 : decode cX11_meanOf 57 = .ok (.iload_n 2, 1) := by decide +kernel
theorem dX11_meanOf_58 : decode cX11_meanOf 58 = .ok (.aload_n 0, 1) := by decide +kernel
theorem dX11_meanOf_59 : decode cX11_meanOf 59 = .ok (.iload_n 1, 1) := by decide +kernel
theorem dX11_meanOf_60 : decode cX11_meanOf 60 = .ok (.invokevirtual 94, 3) := by decide +kernel
theorem dX11_meanOf_63 : decode cX11_meanOf 63 = .ok (.iadd, 1) := by decide +kernel
theorem dX11_meanOf_64 : decode cX11_meanOf 64 = .ok (.idiv, 1) := by decide +kernel
theorem dX11_meanOf_65 : decode cX11_meanOf 65 = .ok (.ireturn, 1) := by decide +kernel
theorem dX11_stepOf_0 : decode cX11_stepOf 0 = .ok (.bipush 10, 2) := by decide +kernel
theorem dX11_stepOf_2 : decode cX11_stepOf 2 = .ok (.aload_n 0, 1) := by decide +kernel
theorem dX11_stepOf_3 : decode cX11_stepOf 3 = .ok (.iload_n 1, 1) := by decide +kernel
theorem dX11_stepOf_4 : decode cX11_stepOf 4 = .ok (.iconst 1, 1) := by decide +kernel
theorem dX11_stepOf_5 : decode cX11_stepOf 5 = .ok (.invokevirtual 83, 3) := by decide +kernel
theorem dX11_stepOf_8 : decode cX11_stepOf 8 = .ok (.isub, 1) := by decide +kernel
theorem dX11_stepOf_9 : decode cX11_stepOf 9 = .ok (.istore_n 2, 1) := by decide +kernel
theorem dX11_stepOf_10 : decode cX11_stepOf 10 = .ok (.aload_n 0, 1) := by decide +kernel
theorem dX11_stepOf_11 : decode cX11_stepOf 11 = .ok (.iload_n 1, 1) := by decide +kernel
theorem dX11_stepOf_12 : decode cX11_stepOf 12 = .ok (.iconst 2, 1) := by decide +kernel
theorem dX11_stepOf_13 : decode cX11_stepOf 13 = .ok (.invokevirtual 83, 3) := by decide +kernel
theorem dX11_stepOf_16 : decode cX11_stepOf 16 = .ok (.iconst 1, 1) := by decide +kernel
theorem dX11_stepOf_17 : decode cX11_stepOf 17 = .ok (.if_icmp .ne 9, 3) := by decide +kernel
theorem dX11_stepOf_20 : decode cX11_stepOf 20 = .ok (.iload_n 2, 1) := by decide +kernel
theorem dX11_stepOf_21 : decode cX11_stepOf 21 = .ok (.iconst 2, 1) := by decide +kernel
theorem dX11_stepOf_22 : decode cX11_stepOf 22 = .ok (.idiv, 1) := by decide +kernel
theorem dX11_stepOf_23 : decode cX11_stepOf 23 = .ok (.goto 4, 3) := by decide +kernel
theorem dX11_stepOf_26 : decode cX11_stepOf 26 = .ok (.iload_n 2, 1) := by decide +kernel
theorem dX11_stepOf_27 : decode cX11_stepOf 27 = .ok (.ireturn, 1) := by decide +kernel
theorem dX11_moves_0 : decode cX11_moves 0 = .ok (.aload_n 0, 1) := by decide +kernel
theorem dX11_moves_1 : decode cX11_moves 1 = .ok (.iload_n 1, 1) := by decide +kernel
theorem dX11_moves_2 : decode cX11_moves 2 = .ok (.invokevirtual 97, 3) := by decide +kernel
theorem dX11_moves_5 : decode cX11_moves 5 = .ok (.istore_n 2, 1) := by decide +kernel
theorem dX11_moves_6 : decode cX11_moves 6 = .ok (.iload_n 2, 1) := by decide +kernel
theorem dX11_moves_7 : decode cX11_moves 7 = .ok (.ineg, 1) := by decide +kernel
theorem dX11_moves_8 : decode cX11_moves 8 = .ok (.iload_n 2, 1) := by decide +kernel
theorem dX11_moves_9 : decode cX11_moves 9 = .ok (.aload_n 0, 1) := by decide +kernel
theorem dX11_moves_10 : decode cX11_moves 10 = .ok (.iload_n 1, 1) := by decide +kernel
theorem dX11_moves_11 : decode cX11_moves 11 = .ok (.invokevirtual 100, 3) := by decide +kernel
theorem dX11_moves_14 : decode cX11_moves 14 = .ok (.aload_n 0, 1) := by decide +kernel
theorem dX11_moves_15 : decode cX11_moves 15 = .ok (.iload_n 1, 1) := by decide +kernel
theorem dX11_moves_16 : decode cX11_moves 16 = .ok (.iconst 0, 1) := by decide +kernel
theorem dX11_moves_17 : decode cX11_moves 17 = .ok (.invokevirtual 83, 3) := by decide +kernel
theorem dX11_moves_20 : decode cX11_moves 20 = .ok (.isub, 1) := by decide +kernel
theorem dX11_moves_21 : decode cX11_moves 21 = .ok (.invokestatic 103, 3) := by decide +kernel
theorem dX11_moves_24 : decode cX11_moves 24 = .ok (.invokestatic 106, 3) := by decide +kernel
theorem dX11_moves_27 : decode cX11_moves 27 = .ok (.ireturn, 1) := by decide +kernel
theorem dX11_comes_0 : decode cX11_comes 0 = .ok (.iload_n 1, 1) := by decide +kernel
theorem dX11_comes_1 : decode cX11_comes 1 = .ok (.bipush (-20), 2) := by decide +kernel
theorem dX11_comes_3 : decode cX11_comes 3 = .ok (.bipush 20, 2) := by decide +kernel
theorem dX11_comes_5 : decode cX11_comes 5 = .ok (.invokestatic 67, 3) := by decide +kernel
theorem dX11_comes_8 : decode cX11_comes 8 = .ok (.ifCond .ne 10, 3) := by decide +kernel
theorem dX11_comes_11 : decode cX11_comes 11 = .ok (.aload_n 0, 1) := by decide +kernel
theorem dX11_comes_12 : decode cX11_comes 12 = .ok (.iconst 1, 1) := by decide +kernel
theorem dX11_comes_13 : decode cX11_comes 13 = .ok (.iconst 0, 1) := by decide +kernel
theorem dX11_comes_14 : decode cX11_comes 14 = .ok (.invokevirtual 75, 3) := by decide +kernel
theorem dX11_comes_17 : decode cX11_comes 17 = .ok (.ireturn, 1) := by decide +kernel
theorem dX11_comes_18 : decode cX11_comes 18 = .ok (.aload_n 0, 1) := by decide +kernel
theorem dX11_comes_19 : decode cX11_comes 19 = .ok (.getfield 9, 3) := by decide +kernel
theorem dX11_comes_22 : decode cX11_comes 22 = .ok (.iconst 0, 1) := by decide +kernel
theorem dX11_comes_23 : decode cX11_comes 23 = .ok (.iaload, 1) := by decide +kernel
theorem dX11_comes_24 : decode cX11_comes 24 = .ok (.bipush 6, 2) := by decide +kernel
theorem dX11_comes_26 : decode cX11_comes 26 = .ok (.if_icmp .ne 11, 3) := by decide +kernel
theorem dX11_comes_29 : decode cX11_comes 29 = .ok (.aload_n 0, 1) := by decide +kernel
theorem dX11_comes_30 : decode cX11_comes 30 = .ok (.iconst 2, 1) := by decide +kernel
theorem dX11_comes_31 : decode cX11_comes 31 = .ok (.bipush 6, 2) := by decide +kernel
theorem dX11_comes_33 : decode cX11_comes 33 = .ok (.invokevirtual 75, 3) := by decide +kernel
theorem dX11_comes_36 : decode cX11_comes 36 = .ok (.ireturn, 1) := by decide +kernel
theorem dX11_comes_37 : decode cX11_comes 37 = .ok (.aload_n 0, 1) := by decide +kernel
theorem dX11_comes_38 : decode cX11_comes 38 = .ok (.getfield 9, 3) := by decide +kernel
theorem dX11_comes_41 : decode cX11_comes 41 = .ok (.iconst 0, 1) := by decide +kernel
theorem dX11_comes_42 : decode cX11_comes 42 = .ok (.dup2, 1) := by decide +kernel
theorem dX11_comes_43 : decode cX11_comes 43 = .ok (.iaload, 1) := by decide +kernel
theorem dX11_comes_44 : decode cX11_comes 44 = .ok (.dup_x2, 1) := by decide +kernel
theorem dX11_comes_45 : decode cX11_comes 45 = .ok (.iconst 1, 1) := by decide +kernel
theorem dX11_comes_46 : decode cX11_comes 46 = .ok (.iadd, 1) := by decide +kernel
theorem dX11_comes_47 : decode cX11_comes 47 = .ok (.iastore, 1) := by decide +kernel
theorem dX11_comes_48 : decode cX11_comes 48 = .ok (.istore_n 3, 1) := by decide +kernel
theorem dX11_comes_49 : decode cX11_comes 49 = .ok (.iconst 0, 1) := by decide +kernel
theorem dX11_comes_50 : decode cX11_comes 50 = .ok (.istore 4, 2) := by decide +kernel
theorem dX11_comes_52 : decode cX11_comes 52 = .ok (.iload 4, 2) := by decide +kernel
theorem dX11_comes_54 : decode cX11_comes 54 = .ok (.iconst 5, 1) := by decide +kernel
theorem dX11_comes_55 : decode cX11_comes 55 = .ok (.if_icmp .ge 17, 3) := by decide +kernel
theorem dX11_comes_58 : decode cX11_comes 58 = .ok (.aload_n 0, 1) := by decide +kernel
theorem dX11_comes_59 : decode cX11_comes 59 = .ok (.iload_n 3, 1) := by decide +kernel
theorem dX11_comes_60 : decode cX11_comes 60 = .ok (.iload 4, 2) := by decide +kernel
theorem dX11_comes_62 : decode cX11_comes 62 = .ok (.iconst 0, 1) := by decide +kernel
theorem dX11_comes_63 : decode cX11_comes 63 = .ok (.invokevirtual 109, 3) := by decide +kernel
theorem dX11_comes_66 : decode cX11_comes 66 = .ok (.iinc 4 1, 3) := by decide +kernel
theorem dX11_comes_69 : decode cX11_comes 69 = .ok (.goto (-17), 3) := by decide +kernel
theorem dX11_comes_72 : decode cX11_comes 72 = .ok (.aload_n 0, 1) := by decide +kernel
theorem dX11_comes_73 : decode cX11_comes 73 = .ok (.iload_n 3, 1) := by decide +kernel
theorem dX11_comes_74 : decode cX11_comes 74 = .ok (.iconst 0, 1) := by decide +kernel
theorem dX11_comes_75 : decode cX11_comes 75 = .ok (.iload_n 1, 1) := by decide +kernel
theorem dX11_comes_76 : decode cX11_comes 76 = .ok (.invokevirtual 109, 3) := by decide +kernel
theorem dX11_comes_79 : decode cX11_comes 79 = .ok (.aload_n 0, 1) := by decide +kernel
theorem dX11_comes_80 : decode cX11_comes 80 = .ok (.iload_n 3, 1) := by decide +kernel
theorem dX11_comes_81 : decode cX11_comes 81 = .ok (.iconst 2, 1) := by decide +kernel
theorem dX11_comes_82 : decode cX11_comes 82 = .ok (.iload_n 2, 1) := by decide +kernel
theorem dX11_comes_83 : decode cX11_comes 83 = .ok (.invokevirtual 109, 3) := by decide +kernel
theorem dX11_comes_86 : decode cX11_comes 86 = .ok (.aload_n 0, 1) := by decide +kernel
theorem dX11_comes_87 : decode cX11_comes 87 = .ok (.iload_n 3, 1) := by decide +kernel
theorem dX11_comes_88 : decode cX11_comes 88 = .ok (.invokevirtual 113, 3) := by decide +kernel
theorem dX11_comes_91 : decode cX11_comes 91 = .ok (.ireturn, 1) := by decide +kernel
theorem dX11_person_0 : decode cX11_person 0 = .ok (.aload_n 0, 1) := by decide +kernel
theorem dX11_person_1 : decode cX11_person 1 = .ok (.invokevirtual 116, 3) := by decide +kernel
theorem dX11_person_4 : decode cX11_person 4 = .ok (.aload_n 0, 1) := by decide +kernel
theorem dX11_person_5 : decode cX11_person 5 = .ok (.aload_n 0, 1) := by decide +kernel
theorem dX11_person_6 : decode cX11_person 6 = .ok (.iload_n 1, 1) := by decide +kernel
theorem dX11_person_7 : decode cX11_person 7 = .ok (.iload_n 2, 1) := by decide +kernel
theorem dX11_person_8 : decode cX11_person 8 = .ok (.ifCond .eq 7, 3) := by decide +kernel
theorem dX11_person_11 : decode cX11_person 11 = .ok (.iconst 1, 1) := by decide +kernel
theorem dX11_person_12 : decode cX11_person 12 = .ok (.goto 4, 3) := by decide +kernel
theorem dX11_person_15 : decode cX11_person 15 = .ok (.iconst 0, 1) := by decide +kernel
theorem dX11_person_16 : decode cX11_person 16 = .ok (.invokevirtual 119, 3) := by decide +kernel
theorem dX11_person_19 : decode cX11_person 19 = .ok (.invokevirtual 122, 3) := by decide +kernel
theorem dX11_person_22 : decode cX11_person 22 = .ok (.ireturn, 1) := by decide +kernel
theorem dX11_befriends_0 : decode cX11_befriends 0 = .ok (.aload_n 0, 1) := by decide +kernel
theorem dX11_befriends_1 : decode cX11_befriends 1 = .ok (.iload_n 1, 1) := by decide +kernel
theorem dX11_befriends_2 : decode cX11_befriends 2 = .ok (.invokevirtual 126, 3) := by decide +kernel
theorem dX11_befriends_5 : decode cX11_befriends 5 = .ok (.ifCond .eq 11, 3) := by decide +kernel
theorem dX11_befriends_8 : decode cX11_befriends 8 = .ok (.aload_n 0, 1) := by decide +kernel
theorem dX11_befriends_9 : decode cX11_befriends 9 = .ok (.iload_n 2, 1) := by decide +kernel
theorem dX11_befriends_10 : decode cX11_befriends 10 = .ok (.invokevirtual 126, 3) := by decide +kernel
theorem dX11_befriends_13 : decode cX11_befriends 13 = .ok (.ifCond .ne 5, 3) := by decide +kernel
theorem dX11_befriends_16 : decode cX11_befriends 16 = .ok (.iconst 0, 1) := by decide +kernel
theorem dX11_befriends_17 : decode cX11_befriends 17 = .ok (.ireturn, 1) := by decide +kernel
theorem dX11_befriends_18 : decode cX11_befriends 18 = .ok (.iload_n 1, 1) := by decide +kernel
theorem dX11_befriends_19 : decode cX11_befriends 19 = .ok (.iload_n 2, 1) := by decide +kernel
theorem dX11_befriends_20 : decode cX11_befriends 20 = .ok (.if_icmp .ne 10, 3) := by decide +kernel
theorem dX11_befriends_23 : decode cX11_befriends 23 = .ok (.aload_n 0, 1) := by decide +kernel
theorem dX11_befriends_24 : decode cX11_befriends 24 = .ok (.iconst 4, 1) := by decide +kernel
theorem dX11_befriends_25 : decode cX11_befriends 25 = .ok (.iload_n 1, 1) := by decide +kernel
theorem dX11_befriends_26 : decode cX11_befriends 26 = .ok (.invokevirtual 75, 3) := by decide +kernel
theorem dX11_befriends_29 : decode cX11_befriends 29 = .ok (.ireturn, 1) := by decide +kernel
theorem dX11_befriends_30 : decode cX11_befriends 30 = .ok (.iload_n 3, 1) := by decide +kernel
theorem dX11_befriends_31 : decode cX11_befriends 31 = .ok (.iconst 0, 1) := by decide +kernel
theorem dX11_befriends_32 : decode cX11_befriends 32 = .ok (.bipush 9, 2) := by decide +kernel
theorem dX11_befriends_34 : decode cX11_befriends 34 = .ok (.invokestatic 67, 3) := by decide +kernel
theorem dX11_befriends_37 : decode cX11_befriends 37 = .ok (.ifCond .ne 10, 3) := by decide +kernel
theorem dX11_befriends_40 : decode cX11_befriends 40 = .ok (.aload_n 0, 1) := by decide +kernel
theorem dX11_befriends_41 : decode cX11_befriends 41 = .ok (.iconst 1, 1) := by decide +kernel
theorem dX11_befriends_42 : decode cX11_befriends 42 = .ok (.iconst 0, 1) := by decide +kernel
theorem dX11_befriends_43 : decode cX11_befriends 43 = .ok (.invokevirtual 75, 3) := by decide +kernel
theorem dX11_befriends_46 : decode cX11_befriends 46 = .ok (.ireturn, 1) := by decide +kernel
theorem dX11_befriends_47 : decode cX11_befriends 47 = .ok (.aload_n 0, 1) := by decide +kernel
theorem dX11_befriends_48 : decode cX11_befriends 48 = .ok (.iload_n 1, 1) := by decide +kernel
theorem dX11_befriends_49 : decode cX11_befriends 49 = .ok (.iload_n 2, 1) := by decide +kernel
theorem dX11_befriends_50 : decode cX11_befriends 50 = .ok (.invokevirtual 91, 3) := by decide +kernel
theorem dX11_befriends_53 : decode cX11_befriends 53 = .ok (.istore 4, 2) := by decide +kernel
theorem dX11_befriends_55 : decode cX11_befriends 55 = .ok (.iload 4, 2) := by decide +kernel
theorem dX11_befriends_57 : decode cX11_befriends 57 = .ok (.iload_n 3, 1) := by decide +kernel
theorem dX11_befriends_58 : decode cX11_befriends 58 = .ok (.if_icmp .ne 10, 3) := by decide +kernel
theorem dX11_befriends_61 : decode cX11_befriends 61 = .ok (.aload_n 0, 1) := by decide +kernel
theorem dX11_befriends_62 : decode cX11_befriends 62 = .ok (.iconst 5, 1) := by decide +kernel
theorem dX11_befriends_63 : decode cX11_befriends 63 = .ok (.iload_n 3, 1) := by decide +kernel
theorem dX11_befriends_64 : decode cX11_befriends 64 = .ok (.invokevirtual 75, 3) := by decide +kernel
theorem dX11_befriends_67 : decode cX11_befriends 67 = .ok (.ireturn, 1) := by decide +kernel
theorem dX11_befriends_68 : decode cX11_befriends 68 = .ok (.aload_n 0, 1) := by decide +kernel
theorem dX11_befriends_69 : decode cX11_befriends 69 = .ok (.getfield 9, 3) := by decide +kernel
theorem dX11_befriends_72 : decode cX11_befriends 72 = .ok (.bipush 36, 2) := by decide +kernel
theorem dX11_befriends_74 : decode cX11_befriends 74 = .ok (.bipush 6, 2) := by decide +kernel
theorem dX11_befriends_76 : decode cX11_befriends 76 = .ok (.iload_n 1, 1) := by decide +kernel
theorem dX11_befriends_77 : decode cX11_befriends 77 = .ok (.imul, 1) := by decide +kernel
theorem dX11_befriends_78 : decode cX11_befriends 78 = .ok (.iadd, 1) := by decide +kernel
theorem dX11_befriends_79 : decode cX11_befriends 79 = .ok (.iload_n 2, 1) := by decide +kernel
theorem dX11_befriends_80 : decode cX11_befriends 80 = .ok (.iadd, 1) := by decide +kernel
theorem dX11_befriends_81 : decode cX11_befriends 81 = .ok (.iload_n 3, 1) := by decide +kernel
theorem dX11_befriends_82 : decode cX11_befriends 82 = .ok (.iastore, 1) := by decide +kernel
theorem dX11_befriends_83 : decode cX11_befriends 83 = .ok (.aload_n 0, 1) := by decide +kernel
theorem dX11_befriends_84 : decode cX11_befriends 84 = .ok (.getfield 9, 3) := by decide +kernel
theorem dX11_befriends_87 : decode cX11_befriends 87 = .ok (.bipush 36, 2) := by decide +kernel
theorem dX11_befriends_89 : decode cX11_befriends 89 = .ok (.bipush 6, 2) := by decide +kernel
theorem dX11_befriends_91 : decode cX11_befriends 91 = .ok (.iload_n 2, 1) := by decide +kernel
theorem dX11_befriends_92 : decode cX11_befriends 92 = .ok (.imul, 1) := by decide +kernel
theorem dX11_befriends_93 : decode cX11_befriends 93 = .ok (.iadd, 1) := by decide +kernel
theorem dX11_befriends_94 : decode cX11_befriends 94 = .ok (.iload_n 1, 1) := by decide +kernel
theorem dX11_befriends_95 : decode cX11_befriends 95 = .ok (.iadd, 1) := by decide +kernel
theorem dX11_befriends_96 : decode cX11_befriends 96 = .ok (.iload_n 3, 1) := by decide +kernel
theorem dX11_befriends_97 : decode cX11_befriends 97 = .ok (.iastore, 1) := by decide +kernel
theorem dX11_befriends_98 : decode cX11_befriends 98 = .ok (.aload_n 0, 1) := by decide +kernel
theorem dX11_befriends_99 : decode cX11_befriends 99 = .ok (.iload 4, 2) := by decide +kernel
theorem dX11_befriends_101 : decode cX11_befriends 101 = .ok (.invokevirtual 113, 3) := by decide +kernel
theorem dX11_befriends_104 : decode cX11_befriends 104 = .ok (.ireturn, 1) := by decide +kernel
theorem dX11_friends_0 : decode cX11_friends 0 = .ok (.aload_n 0, 1) := by decide +kernel
theorem dX11_friends_1 : decode cX11_friends 1 = .ok (.invokevirtual 116, 3) := by decide +kernel
theorem dX11_friends_4 : decode cX11_friends 4 = .ok (.aload_n 0, 1) := by decide +kernel
theorem dX11_friends_5 : decode cX11_friends 5 = .ok (.aload_n 0, 1) := by decide +kernel
theorem dX11_friends_6 : decode cX11_friends 6 = .ok (.iload_n 1, 1) := by decide +kernel
theorem dX11_friends_7 : decode cX11_friends 7 = .ok (.iload_n 2, 1) := by decide +kernel
theorem dX11_friends_8 : decode cX11_friends 8 = .ok (.iload_n 3, 1) := by decide +kernel
theorem dX11_friends_9 : decode cX11_friends 9 = .ok (.invokevirtual 129, 3) := by decide +kernel
theorem dX11_friends_12 : decode cX11_friends 12 = .ok (.invokevirtual 122, 3) := by decide +kernel
theorem dX11_friends_15 : decode cX11_friends 15 = .ok (.ireturn, 1) := by decide +kernel
theorem dX11_drops_0 : decode cX11_drops 0 = .ok (.aload_n 0, 1) := by decide +kernel
theorem dX11_drops_1 : decode cX11_drops 1 = .ok (.getfield 9, 3) := by decide +kernel
theorem dX11_drops_4 : decode cX11_drops 4 = .ok (.iconst 1, 1) := by decide +kernel
theorem dX11_drops_5 : decode cX11_drops 5 = .ok (.dup2, 1) := by decide +kernel
theorem dX11_drops_6 : decode cX11_drops 6 = .ok (.iaload, 1) := by decide +kernel
theorem dX11_drops_7 : decode cX11_drops 7 = .ok (.iconst 1, 1) := by decide +kernel
theorem dX11_drops_8 : decode cX11_drops 8 = .ok (.isub, 1) := by decide +kernel
theorem dX11_drops_9 : decode cX11_drops 9 = .ok (.iastore, 1) := by decide +kernel
theorem dX11_drops_10 : decode cX11_drops 10 = .ok (.bipush 72, 2) := by decide +kernel
theorem dX11_drops_12 : decode cX11_drops 12 = .ok (.iconst 4, 1) := by decide +kernel
theorem dX11_drops_13 : decode cX11_drops 13 = .ok (.iload_n 1, 1) := by decide +kernel
theorem dX11_drops_14 : decode cX11_drops 14 = .ok (.imul, 1) := by decide +kernel
theorem dX11_drops_15 : decode cX11_drops 15 = .ok (.iadd, 1) := by decide +kernel
theorem dX11_drops_16 : decode cX11_drops 16 = .ok (.istore_n 2, 1) := by decide +kernel
theorem dX11_drops_17 : decode cX11_drops 17 = .ok (.iload_n 2, 1) := by decide +kernel
theorem dX11_drops_18 : decode cX11_drops 18 = .ok (.bipush 72, 2) := by decide +kernel
theorem dX11_drops_20 : decode cX11_drops 20 = .ok (.iconst 4, 1) := by decide +kernel
theorem dX11_drops_21 : decode cX11_drops 21 = .ok (.aload_n 0, 1) := by decide +kernel
theorem dX11_drops_22 : decode cX11_drops 22 = .ok (.getfield 9, 3) := by decide +kernel
theorem dX11_drops_25 : decode cX11_drops 25 = .ok (.iconst 1, 1) := by decide +kernel
theorem dX11_drops_26 : decode cX11_drops 26 = .ok (.iaload, 1) := by decide +kernel
theorem dX11_drops_27 : decode cX11_drops 27 = .ok (.imul, 1) := by decide +kernel
theorem dX11_drops_28 : decode cX11_drops 28 = .ok (.iadd, 1) := by decide +kernel
theorem dX11_drops_29 : decode cX11_drops 29 = .ok (.if_icmp .ge 23, 3) := by decide +kernel
theorem dX11_drops_32 : decode cX11_drops 32 = .ok (.aload_n 0, 1) := by decide +kernel
theorem dX11_drops_33 : decode cX11_drops 33 = .ok (.getfield 9, 3) := by decide +kernel
theorem dX11_drops_36 : decode cX11_drops 36 = .ok (.iload_n 2, 1) := by decide +kernel
theorem dX11_drops_37 : decode cX11_drops 37 = .ok (.aload_n 0, 1) := by decide +kernel
theorem dX11_drops_38 : decode cX11_drops 38 = .ok (.getfield 9, 3) := by decide +kernel
theorem dX11_drops_41 : decode cX11_drops 41 = .ok (.iload_n 2, 1) := by decide +kernel
theorem dX11_drops_42 : decode cX11_drops 42 = .ok (.iconst 4, 1) := by decide +kernel
theorem dX11_drops_43 : decode cX11_drops 43 = .ok (.iadd, 1) := by decide +kernel
theorem dX11_drops_44 : decode cX11_drops 44 = .ok (.iaload, 1) := by decide +kernel
theorem dX11_drops_45 : decode cX11_drops 45 = .ok (.iastore, 1) := by decide +kernel
theorem dX11_drops_46 : decode cX11_drops 46 = .ok (.iinc 2 1, 3) := by decide +kernel
theorem dX11_drops_49 : decode cX11_drops 49 = .ok (.goto (-32), 3) := by decide +kernel
theorem dX11_drops_52 : decode cX11_drops 52 = .ok (.return_, 1) := by decide +kernel
theorem dX11_goesBy_0 : decode cX11_goesBy 0 = .ok (.iconst 0, 1) := by decide +kernel
theorem dX11_goesBy_1 : decode cX11_goesBy 1 = .ok (.istore_n 1, 1) := by decide +kernel
theorem dX11_goesBy_2 : decode cX11_goesBy 2 = .ok (.iconst 0, 1) := by decide +kernel
theorem dX11_goesBy_3 : decode cX11_goesBy 3 = .ok (.istore_n 2, 1) := by decide +kernel
theorem dX11_goesBy_4 : decode cX11_goesBy 4 = .ok (.iload_n 2, 1) := by decide +kernel
theorem dX11_goesBy_5 : decode cX11_goesBy 5 = .ok (.aload_n 0, 1) := by decide +kernel
theorem dX11_goesBy_6 : decode cX11_goesBy 6 = .ok (.getfield 9, 3) := by decide +kernel
theorem dX11_goesBy_9 : decode cX11_goesBy 9 = .ok (.iconst 0, 1) := by decide +kernel
theorem dX11_goesBy_10 : decode cX11_goesBy 10 = .ok (.iaload, 1) := by decide +kernel
theorem dX11_goesBy_11 : decode cX11_goesBy 11 = .ok (.if_icmp .ge 20, 3) := by decide +kernel
theorem dX11_goesBy_14 : decode cX11_goesBy 14 = .ok (.aload_n 0, 1) := by decide +kernel
theorem dX11_goesBy_15 : decode cX11_goesBy 15 = .ok (.getfield 25, 3) := by decide +kernel
theorem dX11_goesBy_18 : decode cX11_goesBy 18 = .ok (.iload_n 2, 1) := by decide +kernel
theorem dX11_goesBy_19 : decode cX11_goesBy 19 = .ok (.aload_n 0, 1) := by decide +kernel
theorem dX11_goesBy_20 : decode cX11_goesBy 20 = .ok (.iload_n 2, 1) := by decide +kernel
theorem dX11_goesBy_21 : decode cX11_goesBy 21 = .ok (.invokevirtual 132, 3) := by decide +kernel
theorem dX11_goesBy_24 : decode cX11_goesBy 24 = .ok (.iastore, 1) := by decide +kernel
theorem dX11_goesBy_25 : decode cX11_goesBy 25 = .ok (.iinc 2 1, 3) := by decide +kernel
theorem dX11_goesBy_28 : decode cX11_goesBy 28 = .ok (.goto (-24), 3) := by decide +kernel
theorem dX11_goesBy_31 : decode cX11_goesBy 31 = .ok (.iconst 0, 1) := by decide +kernel
theorem dX11_goesBy_32 : decode cX11_goesBy 32 = .ok (.istore_n 2, 1) := by decide +kernel
theorem dX11_goesBy_33 : decode cX11_goesBy 33 = .ok (.iload_n 2, 1) := by decide +kernel
theorem dX11_goesBy_34 : decode cX11_goesBy 34 = .ok (.aload_n 0, 1) := by decide +kernel
theorem dX11_goesBy_35 : decode cX11_goesBy 35 = .ok (.getfield 9, 3) := by decide +kernel
theorem dX11_goesBy_38 : decode cX11_goesBy 38 = .ok (.iconst 0, 1) := by decide +kernel
theorem dX11_goesBy_39 : decode cX11_goesBy 39 = .ok (.iaload, 1) := by decide +kernel
theorem dX11_goesBy_40 : decode cX11_goesBy 40 = .ok (.if_icmp .ge 105, 3) := by decide +kernel
theorem dX11_goesBy_43 : decode cX11_goesBy 43 = .ok (.aload_n 0, 1) := by decide +kernel
theorem dX11_goesBy_44 : decode cX11_goesBy 44 = .ok (.getfield 25, 3) := by decide +kernel
theorem dX11_goesBy_47 : decode cX11_goesBy 47 = .ok (.iload_n 2, 1) := by decide +kernel
theorem dX11_goesBy_48 : decode cX11_goesBy 48 = .ok (.iaload, 1) := by decide +kernel
theorem dX11_goesBy_49 : decode cX11_goesBy 49 = .ok (.invokestatic 86, 3) := by decide +kernel
theorem dX11_goesBy_52 : decode cX11_goesBy 52 = .ok (.istore_n 3, 1) := by decide +kernel
theorem dX11_goesBy_53 : decode cX11_goesBy 53 = .ok (.aload_n 0, 1) := by decide +kernel
theorem dX11_goesBy_54 : decode cX11_goesBy 54 = .ok (.iload_n 2, 1) := by decide +kernel
theorem dX11_goesBy_55 : decode cX11_goesBy 55 = .ok (.iconst 0, 1) := by decide +kernel
theorem dX11_goesBy_56 : decode cX11_goesBy 56 = .ok (.aload_n 0, 1) := by decide +kernel
theorem dX11_goesBy_57 : decode cX11_goesBy 57 = .ok (.iload_n 2, 1) := by decide +kernel
theorem dX11_goesBy_58 : decode cX11_goesBy 58 = .ok (.iconst 0, 1) := by decide +kernel
theorem dX11_goesBy_59 : decode cX11_goesBy 59 = .ok (.invokevirtual 83, 3) := by decide +kernel
theorem dX11_goesBy_62 : decode cX11_goesBy 62 = .ok (.aload_n 0, 1) := by decide +kernel
theorem dX11_goesBy_63 : decode cX11_goesBy 63 = .ok (.getfield 25, 3) := by decide +kernel
theorem dX11_goesBy_66 : decode cX11_goesBy 66 = .ok (.iload_n 2, 1) := by decide +kernel
theorem dX11_goesBy_67 : decode cX11_goesBy 67 = .ok (.iaload, 1) := by decide +kernel
theorem dX11_goesBy_68 : decode cX11_goesBy 68 = .ok (.iadd, 1) := by decide +kernel
theorem dX11_goesBy_69 : decode cX11_goesBy 69 = .ok (.invokevirtual 109, 3) := by decide +kernel
theorem dX11_goesBy_72 : decode cX11_goesBy 72 = .ok (.aload_n 0, 1) := by decide +kernel
theorem dX11_goesBy_73 : decode cX11_goesBy 73 = .ok (.iload_n 2, 1) := by decide +kernel
theorem dX11_goesBy_74 : decode cX11_goesBy 74 = .ok (.iconst 4, 1) := by decide +kernel
theorem dX11_goesBy_75 : decode cX11_goesBy 75 = .ok (.aload_n 0, 1) := by decide +kernel
theorem dX11_goesBy_76 : decode cX11_goesBy 76 = .ok (.iload_n 2, 1) := by decide +kernel
theorem dX11_goesBy_77 : decode cX11_goesBy 77 = .ok (.iconst 4, 1) := by decide +kernel
theorem dX11_goesBy_78 : decode cX11_goesBy 78 = .ok (.invokevirtual 83, 3) := by decide +kernel
theorem dX11_goesBy_81 : decode cX11_goesBy 81 = .ok (.iload_n 3, 1) := by decide +kernel
theorem dX11_goesBy_82 : decode cX11_goesBy 82 = .ok (.iadd, 1) := by decide +kernel
theorem dX11_goesBy_83 : decode cX11_goesBy 83 = .ok (.invokevirtual 109, 3) := by decide +kernel
theorem dX11_goesBy_86 : decode cX11_goesBy 86 = .ok (.iload_n 3, 1) := by decide +kernel
theorem dX11_goesBy_87 : decode cX11_goesBy 87 = .ok (.ifCond .le 6, 3) := by decide +kernel
theorem dX11_goesBy_90 : decode cX11_goesBy 90 = .ok (.iinc 1 1, 3) := by decide +kernel
theorem dX11_goesBy_93 : decode cX11_goesBy 93 = .ok (.iload_n 3, 1) := by decide +kernel
theorem dX11_goesBy_94 : decode cX11_goesBy 94 = .ok (.ifCond .ne 22, 3) := by decide +kernel
theorem dX11_goesBy_97 : decode cX11_goesBy 97 = .ok (.aload_n 0, 1) := by decide +kernel
theorem dX11_goesBy_98 : decode cX11_goesBy 98 = .ok (.iload_n 2, 1) := by decide +kernel
theorem dX11_goesBy_99 : decode cX11_goesBy 99 = .ok (.iconst 1, 1) := by decide +kernel
theorem dX11_goesBy_100 : decode cX11_goesBy 100 = .ok (.bipush 9, 2) := by decide +kernel
theorem dX11_goesBy_102 : decode cX11_goesBy 102 = .ok (.aload_n 0, 1) := by decide +kernel
theorem dX11_goesBy_103 : decode cX11_goesBy 103 = .ok (.iload_n 2, 1) := by decide +kernel
theorem dX11_goesBy_104 : decode cX11_goesBy 104 = .ok (.iconst 1, 1) := by decide +kernel
theorem dX11_goesBy_105 : decode cX11_goesBy 105 = .ok (.invokevirtual 83, 3) := by decide +kernel
theorem dX11_goesBy_108 : decode cX11_goesBy 108 = .ok (.iconst 1, 1) := by decide +kernel
theorem dX11_goesBy_109 : decode cX11_goesBy 109 = .ok (.iadd, 1) := by decide +kernel
theorem dX11_goesBy_110 : decode cX11_goesBy 110 = .ok (.invokestatic 103, 3) := by decide +kernel
theorem dX11_goesBy_113 : decode cX11_goesBy 113 = .ok (.invokevirtual 109, 3) := by decide +kernel
theorem dX11_goesBy_116 : decode cX11_goesBy 116 = .ok (.iload_n 3, 1) := by decide +kernel
theorem dX11_goesBy_117 : decode cX11_goesBy 117 = .ok (.iconst 3, 1) := by decide +kernel
theorem dX11_goesBy_118 : decode cX11_goesBy 118 = .ok (.if_icmp .lt 21, 3) := by decide +kernel
theorem dX11_goesBy_121 : decode cX11_goesBy 121 = .ok (.aload_n 0, 1) := by decide +kernel
theorem dX11_goesBy_122 : decode cX11_goesBy 122 = .ok (.iload_n 2, 1) := by decide +kernel
theorem dX11_goesBy_123 : decode cX11_goesBy 123 = .ok (.iconst 1, 1) := by decide +kernel
theorem dX11_goesBy_124 : decode cX11_goesBy 124 = .ok (.iconst 0, 1) := by decide +kernel
theorem dX11_goesBy_125 : decode cX11_goesBy 125 = .ok (.aload_n 0, 1) := by decide +kernel
theorem dX11_goesBy_126 : decode cX11_goesBy 126 = .ok (.iload_n 2, 1) := by decide +kernel
theorem dX11_goesBy_127 : decode cX11_goesBy 127 = .ok (.iconst 1, 1) := by decide +kernel
theorem dX11_goesBy_128 : decode cX11_goesBy 128 = .ok (.invokevirtual 83, 3) := by decide +kernel
theorem dX11_goesBy_131 : decode cX11_goesBy 131 = .ok (.iconst 1, 1) := by decide +kernel
theorem dX11_goesBy_132 : decode cX11_goesBy 132 = .ok (.isub, 1) := by decide +kernel
theorem dX11_goesBy_133 : decode cX11_goesBy 133 = .ok (.invokestatic 106, 3) := by decide +kernel
theorem dX11_goesBy_136 : decode cX11_goesBy 136 = .ok (.invokevirtual 109, 3) := by decide +kernel
theorem dX11_goesBy_139 : decode cX11_goesBy 139 = .ok (.iinc 2 1, 3) := by decide +kernel
theorem dX11_goesBy_142 : decode cX11_goesBy 142 = .ok (.goto (-109), 3) := by decide +kernel
theorem dX11_goesBy_145 : decode cX11_goesBy 145 = .ok (.iconst 0, 1) := by decide +kernel
theorem dX11_goesBy_146 : decode cX11_goesBy 146 = .ok (.istore_n 2, 1) := by decide +kernel
theorem dX11_goesBy_147 : decode cX11_goesBy 147 = .ok (.iload_n 2, 1) := by decide +kernel
theorem dX11_goesBy_148 : decode cX11_goesBy 148 = .ok (.aload_n 0, 1) := by decide +kernel
theorem dX11_goesBy_149 : decode cX11_goesBy 149 = .ok (.getfield 9, 3) := by decide +kernel
theorem dX11_goesBy_152 : decode cX11_goesBy 152 = .ok (.iconst 1, 1) := by decide +kernel
theorem dX11_goesBy_153 : decode cX11_goesBy 153 = .ok (.iaload, 1) := by decide +kernel
theorem dX11_goesBy_154 : decode cX11_goesBy 154 = .ok (.if_icmp .ge 92, 3) := by decide +kernel
theorem dX11_goesBy_157 : decode cX11_goesBy 157 = .ok (.aload_n 0, 1) := by decide +kernel
theorem dX11_goesBy_158 : decode cX11_goesBy 158 = .ok (.iload_n 2, 1) := by decide +kernel
theorem dX11_goesBy_159 : decode cX11_goesBy 159 = .ok (.invokevirtual 135, 3) := by decide +kernel
theorem dX11_goesBy_162 : decode cX11_goesBy 162 = .ok (.aload_n 0, 1) := by decide +kernel
theorem dX11_goesBy_163 : decode cX11_goesBy 163 = .ok (.iload_n 2, 1) := by decide +kernel
theorem dX11_goesBy_164 : decode cX11_goesBy 164 = .ok (.iconst 2, 1) := by decide +kernel
theorem dX11_goesBy_165 : decode cX11_goesBy 165 = .ok (.invokevirtual 79, 3) := by decide +kernel
theorem dX11_goesBy_168 : decode cX11_goesBy 168 = .ok (.if_icmp .le 7, 3) := by decide +kernel
theorem dX11_goesBy_171 : decode cX11_goesBy 171 = .ok (.iconst 1, 1) := by decide +kernel
theorem dX11_goesBy_172 : decode cX11_goesBy 172 = .ok (.goto 4, 3) := by decide +kernel
theorem dX11_goesBy_175 : decode cX11_goesBy 175 = .ok (.iconst 0, 1) := by decide +kernel
theorem dX11_goesBy_176 : decode cX11_goesBy 176 = .ok (.istore_n 3, 1) := by decide +kernel
theorem dX11_goesBy_177 : decode cX11_goesBy 177 = .ok (.iload_n 3, 1) := by decide +kernel
theorem dX11_goesBy_178 : decode cX11_goesBy 178 = .ok (.ifCond .eq 13, 3) := by decide +kernel
theorem dX11_goesBy_181 : decode cX11_goesBy 181 = .ok (.aload_n 0, 1) := by decide +kernel
theorem dX11_goesBy_182 : decode cX11_goesBy 182 = .ok (.getfield 9, 3) := by decide +kernel
theorem dX11_goesBy_185 : decode cX11_goesBy 185 = .ok (.iconst 4, 1) := by decide +kernel
theorem dX11_goesBy_186 : decode cX11_goesBy 186 = .ok (.dup2, 1) := by decide +kernel
theorem dX11_goesBy_187 : decode cX11_goesBy 187 = .ok (.iaload, 1) := by decide +kernel
theorem dX11_goesBy_188 : decode cX11_goesBy 188 = .ok (.iconst 1, 1) := by decide +kernel
theorem dX11_goesBy_189 : decode cX11_goesBy 189 = .ok (.iadd, 1) := by decide +kernel
theorem dX11_goesBy_190 : decode cX11_goesBy 190 = .ok (.iastore, 1) := by decide +kernel
theorem dX11_goesBy_191 : decode cX11_goesBy 191 = .ok (.iload_n 3, 1) := by decide +kernel
theorem dX11_goesBy_192 : decode cX11_goesBy 192 = .ok (.ifCond .eq 20, 3) := by decide +kernel
theorem dX11_goesBy_195 : decode cX11_goesBy 195 = .ok (.aload_n 0, 1) := by decide +kernel
theorem dX11_goesBy_196 : decode cX11_goesBy 196 = .ok (.getfield 9, 3) := by decide +kernel
theorem dX11_goesBy_199 : decode cX11_goesBy 199 = .ok (.bipush 72, 2) := by decide +kernel
theorem dX11_goesBy_201 : decode cX11_goesBy 201 = .ok (.iconst 4, 1) := by decide +kernel
theorem dX11_goesBy_202 : decode cX11_goesBy 202 = .ok (.iload_n 2, 1) := by decide +kernel
theorem dX11_goesBy_203 : decode cX11_goesBy 203 = .ok (.imul, 1) := by decide +kernel
theorem dX11_goesBy_204 : decode cX11_goesBy 204 = .ok (.iadd, 1) := by decide +kernel
theorem dX11_goesBy_205 : decode cX11_goesBy 205 = .ok (.iconst 3, 1) := by decide +kernel
theorem dX11_goesBy_206 : decode cX11_goesBy 206 = .ok (.iadd, 1) := by decide +kernel
theorem dX11_goesBy_207 : decode cX11_goesBy 207 = .ok (.dup2, 1) := by decide +kernel
theorem dX11_goesBy_208 : decode cX11_goesBy 208 = .ok (.iaload, 1) := by decide +kernel
theorem dX11_goesBy_209 : decode cX11_goesBy 209 = .ok (.iconst 1, 1) := by decide +kernel
theorem dX11_goesBy_210 : decode cX11_goesBy 210 = .ok (.iadd, 1) := by decide +kernel
theorem dX11_goesBy_211 : decode cX11_goesBy 211 = .ok (.iastore, 1) := by decide +kernel
theorem dX11_goesBy_212 : decode cX11_goesBy 212 = .ok (.aload_n 0, 1) := by decide +kernel
theorem dX11_goesBy_213 : decode cX11_goesBy 213 = .ok (.iload_n 2, 1) := by decide +kernel
theorem dX11_goesBy_214 : decode cX11_goesBy 214 = .ok (.iconst 3, 1) := by decide +kernel
theorem dX11_goesBy_215 : decode cX11_goesBy 215 = .ok (.invokevirtual 79, 3) := by decide +kernel
theorem dX11_goesBy_218 : decode cX11_goesBy 218 = .ok (.iconst 3, 1) := by decide +kernel
theorem dX11_goesBy_219 : decode cX11_goesBy 219 = .ok (.if_icmp .ne 21, 3) := by decide +kernel
theorem dX11_goesBy_222 : decode cX11_goesBy 222 = .ok (.aload_n 0, 1) := by decide +kernel
theorem dX11_goesBy_223 : decode cX11_goesBy 223 = .ok (.getfield 9, 3) := by decide +kernel
theorem dX11_goesBy_226 : decode cX11_goesBy 226 = .ok (.iconst 5, 1) := by decide +kernel
theorem dX11_goesBy_227 : decode cX11_goesBy 227 = .ok (.dup2, 1) := by decide +kernel
theorem dX11_goesBy_228 : decode cX11_goesBy 228 = .ok (.iaload, 1) := by decide +kernel
theorem dX11_goesBy_229 : decode cX11_goesBy 229 = .ok (.iconst 1, 1) := by decide +kernel
theorem dX11_goesBy_230 : decode cX11_goesBy 230 = .ok (.iadd, 1) := by decide +kernel
theorem dX11_goesBy_231 : decode cX11_goesBy 231 = .ok (.iastore, 1) := by decide +kernel
theorem dX11_goesBy_232 : decode cX11_goesBy 232 = .ok (.aload_n 0, 1) := by decide +kernel
theorem dX11_goesBy_233 : decode cX11_goesBy 233 = .ok (.iload_n 2, 1) := by decide +kernel
theorem dX11_goesBy_234 : decode cX11_goesBy 234 = .ok (.invokevirtual 138, 3) := by decide +kernel
theorem dX11_goesBy_237 : decode cX11_goesBy 237 = .ok (.goto 6, 3) := by decide +kernel
theorem dX11_goesBy_240 : decode cX11_goesBy 240 = .ok (.iinc 2 1, 3) := by decide +kernel
theorem dX11_goesBy_243 : decode cX11_goesBy 243 = .ok (.goto (-96), 3) := by decide +kernel
theorem dX11_goesBy_246 : decode cX11_goesBy 246 = .ok (.aload_n 0, 1) := by decide +kernel
theorem dX11_goesBy_247 : decode cX11_goesBy 247 = .ok (.getfield 9, 3) := by decide +kernel
theorem dX11_goesBy_250 : decode cX11_goesBy 250 = .ok (.iconst 2, 1) := by decide +kernel
theorem dX11_goesBy_251 : decode cX11_goesBy 251 = .ok (.dup2, 1) := by decide +kernel
theorem dX11_goesBy_252 : decode cX11_goesBy 252 = .ok (.iaload, 1) := by decide +kernel
theorem dX11_goesBy_253 : decode cX11_goesBy 253 = .ok (.iconst 1, 1) := by decide +kernel
theorem dX11_goesBy_254 : decode cX11_goesBy 254 = .ok (.iadd, 1) := by decide +kernel
theorem dX11_goesBy_255 : decode cX11_goesBy 255 = .ok (.iastore, 1) := by decide +kernel
theorem dX11_goesBy_256 : decode cX11_goesBy 256 = .ok (.iload_n 1, 1) := by decide +kernel
theorem dX11_goesBy_257 : decode cX11_goesBy 257 = .ok (.ireturn, 1) := by decide +kernel
theorem dX11_passes_0 : decode cX11_passes 0 = .ok (.aload_n 0, 1) := by decide +kernel
theorem dX11_passes_1 : decode cX11_passes 1 = .ok (.getfield 9, 3) := by decide +kernel
theorem dX11_passes_4 : decode cX11_passes 4 = .ok (.iconst 0, 1) := by decide +kernel
theorem dX11_passes_5 : decode cX11_passes 5 = .ok (.iaload, 1) := by decide +kernel
theorem dX11_passes_6 : decode cX11_passes 6 = .ok (.ifCond .ne 18, 3) := by decide +kernel
theorem dX11_passes_9 : decode cX11_passes 9 = .ok (.aload_n 0, 1) := by decide +kernel
theorem dX11_passes_10 : decode cX11_passes 10 = .ok (.bipush 10, 2) := by decide +kernel
theorem dX11_passes_12 : decode cX11_passes 12 = .ok (.aload_n 0, 1) := by decide +kernel
theorem dX11_passes_13 : decode cX11_passes 13 = .ok (.getfield 9, 3) := by decide +kernel
theorem dX11_passes_16 : decode cX11_passes 16 = .ok (.iconst 2, 1) := by decide +kernel
theorem dX11_passes_17 : decode cX11_passes 17 = .ok (.iaload, 1) := by decide +kernel
theorem dX11_passes_18 : decode cX11_passes 18 = .ok (.invokevirtual 75, 3) := by decide +kernel
theorem dX11_passes_21 : decode cX11_passes 21 = .ok (.goto 11, 3) := by decide +kernel
theorem dX11_passes_24 : decode cX11_passes 24 = .ok (.aload_n 0, 1) := by decide +kernel
theorem dX11_passes_25 : decode cX11_passes 25 = .ok (.aload_n 0, 1) := by decide +kernel
theorem dX11_passes_26 : decode cX11_passes 26 = .ok (.invokevirtual 142, 3) := by decide +kernel
theorem dX11_passes_29 : decode cX11_passes 29 = .ok (.invokevirtual 113, 3) := by decide +kernel
theorem dX11_passes_32 : decode cX11_passes 32 = .ok (.ireturn, 1) := by decide +kernel
theorem dX11_round_0 : decode cX11_round 0 = .ok (.aload_n 0, 1) := by decide +kernel
theorem dX11_round_1 : decode cX11_round 1 = .ok (.invokevirtual 116, 3) := by decide +kernel
theorem dX11_round_4 : decode cX11_round 4 = .ok (.aload_n 0, 1) := by decide +kernel
theorem dX11_round_5 : decode cX11_round 5 = .ok (.aload_n 0, 1) := by decide +kernel
theorem dX11_round_6 : decode cX11_round 6 = .ok (.invokevirtual 146, 3) := by decide +kernel
theorem dX11_round_9 : decode cX11_round 9 = .ok (.invokevirtual 122, 3) := by decide +kernel
theorem dX11_round_12 : decode cX11_round 12 = .ok (.ireturn, 1) := by decide +kernel
theorem dX11_forceOf_0 : decode cX11_forceOf 0 = .ok (.iconst 0, 1) := by decide +kernel
theorem dX11_forceOf_1 : decode cX11_forceOf 1 = .ok (.iload_n 2, 1) := by decide +kernel
theorem dX11_forceOf_2 : decode cX11_forceOf 2 = .ok (.aload_n 0, 1) := by decide +kernel
theorem dX11_forceOf_3 : decode cX11_forceOf 3 = .ok (.iload_n 1, 1) := by decide +kernel
theorem dX11_forceOf_4 : decode cX11_forceOf 4 = .ok (.iconst 1, 1) := by decide +kernel
theorem dX11_forceOf_5 : decode cX11_forceOf 5 = .ok (.invokevirtual 83, 3) := by decide +kernel
theorem dX11_forceOf_8 : decode cX11_forceOf 8 = .ok (.iconst 3, 1) := by decide +kernel
theorem dX11_forceOf_9 : decode cX11_forceOf 9 = .ok (.idiv, 1) := by decide +kernel
theorem dX11_forceOf_10 : decode cX11_forceOf 10 = .ok (.isub, 1) := by decide +kernel
theorem dX11_forceOf_11 : decode cX11_forceOf 11 = .ok (.invokestatic 106, 3) := by decide +kernel
theorem dX11_forceOf_14 : decode cX11_forceOf 14 = .ok (.ireturn, 1) := by decide +kernel
theorem dX11_tells_0 : decode cX11_tells 0 = .ok (.aload_n 0, 1) := by decide +kernel
theorem dX11_tells_1 : decode cX11_tells 1 = .ok (.iload_n 1, 1) := by decide +kernel
theorem dX11_tells_2 : decode cX11_tells 2 = .ok (.invokevirtual 126, 3) := by decide +kernel
theorem dX11_tells_5 : decode cX11_tells 5 = .ok (.ifCond .ne 5, 3) := by decide +kernel
theorem dX11_tells_8 : decode cX11_tells 8 = .ok (.iconst 0, 1) := by decide +kernel
theorem dX11_tells_9 : decode cX11_tells 9 = .ok (.ireturn, 1) := by decide +kernel
theorem dX11_tells_10 : decode cX11_tells 10 = .ok (.iload_n 2, 1) := by decide +kernel
theorem dX11_tells_11 : decode cX11_tells 11 = .ok (.iconst 1, 1) := by decide +kernel
theorem dX11_tells_12 : decode cX11_tells 12 = .ok (.bipush 9, 2) := by decide +kernel
theorem dX11_tells_14 : decode cX11_tells 14 = .ok (.invokestatic 67, 3) := by decide +kernel
theorem dX11_tells_17 : decode cX11_tells 17 = .ok (.ifCond .ne 10, 3) := by decide +kernel
theorem dX11_tells_20 : decode cX11_tells 20 = .ok (.aload_n 0, 1) := by decide +kernel
theorem dX11_tells_21 : decode cX11_tells 21 = .ok (.iconst 1, 1) := by decide +kernel
theorem dX11_tells_22 : decode cX11_tells 22 = .ok (.iconst 0, 1) := by decide +kernel
theorem dX11_tells_23 : decode cX11_tells 23 = .ok (.invokevirtual 75, 3) := by decide +kernel
theorem dX11_tells_26 : decode cX11_tells 26 = .ok (.ireturn, 1) := by decide +kernel
theorem dX11_tells_27 : decode cX11_tells 27 = .ok (.aload_n 0, 1) := by decide +kernel
theorem dX11_tells_28 : decode cX11_tells 28 = .ok (.iload_n 1, 1) := by decide +kernel
theorem dX11_tells_29 : decode cX11_tells 29 = .ok (.iconst 0, 1) := by decide +kernel
theorem dX11_tells_30 : decode cX11_tells 30 = .ok (.invokevirtual 83, 3) := by decide +kernel
theorem dX11_tells_33 : decode cX11_tells 33 = .ok (.istore_n 3, 1) := by decide +kernel
theorem dX11_tells_34 : decode cX11_tells 34 = .ok (.iload_n 3, 1) := by decide +kernel
theorem dX11_tells_35 : decode cX11_tells 35 = .ok (.ifCond .ne 16, 3) := by decide +kernel
theorem dX11_tells_38 : decode cX11_tells 38 = .ok (.aload_n 0, 1) := by decide +kernel
theorem dX11_tells_39 : decode cX11_tells 39 = .ok (.bipush 6, 2) := by decide +kernel
theorem dX11_tells_41 : decode cX11_tells 41 = .ok (.aload_n 0, 1) := by decide +kernel
theorem dX11_tells_42 : decode cX11_tells 42 = .ok (.iload_n 1, 1) := by decide +kernel
theorem dX11_tells_43 : decode cX11_tells 43 = .ok (.iconst 1, 1) := by decide +kernel
theorem dX11_tells_44 : decode cX11_tells 44 = .ok (.invokevirtual 83, 3) := by decide +kernel
theorem dX11_tells_47 : decode cX11_tells 47 = .ok (.invokevirtual 75, 3) := by decide +kernel
theorem dX11_tells_50 : decode cX11_tells 50 = .ok (.ireturn, 1) := by decide +kernel
theorem dX11_tells_51 : decode cX11_tells 51 = .ok (.aload_n 0, 1) := by decide +kernel
theorem dX11_tells_52 : decode cX11_tells 52 = .ok (.iload_n 1, 1) := by decide +kernel
theorem dX11_tells_53 : decode cX11_tells 53 = .ok (.iload_n 2, 1) := by decide +kernel
theorem dX11_tells_54 : decode cX11_tells 54 = .ok (.invokevirtual 150, 3) := by decide +kernel
theorem dX11_tells_57 : decode cX11_tells 57 = .ok (.istore 4, 2) := by decide +kernel
theorem dX11_tells_59 : decode cX11_tells 59 = .ok (.iload 4, 2) := by decide +kernel
theorem dX11_tells_61 : decode cX11_tells 61 = .ok (.ifCond .ne 11, 3) := by decide +kernel
theorem dX11_tells_64 : decode cX11_tells 64 = .ok (.aload_n 0, 1) := by decide +kernel
theorem dX11_tells_65 : decode cX11_tells 65 = .ok (.bipush 7, 2) := by decide +kernel
theorem dX11_tells_67 : decode cX11_tells 67 = .ok (.iload_n 2, 1) := by decide +kernel
theorem dX11_tells_68 : decode cX11_tells 68 = .ok (.invokevirtual 75, 3) := by decide +kernel
theorem dX11_tells_71 : decode cX11_tells 71 = .ok (.ireturn, 1) := by decide +kernel
theorem dX11_tells_72 : decode cX11_tells 72 = .ok (.iconst 0, 1) := by decide +kernel
theorem dX11_tells_73 : decode cX11_tells 73 = .ok (.iload_n 3, 1) := by decide +kernel
theorem dX11_tells_74 : decode cX11_tells 74 = .ok (.invokestatic 86, 3) := by decide +kernel
theorem dX11_tells_77 : decode cX11_tells 77 = .ok (.iload 4, 2) := by decide +kernel
theorem dX11_tells_79 : decode cX11_tells 79 = .ok (.isub, 1) := by decide +kernel
theorem dX11_tells_80 : decode cX11_tells 80 = .ok (.invokestatic 106, 3) := by decide +kernel
theorem dX11_tells_83 : decode cX11_tells 83 = .ok (.istore 5, 2) := by decide +kernel
theorem dX11_tells_85 : decode cX11_tells 85 = .ok (.aload_n 0, 1) := by decide +kernel
theorem dX11_tells_86 : decode cX11_tells 86 = .ok (.iload_n 1, 1) := by decide +kernel
theorem dX11_tells_87 : decode cX11_tells 87 = .ok (.iconst 0, 1) := by decide +kernel
theorem dX11_tells_88 : decode cX11_tells 88 = .ok (.iload_n 3, 1) := by decide +kernel
theorem dX11_tells_89 : decode cX11_tells 89 = .ok (.ifCond .ge 9, 3) := by decide +kernel
theorem dX11_tells_92 : decode cX11_tells 92 = .ok (.iload 5, 2) := by decide +kernel
theorem dX11_tells_94 : decode cX11_tells 94 = .ok (.ineg, 1) := by decide +kernel
theorem dX11_tells_95 : decode cX11_tells 95 = .ok (.goto 5, 3) := by decide +kernel
theorem dX11_tells_98 : decode cX11_tells 98 = .ok (.iload 5, 2) := by decide +kernel
theorem dX11_tells_100 : decode cX11_tells 100 = .ok (.invokevirtual 109, 3) := by decide +kernel
theorem dX11_tells_103 : decode cX11_tells 103 = .ok (.aload_n 0, 1) := by decide +kernel
theorem dX11_tells_104 : decode cX11_tells 104 = .ok (.iload_n 1, 1) := by decide +kernel
theorem dX11_tells_105 : decode cX11_tells 105 = .ok (.iconst 3, 1) := by decide +kernel
theorem dX11_tells_106 : decode cX11_tells 106 = .ok (.aload_n 0, 1) := by decide +kernel
theorem dX11_tells_107 : decode cX11_tells 107 = .ok (.iload_n 1, 1) := by decide +kernel
theorem dX11_tells_108 : decode cX11_tells 108 = .ok (.iconst 3, 1) := by decide +kernel
theorem dX11_tells_109 : decode cX11_tells 109 = .ok (.invokevirtual 83, 3) := by decide +kernel
theorem dX11_tells_112 : decode cX11_tells 112 = .ok (.iconst 1, 1) := by decide +kernel
theorem dX11_tells_113 : decode cX11_tells 113 = .ok (.iadd, 1) := by decide +kernel
theorem dX11_tells_114 : decode cX11_tells 114 = .ok (.invokevirtual 109, 3) := by decide +kernel
theorem dX11_tells_117 : decode cX11_tells 117 = .ok (.aload_n 0, 1) := by decide +kernel
theorem dX11_tells_118 : decode cX11_tells 118 = .ok (.getfield 9, 3) := by decide +kernel
theorem dX11_tells_121 : decode cX11_tells 121 = .ok (.iconst 3, 1) := by decide +kernel
theorem dX11_tells_122 : decode cX11_tells 122 = .ok (.dup2, 1) := by decide +kernel
theorem dX11_tells_123 : decode cX11_tells 123 = .ok (.iaload, 1) := by decide +kernel
theorem dX11_tells_124 : decode cX11_tells 124 = .ok (.iconst 1, 1) := by decide +kernel
theorem dX11_tells_125 : decode cX11_tells 125 = .ok (.iadd, 1) := by decide +kernel
theorem dX11_tells_126 : decode cX11_tells 126 = .ok (.iastore, 1) := by decide +kernel
theorem dX11_tells_127 : decode cX11_tells 127 = .ok (.aload_n 0, 1) := by decide +kernel
theorem dX11_tells_128 : decode cX11_tells 128 = .ok (.aload_n 0, 1) := by decide +kernel
theorem dX11_tells_129 : decode cX11_tells 129 = .ok (.iload_n 1, 1) := by decide +kernel
theorem dX11_tells_130 : decode cX11_tells 130 = .ok (.iconst 0, 1) := by decide +kernel
theorem dX11_tells_131 : decode cX11_tells 131 = .ok (.invokevirtual 83, 3) := by decide +kernel
theorem dX11_tells_134 : decode cX11_tells 134 = .ok (.invokevirtual 113, 3) := by decide +kernel
theorem dX11_tells_137 : decode cX11_tells 137 = .ok (.ireturn, 1) := by decide +kernel
theorem dX11_fact_0 : decode cX11_fact 0 = .ok (.aload_n 0, 1) := by decide +kernel
theorem dX11_fact_1 : decode cX11_fact 1 = .ok (.invokevirtual 116, 3) := by decide +kernel
theorem dX11_fact_4 : decode cX11_fact 4 = .ok (.aload_n 0, 1) := by decide +kernel
theorem dX11_fact_5 : decode cX11_fact 5 = .ok (.aload_n 0, 1) := by decide +kernel
theorem dX11_fact_6 : decode cX11_fact 6 = .ok (.iload_n 1, 1) := by decide +kernel
theorem dX11_fact_7 : decode cX11_fact 7 = .ok (.iload_n 2, 1) := by decide +kernel
theorem dX11_fact_8 : decode cX11_fact 8 = .ok (.invokevirtual 153, 3) := by decide +kernel
theorem dX11_fact_11 : decode cX11_fact 11 = .ok (.invokevirtual 122, 3) := by decide +kernel
theorem dX11_fact_14 : decode cX11_fact 14 = .ok (.ireturn, 1) := by decide +kernel
theorem dX11_puts_0 : decode cX11_puts 0 = .ok (.aload_n 0, 1) := by decide +kernel
theorem dX11_puts_1 : decode cX11_puts 1 = .ok (.iload_n 1, 1) := by decide +kernel
theorem dX11_puts_2 : decode cX11_puts 2 = .ok (.invokevirtual 126, 3) := by decide +kernel
theorem dX11_puts_5 : decode cX11_puts 5 = .ok (.ifCond .eq 11, 3) := by decide +kernel
theorem dX11_puts_8 : decode cX11_puts 8 = .ok (.aload_n 0, 1) := by decide +kernel
theorem dX11_puts_9 : decode cX11_puts 9 = .ok (.iload_n 2, 1) := by decide +kernel
theorem dX11_puts_10 : decode cX11_puts 10 = .ok (.invokevirtual 126, 3) := by decide +kernel
theorem dX11_puts_13 : decode cX11_puts 13 = .ok (.ifCond .ne 5, 3) := by decide +kernel
theorem dX11_puts_16 : decode cX11_puts 16 = .ok (.iconst 0, 1) := by decide +kernel
theorem dX11_puts_17 : decode cX11_puts 17 = .ok (.ireturn, 1) := by decide +kernel
theorem dX11_puts_18 : decode cX11_puts 18 = .ok (.iload_n 1, 1) := by decide +kernel
theorem dX11_puts_19 : decode cX11_puts 19 = .ok (.iload_n 2, 1) := by decide +kernel
theorem dX11_puts_20 : decode cX11_puts 20 = .ok (.if_icmp .ne 10, 3) := by decide +kernel
theorem dX11_puts_23 : decode cX11_puts 23 = .ok (.aload_n 0, 1) := by decide +kernel
theorem dX11_puts_24 : decode cX11_puts 24 = .ok (.iconst 4, 1) := by decide +kernel
theorem dX11_puts_25 : decode cX11_puts 25 = .ok (.iload_n 1, 1) := by decide +kernel
theorem dX11_puts_26 : decode cX11_puts 26 = .ok (.invokevirtual 75, 3) := by decide +kernel
theorem dX11_puts_29 : decode cX11_puts 29 = .ok (.ireturn, 1) := by decide +kernel
theorem dX11_puts_30 : decode cX11_puts 30 = .ok (.iload_n 3, 1) := by decide +kernel
theorem dX11_puts_31 : decode cX11_puts 31 = .ok (.iconst 0, 1) := by decide +kernel
theorem dX11_puts_32 : decode cX11_puts 32 = .ok (.bipush 40, 2) := by decide +kernel
theorem dX11_puts_34 : decode cX11_puts 34 = .ok (.invokestatic 67, 3) := by decide +kernel
theorem dX11_puts_37 : decode cX11_puts 37 = .ok (.ifCond .ne 10, 3) := by decide +kernel
theorem dX11_puts_40 : decode cX11_puts 40 = .ok (.aload_n 0, 1) := by decide +kernel
theorem dX11_puts_41 : decode cX11_puts 41 = .ok (.iconst 1, 1) := by decide +kernel
theorem dX11_puts_42 : decode cX11_puts 42 = .ok (.iconst 0, 1) := by decide +kernel
theorem dX11_puts_43 : decode cX11_puts 43 = .ok (.invokevirtual 75, 3) := by decide +kernel
theorem dX11_puts_46 : decode cX11_puts 46 = .ok (.ireturn, 1) := by decide +kernel
theorem dX11_puts_47 : decode cX11_puts 47 = .ok (.iload_n 1, 1) := by decide +kernel
theorem dX11_puts_48 : decode cX11_puts 48 = .ok (.iload_n 2, 1) := by decide +kernel
theorem dX11_puts_49 : decode cX11_puts 49 = .ok (.invokestatic 103, 3) := by decide +kernel
theorem dX11_puts_52 : decode cX11_puts 52 = .ok (.istore 4, 2) := by decide +kernel
theorem dX11_puts_54 : decode cX11_puts 54 = .ok (.iload_n 1, 1) := by decide +kernel
theorem dX11_puts_55 : decode cX11_puts 55 = .ok (.iload_n 2, 1) := by decide +kernel
theorem dX11_puts_56 : decode cX11_puts 56 = .ok (.invokestatic 106, 3) := by decide +kernel
theorem dX11_puts_59 : decode cX11_puts 59 = .ok (.istore 5, 2) := by decide +kernel
theorem dX11_puts_61 : decode cX11_puts 61 = .ok (.iconst 0, 1) := by decide +kernel
theorem dX11_puts_62 : decode cX11_puts 62 = .ok (.istore 6, 2) := by decide +kernel
theorem dX11_puts_64 : decode cX11_puts 64 = .ok (.iload 6, 2) := by decide +kernel
theorem dX11_puts_66 : decode cX11_puts 66 = .ok (.aload_n 0, 1) := by decide +kernel
theorem dX11_puts_67 : decode cX11_puts 67 = .ok (.getfield 9, 3) := by decide +kernel
theorem dX11_puts_70 : decode cX11_puts 70 = .ok (.iconst 1, 1) := by decide +kernel
theorem dX11_puts_71 : decode cX11_puts 71 = .ok (.iaload, 1) := by decide +kernel
theorem dX11_puts_72 : decode cX11_puts 72 = .ok (.if_icmp .ge 42, 3) := by decide +kernel
theorem dX11_puts_75 : decode cX11_puts 75 = .ok (.aload_n 0, 1) := by decide +kernel
theorem dX11_puts_76 : decode cX11_puts 76 = .ok (.iload 6, 2) := by decide +kernel
theorem dX11_puts_78 : decode cX11_puts 78 = .ok (.iconst 0, 1) := by decide +kernel
theorem dX11_puts_79 : decode cX11_puts 79 = .ok (.invokevirtual 79, 3) := by decide +kernel
theorem dX11_puts_82 : decode cX11_puts 82 = .ok (.iload 4, 2) := by decide +kernel
theorem dX11_puts_84 : decode cX11_puts 84 = .ok (.if_icmp .ne 24, 3) := by decide +kernel
theorem dX11_puts_87 : decode cX11_puts 87 = .ok (.aload_n 0, 1) := by decide +kernel
theorem dX11_puts_88 : decode cX11_puts 88 = .ok (.iload 6, 2) := by decide +kernel
theorem dX11_puts_90 : decode cX11_puts 90 = .ok (.iconst 1, 1) := by decide +kernel
theorem dX11_puts_91 : decode cX11_puts 91 = .ok (.invokevirtual 79, 3) := by decide +kernel
theorem dX11_puts_94 : decode cX11_puts 94 = .ok (.iload 5, 2) := by decide +kernel
theorem dX11_puts_96 : decode cX11_puts 96 = .ok (.if_icmp .ne 12, 3) := by decide +kernel
theorem dX11_puts_99 : decode cX11_puts 99 = .ok (.aload_n 0, 1) := by decide +kernel
theorem dX11_puts_100 : decode cX11_puts 100 = .ok (.bipush 9, 2) := by decide +kernel
theorem dX11_puts_102 : decode cX11_puts 102 = .ok (.iload 6, 2) := by decide +kernel
theorem dX11_puts_104 : decode cX11_puts 104 = .ok (.invokevirtual 75, 3) := by decide +kernel
theorem dX11_puts_107 : decode cX11_puts 107 = .ok (.ireturn, 1) := by decide +kernel
theorem dX11_puts_108 : decode cX11_puts 108 = .ok (.iinc 6 1, 3) := by decide +kernel
theorem dX11_puts_111 : decode cX11_puts 111 = .ok (.goto (-47), 3) := by decide +kernel
theorem dX11_puts_114 : decode cX11_puts 114 = .ok (.aload_n 0, 1) := by decide +kernel
theorem dX11_puts_115 : decode cX11_puts 115 = .ok (.getfield 9, 3) := by decide +kernel
theorem dX11_puts_118 : decode cX11_puts 118 = .ok (.iconst 1, 1) := by decide +kernel
theorem dX11_puts_119 : decode cX11_puts 119 = .ok (.iaload, 1) := by decide +kernel
theorem dX11_puts_120 : decode cX11_puts 120 = .ok (.bipush 6, 2) := by decide +kernel
theorem dX11_puts_122 : decode cX11_puts 122 = .ok (.if_icmp .ne 11, 3) := by decide +kernel
theorem dX11_puts_125 : decode cX11_puts 125 = .ok (.aload_n 0, 1) := by decide +kernel
theorem dX11_puts_126 : decode cX11_puts 126 = .ok (.iconst 2, 1) := by decide +kernel
theorem dX11_puts_127 : decode cX11_puts 127 = .ok (.bipush 6, 2) := by decide +kernel
theorem dX11_puts_129 : decode cX11_puts 129 = .ok (.invokevirtual 75, 3) := by decide +kernel
theorem dX11_puts_132 : decode cX11_puts 132 = .ok (.ireturn, 1) := by decide +kernel
theorem dX11_puts_133 : decode cX11_puts 133 = .ok (.bipush 72, 2) := by decide +kernel
theorem dX11_puts_135 : decode cX11_puts 135 = .ok (.iconst 4, 1) := by decide +kernel
theorem dX11_puts_136 : decode cX11_puts 136 = .ok (.aload_n 0, 1) := by decide +kernel
theorem dX11_puts_137 : decode cX11_puts 137 = .ok (.getfield 9, 3) := by decide +kernel
theorem dX11_puts_140 : decode cX11_puts 140 = .ok (.iconst 1, 1) := by decide +kernel
theorem dX11_puts_141 : decode cX11_puts 141 = .ok (.dup2, 1) := by decide +kernel
theorem dX11_puts_142 : decode cX11_puts 142 = .ok (.iaload, 1) := by decide +kernel
theorem dX11_puts_143 : decode cX11_puts 143 = .ok (.dup_x2, 1) := by decide +kernel
theorem dX11_puts_144 : decode cX11_puts 144 = .ok (.iconst 1, 1) := by decide +kernel
theorem dX11_puts_145 : decode cX11_puts 145 = .ok (.iadd, 1) := by decide +kernel
theorem dX11_puts_146 : decode cX11_puts 146 = .ok (.iastore, 1) := by decide +kernel
theorem dX11_puts_147 : decode cX11_puts 147 = .ok (.imul, 1) := by decide +kernel
theorem dX11_puts_148 : decode cX11_puts 148 = .ok (.iadd, 1) := by decide +kernel
theorem dX11_puts_149 : decode cX11_puts 149 = .ok (.istore 6, 2) := by decide +kernel
theorem dX11_puts_151 : decode cX11_puts 151 = .ok (.aload_n 0, 1) := by decide +kernel
theorem dX11_puts_152 : decode cX11_puts 152 = .ok (.getfield 9, 3) := by decide +kernel
theorem dX11_puts_155 : decode cX11_puts 155 = .ok (.iload 6, 2) := by decide +kernel
theorem dX11_puts_157 : decode cX11_puts 157 = .ok (.iload 4, 2) := by decide +kernel
theorem dX11_puts_159 : decode cX11_puts 159 = .ok (.iastore, 1) := by decide +kernel
theorem dX11_puts_160 : decode cX11_puts 160 = .ok (.aload_n 0, 1) := by decide +kernel
theorem dX11_puts_161 : decode cX11_puts 161 = .ok (.getfield 9, 3) := by decide +kernel
theorem dX11_puts_164 : decode cX11_puts 164 = .ok (.iload 6, 2) := by decide +kernel
theorem dX11_puts_166 : decode cX11_puts 166 = .ok (.iconst 1, 1) := by decide +kernel
theorem dX11_puts_167 : decode cX11_puts 167 = .ok (.iadd, 1) := by decide +kernel
theorem dX11_puts_168 : decode cX11_puts 168 = .ok (.iload 5, 2) := by decide +kernel
theorem dX11_puts_170 : decode cX11_puts 170 = .ok (.iastore, 1) := by decide +kernel
theorem dX11_puts_171 : decode cX11_puts 171 = .ok (.aload_n 0, 1) := by decide +kernel
theorem dX11_puts_172 : decode cX11_puts 172 = .ok (.getfield 9, 3) := by decide +kernel
theorem dX11_puts_175 : decode cX11_puts 175 = .ok (.iload 6, 2) := by decide +kernel
theorem dX11_puts_177 : decode cX11_puts 177 = .ok (.iconst 2, 1) := by decide +kernel
theorem dX11_puts_178 : decode cX11_puts 178 = .ok (.iadd, 1) := by decide +kernel
theorem dX11_puts_179 : decode cX11_puts 179 = .ok (.iload_n 3, 1) := by decide +kernel
theorem dX11_puts_180 : decode cX11_puts 180 = .ok (.iastore, 1) := by decide +kernel
theorem dX11_puts_181 : decode cX11_puts 181 = .ok (.aload_n 0, 1) := by decide +kernel
theorem dX11_puts_182 : decode cX11_puts 182 = .ok (.getfield 9, 3) := by decide +kernel
theorem dX11_puts_185 : decode cX11_puts 185 = .ok (.iload 6, 2) := by decide +kernel
theorem dX11_puts_187 : decode cX11_puts 187 = .ok (.iconst 3, 1) := by decide +kernel
theorem dX11_puts_188 : decode cX11_puts 188 = .ok (.iadd, 1) := by decide +kernel
theorem dX11_puts_189 : decode cX11_puts 189 = .ok (.iconst 0, 1) := by decide +kernel
theorem dX11_puts_190 : decode cX11_puts 190 = .ok (.iastore, 1) := by decide +kernel
theorem dX11_puts_191 : decode cX11_puts 191 = .ok (.aload_n 0, 1) := by decide +kernel
theorem dX11_puts_192 : decode cX11_puts 192 = .ok (.aload_n 0, 1) := by decide +kernel
theorem dX11_puts_193 : decode cX11_puts 193 = .ok (.getfield 9, 3) := by decide +kernel
theorem dX11_puts_196 : decode cX11_puts 196 = .ok (.iconst 1, 1) := by decide +kernel
theorem dX11_puts_197 : decode cX11_puts 197 = .ok (.iaload, 1) := by decide +kernel
theorem dX11_puts_198 : decode cX11_puts 198 = .ok (.iconst 1, 1) := by decide +kernel
theorem dX11_puts_199 : decode cX11_puts 199 = .ok (.isub, 1) := by decide +kernel
theorem dX11_puts_200 : decode cX11_puts 200 = .ok (.invokevirtual 113, 3) := by decide +kernel
theorem dX11_puts_203 : decode cX11_puts 203 = .ok (.ireturn, 1) := by decide +kernel
theorem dX11_beam__0 : decode cX11_beam_ 0 = .ok (.aload_n 0, 1) := by decide +kernel
theorem dX11_beam__1 : decode cX11_beam_ 1 = .ok (.invokevirtual 116, 3) := by decide +kernel
theorem dX11_beam__4 : decode cX11_beam_ 4 = .ok (.aload_n 0, 1) := by decide +kernel
theorem dX11_beam__5 : decode cX11_beam_ 5 = .ok (.aload_n 0, 1) := by decide +kernel
theorem dX11_beam__6 : decode cX11_beam_ 6 = .ok (.iload_n 1, 1) := by decide +kernel
theorem dX11_beam__7 : decode cX11_beam_ 7 = .ok (.iload_n 2, 1) := by decide +kernel
theorem dX11_beam__8 : decode cX11_beam_ 8 = .ok (.iload_n 3, 1) := by decide +kernel
theorem dX11_beam__9 : decode cX11_beam_ 9 = .ok (.invokevirtual 156, 3) := by decide +kernel
theorem dX11_beam__12 : decode cX11_beam_ 12 = .ok (.invokevirtual 122, 3) := by decide +kernel
theorem dX11_beam__15 : decode cX11_beam_ 15 = .ok (.ireturn, 1) := by decide +kernel
theorem dX11_takesAway_0 : decode cX11_takesAway 0 = .ok (.iload_n 1, 1) := by decide +kernel
theorem dX11_takesAway_1 : decode cX11_takesAway 1 = .ok (.iconst 0, 1) := by decide +kernel
theorem dX11_takesAway_2 : decode cX11_takesAway 2 = .ok (.aload_n 0, 1) := by decide +kernel
theorem dX11_takesAway_3 : decode cX11_takesAway 3 = .ok (.getfield 9, 3) := by decide +kernel
theorem dX11_takesAway_6 : decode cX11_takesAway 6 = .ok (.iconst 1, 1) := by decide +kernel
theorem dX11_takesAway_7 : decode cX11_takesAway 7 = .ok (.iaload, 1) := by decide +kernel
theorem dX11_takesAway_8 : decode cX11_takesAway 8 = .ok (.iconst 1, 1) := by decide +kernel
theorem dX11_takesAway_9 : decode cX11_takesAway 9 = .ok (.isub, 1) := by decide +kernel
theorem dX11_takesAway_10 : decode cX11_takesAway 10 = .ok (.invokestatic 67, 3) := by decide +kernel
theorem dX11_takesAway_13 : decode cX11_takesAway 13 = .ok (.ifCond .ne 16, 3) := by decide +kernel
theorem dX11_takesAway_16 : decode cX11_takesAway 16 = .ok (.aload_n 0, 1) := by decide +kernel
theorem dX11_takesAway_17 : decode cX11_takesAway 17 = .ok (.bipush 8, 2) := by decide +kernel
theorem dX11_takesAway_19 : decode cX11_takesAway 19 = .ok (.aload_n 0, 1) := by decide +kernel
theorem dX11_takesAway_20 : decode cX11_takesAway 20 = .ok (.getfield 9, 3) := by decide +kernel
theorem dX11_takesAway_23 : decode cX11_takesAway 23 = .ok (.iconst 1, 1) := by decide +kernel
theorem dX11_takesAway_24 : decode cX11_takesAway 24 = .ok (.iaload, 1) := by decide +kernel
theorem dX11_takesAway_25 : decode cX11_takesAway 25 = .ok (.invokevirtual 75, 3) := by decide +kernel
theorem dX11_takesAway_28 : decode cX11_takesAway 28 = .ok (.ireturn, 1) := by decide +kernel
theorem dX11_takesAway_29 : decode cX11_takesAway 29 = .ok (.aload_n 0, 1) := by decide +kernel
theorem dX11_takesAway_30 : decode cX11_takesAway 30 = .ok (.iload_n 1, 1) := by decide +kernel
theorem dX11_takesAway_31 : decode cX11_takesAway 31 = .ok (.invokevirtual 138, 3) := by decide +kernel
theorem dX11_takesAway_34 : decode cX11_takesAway 34 = .ok (.aload_n 0, 1) := by decide +kernel
theorem dX11_takesAway_35 : decode cX11_takesAway 35 = .ok (.aload_n 0, 1) := by decide +kernel
theorem dX11_takesAway_36 : decode cX11_takesAway 36 = .ok (.getfield 9, 3) := by decide +kernel
theorem dX11_takesAway_39 : decode cX11_takesAway 39 = .ok (.iconst 1, 1) := by decide +kernel
theorem dX11_takesAway_40 : decode cX11_takesAway 40 = .ok (.iaload, 1) := by decide +kernel
theorem dX11_takesAway_41 : decode cX11_takesAway 41 = .ok (.invokevirtual 113, 3) := by decide +kernel
theorem dX11_takesAway_44 : decode cX11_takesAway 44 = .ok (.ireturn, 1) := by decide +kernel
theorem dX11_remove_0 : decode cX11_remove 0 = .ok (.aload_n 0, 1) := by decide +kernel
theorem dX11_remove_1 : decode cX11_remove 1 = .ok (.invokevirtual 116, 3) := by decide +kernel
theorem dX11_remove_4 : decode cX11_remove 4 = .ok (.aload_n 0, 1) := by decide +kernel
theorem dX11_remove_5 : decode cX11_remove 5 = .ok (.aload_n 0, 1) := by decide +kernel
theorem dX11_remove_6 : decode cX11_remove 6 = .ok (.iload_n 1, 1) := by decide +kernel
theorem dX11_remove_7 : decode cX11_remove 7 = .ok (.invokevirtual 159, 3) := by decide +kernel
theorem dX11_remove_10 : decode cX11_remove 10 = .ok (.invokevirtual 122, 3) := by decide +kernel
theorem dX11_remove_13 : decode cX11_remove 13 = .ok (.ireturn, 1) := by decide +kernel
theorem dX11_accustoms_0 : decode cX11_accustoms 0 = .ok (.aload_n 0, 1) := by decide +kernel
theorem dX11_accustoms_1 : decode cX11_accustoms 1 = .ok (.iload_n 1, 1) := by decide +kernel
theorem dX11_accustoms_2 : decode cX11_accustoms 2 = .ok (.invokevirtual 126, 3) := by decide +kernel
theorem dX11_accustoms_5 : decode cX11_accustoms 5 = .ok (.ifCond .ne 5, 3) := by decide +kernel
theorem dX11_accustoms_8 : decode cX11_accustoms 8 = .ok (.iconst 0, 1) := by decide +kernel
theorem dX11_accustoms_9 : decode cX11_accustoms 9 = .ok (.ireturn, 1) := by decide +kernel
theorem dX11_accustoms_10 : decode cX11_accustoms 10 = .ok (.iload_n 2, 1) := by decide +kernel
theorem dX11_accustoms_11 : decode cX11_accustoms 11 = .ok (.iconst 0, 1) := by decide +kernel
theorem dX11_accustoms_12 : decode cX11_accustoms 12 = .ok (.bipush 9, 2) := by decide +kernel
theorem dX11_accustoms_14 : decode cX11_accustoms 14 = .ok (.invokestatic 67, 3) := by decide +kernel
theorem dX11_accustoms_17 : decode cX11_accustoms 17 = .ok (.ifCond .ne 10, 3) := by decide +kernel
theorem dX11_accustoms_20 : decode cX11_accustoms 20 = .ok (.aload_n 0, 1) := by decide +kernel
theorem dX11_accustoms_21 : decode cX11_accustoms 21 = .ok (.iconst 1, 1) := by decide +kernel
theorem dX11_accustoms_22 : decode cX11_accustoms 22 = .ok (.iconst 0, 1) := by decide +kernel
theorem dX11_accustoms_23 : decode cX11_accustoms 23 = .ok (.invokevirtual 75, 3) := by decide +kernel
theorem dX11_accustoms_26 : decode cX11_accustoms 26 = .ok (.ireturn, 1) := by decide +kernel
theorem dX11_accustoms_27 : decode cX11_accustoms 27 = .ok (.aload_n 0, 1) := by decide +kernel
theorem dX11_accustoms_28 : decode cX11_accustoms 28 = .ok (.iload_n 1, 1) := by decide +kernel
theorem dX11_accustoms_29 : decode cX11_accustoms 29 = .ok (.iconst 1, 1) := by decide +kernel
theorem dX11_accustoms_30 : decode cX11_accustoms 30 = .ok (.invokevirtual 83, 3) := by decide +kernel
theorem dX11_accustoms_33 : decode cX11_accustoms 33 = .ok (.istore_n 3, 1) := by decide +kernel
theorem dX11_accustoms_34 : decode cX11_accustoms 34 = .ok (.iload_n 3, 1) := by decide +kernel
theorem dX11_accustoms_35 : decode cX11_accustoms 35 = .ok (.iload_n 2, 1) := by decide +kernel
theorem dX11_accustoms_36 : decode cX11_accustoms 36 = .ok (.if_icmp .ne 10, 3) := by decide +kernel
theorem dX11_accustoms_39 : decode cX11_accustoms 39 = .ok (.aload_n 0, 1) := by decide +kernel
theorem dX11_accustoms_40 : decode cX11_accustoms 40 = .ok (.iconst 5, 1) := by decide +kernel
theorem dX11_accustoms_41 : decode cX11_accustoms 41 = .ok (.iload_n 2, 1) := by decide +kernel
theorem dX11_accustoms_42 : decode cX11_accustoms 42 = .ok (.invokevirtual 75, 3) := by decide +kernel
theorem dX11_accustoms_45 : decode cX11_accustoms 45 = .ok (.ireturn, 1) := by decide +kernel
theorem dX11_accustoms_46 : decode cX11_accustoms 46 = .ok (.aload_n 0, 1) := by decide +kernel
theorem dX11_accustoms_47 : decode cX11_accustoms 47 = .ok (.iload_n 1, 1) := by decide +kernel
theorem dX11_accustoms_48 : decode cX11_accustoms 48 = .ok (.iconst 1, 1) := by decide +kernel
theorem dX11_accustoms_49 : decode cX11_accustoms 49 = .ok (.iload_n 2, 1) := by decide +kernel
theorem dX11_accustoms_50 : decode cX11_accustoms 50 = .ok (.invokevirtual 109, 3) := by decide +kernel
theorem dX11_accustoms_53 : decode cX11_accustoms 53 = .ok (.aload_n 0, 1) := by decide +kernel
theorem dX11_accustoms_54 : decode cX11_accustoms 54 = .ok (.iload_n 3, 1) := by decide +kernel
theorem dX11_accustoms_55 : decode cX11_accustoms 55 = .ok (.invokevirtual 113, 3) := by decide +kernel
theorem dX11_accustoms_58 : decode cX11_accustoms 58 = .ok (.ireturn, 1) := by decide +kernel
theorem dX11_habit_0 : decode cX11_habit 0 = .ok (.aload_n 0, 1) := by decide +kernel
theorem dX11_habit_1 : decode cX11_habit 1 = .ok (.invokevirtual 116, 3) := by decide +kernel
theorem dX11_habit_4 : decode cX11_habit 4 = .ok (.aload_n 0, 1) := by decide +kernel
theorem dX11_habit_5 : decode cX11_habit 5 = .ok (.aload_n 0, 1) := by decide +kernel
theorem dX11_habit_6 : decode cX11_habit 6 = .ok (.iload_n 1, 1) := by decide +kernel
theorem dX11_habit_7 : decode cX11_habit 7 = .ok (.iload_n 2, 1) := by decide +kernel
theorem dX11_habit_8 : decode cX11_habit 8 = .ok (.invokevirtual 162, 3) := by decide +kernel
theorem dX11_habit_11 : decode cX11_habit 11 = .ok (.invokevirtual 122, 3) := by decide +kernel
theorem dX11_habit_14 : decode cX11_habit 14 = .ok (.ireturn, 1) := by decide +kernel
theorem dX11_friendsOf_0 : decode cX11_friendsOf 0 = .ok (.iconst 0, 1) := by decide +kernel
theorem dX11_friendsOf_1 : decode cX11_friendsOf 1 = .ok (.istore_n 2, 1) := by decide +kernel
theorem dX11_friendsOf_2 : decode cX11_friendsOf 2 = .ok (.iconst 0, 1) := by decide +kernel
theorem dX11_friendsOf_3 : decode cX11_friendsOf 3 = .ok (.istore_n 3, 1) := by decide +kernel
theorem dX11_friendsOf_4 : decode cX11_friendsOf 4 = .ok (.iload_n 3, 1) := by decide +kernel
theorem dX11_friendsOf_5 : decode cX11_friendsOf 5 = .ok (.aload_n 0, 1) := by decide +kernel
theorem dX11_friendsOf_6 : decode cX11_friendsOf 6 = .ok (.getfield 9, 3) := by decide +kernel
theorem dX11_friendsOf_9 : decode cX11_friendsOf 9 = .ok (.iconst 0, 1) := by decide +kernel
theorem dX11_friendsOf_10 : decode cX11_friendsOf 10 = .ok (.iaload, 1) := by decide +kernel
theorem dX11_friendsOf_11 : decode cX11_friendsOf 11 = .ok (.if_icmp .ge 21, 3) := by decide +kernel
theorem dX11_friendsOf_14 : decode cX11_friendsOf 14 = .ok (.aload_n 0, 1) := by decide +kernel
theorem dX11_friendsOf_15 : decode cX11_friendsOf 15 = .ok (.iload_n 1, 1) := by decide +kernel
theorem dX11_friendsOf_16 : decode cX11_friendsOf 16 = .ok (.iload_n 3, 1) := by decide +kernel
theorem dX11_friendsOf_17 : decode cX11_friendsOf 17 = .ok (.invokevirtual 91, 3) := by decide +kernel
theorem dX11_friendsOf_20 : decode cX11_friendsOf 20 = .ok (.ifCond .le 6, 3) := by decide +kernel
theorem dX11_friendsOf_23 : decode cX11_friendsOf 23 = .ok (.iinc 2 1, 3) := by decide +kernel
theorem dX11_friendsOf_26 : decode cX11_friendsOf 26 = .ok (.iinc 3 1, 3) := by decide +kernel
theorem dX11_friendsOf_29 : decode cX11_friendsOf 29 = .ok (.goto (-25), 3) := by decide +kernel
theorem dX11_friendsOf_32 : decode cX11_friendsOf 32 = .ok (.iload_n 2, 1) := by decide +kernel
theorem dX11_friendsOf_33 : decode cX11_friendsOf 33 = .ok (.ireturn, 1) := by decide +kernel
theorem dX11_personOf_0 : decode cX11_personOf 0 = .ok (.aload_n 0, 1) := by decide +kernel
theorem dX11_personOf_1 : decode cX11_personOf 1 = .ok (.iconst 0, 1) := by decide +kernel
theorem dX11_personOf_2 : decode cX11_personOf 2 = .ok (.putfield 42, 3) := by decide +kernel
theorem dX11_personOf_5 : decode cX11_personOf 5 = .ok (.aload_n 0, 1) := by decide +kernel
theorem dX11_personOf_6 : decode cX11_personOf 6 = .ok (.iload_n 1, 1) := by decide +kernel
theorem dX11_personOf_7 : decode cX11_personOf 7 = .ok (.invokevirtual 71, 3) := by decide +kernel
theorem dX11_personOf_10 : decode cX11_personOf 10 = .ok (.ifCond .ne 9, 3) := by decide +kernel
theorem dX11_personOf_13 : decode cX11_personOf 13 = .ok (.aload_n 0, 1) := by decide +kernel
theorem dX11_personOf_14 : decode cX11_personOf 14 = .ok (.iconst 1, 1) := by decide +kernel
theorem dX11_personOf_15 : decode cX11_personOf 15 = .ok (.invokevirtual 64, 3) := by decide +kernel
theorem dX11_personOf_18 : decode cX11_personOf 18 = .ok (.ireturn, 1) := by decide +kernel
theorem dX11_personOf_19 : decode cX11_personOf 19 = .ok (.iload_n 2, 1) := by decide +kernel
theorem dX11_personOf_20 : decode cX11_personOf 20 = .ok (.tableswitch 87 0 7 #[48, 48, 48, 55, 61, 67, 73, 80], 48) := by decide +kernel
theorem dX11_personOf_68 : decode cX11_personOf 68 = .ok (.aload_n 0, 1) := by decide +kernel
theorem dX11_personOf_69 : decode cX11_personOf 69 = .ok (.iload_n 1, 1) := by decide +kernel
theorem dX11_personOf_70 : decode cX11_personOf 70 = .ok (.iload_n 2, 1) := by decide +kernel
theorem dX11_personOf_71 : decode cX11_personOf 71 = .ok (.invokevirtual 83, 3) := by decide +kernel
theorem dX11_personOf_74 : decode cX11_personOf 74 = .ok (.ireturn, 1) := by decide +kernel
theorem dX11_personOf_75 : decode cX11_personOf 75 = .ok (.aload_n 0, 1) := by decide +kernel
theorem dX11_personOf_76 : decode cX11_personOf 76 = .ok (.iload_n 1, 1) := by decide +kernel
theorem dX11_personOf_77 : decode cX11_personOf 77 = .ok (.invokevirtual 97, 3) := by decide +kernel
theorem dX11_personOf_80 : decode cX11_personOf 80 = .ok (.ireturn, 1) := by decide +kernel
theorem dX11_personOf_81 : decode cX11_personOf 81 = .ok (.aload_n 0, 1) := by decide +kernel
theorem dX11_personOf_82 : decode cX11_personOf 82 = .ok (.iload_n 1, 1) := by decide +kernel
theorem dX11_personOf_83 : decode cX11_personOf 83 = .ok (.invokevirtual 165, 3) := by decide +kernel
theorem dX11_personOf_86 : decode cX11_personOf 86 = .ok (.ireturn, 1) := by decide +kernel
theorem dX11_personOf_87 : decode cX11_personOf 87 = .ok (.aload_n 0, 1) := by decide +kernel
theorem dX11_personOf_88 : decode cX11_personOf 88 = .ok (.iload_n 1, 1) := by decide +kernel
theorem dX11_personOf_89 : decode cX11_personOf 89 = .ok (.invokevirtual 94, 3) := by decide +kernel
theorem dX11_personOf_92 : decode cX11_personOf 92 = .ok (.ireturn, 1) := by decide +kernel
theorem dX11_personOf_93 : decode cX11_personOf 93 = .ok (.aload_n 0, 1) := by decide +kernel
theorem dX11_personOf_94 : decode cX11_personOf 94 = .ok (.iload_n 1, 1) := by decide +kernel
theorem dX11_personOf_95 : decode cX11_personOf 95 = .ok (.iconst 3, 1) := by decide +kernel
theorem dX11_personOf_96 : decode cX11_personOf 96 = .ok (.invokevirtual 83, 3) := by decide +kernel
theorem dX11_personOf_99 : decode cX11_personOf 99 = .ok (.ireturn, 1) := by decide +kernel
theorem dX11_personOf_100 : decode cX11_personOf 100 = .ok (.aload_n 0, 1) := by decide +kernel
theorem dX11_personOf_101 : decode cX11_personOf 101 = .ok (.iload_n 1, 1) := by decide +kernel
theorem dX11_personOf_102 : decode cX11_personOf 102 = .ok (.iconst 4, 1) := by decide +kernel
theorem dX11_personOf_103 : decode cX11_personOf 103 = .ok (.invokevirtual 83, 3) := by decide +kernel
theorem dX11_personOf_106 : decode cX11_personOf 106 = .ok (.ireturn, 1) := by decide +kernel
theorem dX11_personOf_107 : decode cX11_personOf 107 = .ok (.aload_n 0, 1) := by decide +kernel
theorem dX11_personOf_108 : decode cX11_personOf 108 = .ok (.iconst 2, 1) := by decide +kernel
theorem dX11_personOf_109 : decode cX11_personOf 109 = .ok (.invokevirtual 64, 3) := by decide +kernel
theorem dX11_personOf_112 : decode cX11_personOf 112 = .ok (.ireturn, 1) := by decide +kernel
theorem dX11_weight_0 : decode cX11_weight 0 = .ok (.aload_n 0, 1) := by decide +kernel
theorem dX11_weight_1 : decode cX11_weight 1 = .ok (.aload_n 0, 1) := by decide +kernel
theorem dX11_weight_2 : decode cX11_weight 2 = .ok (.iload_n 1, 1) := by decide +kernel
theorem dX11_weight_3 : decode cX11_weight 3 = .ok (.invokevirtual 71, 3) := by decide +kernel
theorem dX11_weight_6 : decode cX11_weight 6 = .ok (.ifCond .eq 15, 3) := by decide +kernel
theorem dX11_weight_9 : decode cX11_weight 9 = .ok (.aload_n 0, 1) := by decide +kernel
theorem dX11_weight_10 : decode cX11_weight 10 = .ok (.iload_n 2, 1) := by decide +kernel
theorem dX11_weight_11 : decode cX11_weight 11 = .ok (.invokevirtual 71, 3) := by decide +kernel
theorem dX11_weight_14 : decode cX11_weight 14 = .ok (.ifCond .eq 7, 3) := by decide +kernel
theorem dX11_weight_17 : decode cX11_weight 17 = .ok (.iconst 0, 1) := by decide +kernel
theorem dX11_weight_18 : decode cX11_weight 18 = .ok (.goto 4, 3) := by decide +kernel
theorem dX11_weight_21 : decode cX11_weight 21 = .ok (.iconst 1, 1) := by decide +kernel
theorem dX11_weight_22 : decode cX11_weight 22 = .ok (.putfield 42, 3) := by decide +kernel
theorem dX11_weight_25 : decode cX11_weight 25 = .ok (.aload_n 0, 1) := by decide +kernel
theorem dX11_weight_26 : decode cX11_weight 26 = .ok (.getfield 42, 3) := by decide +kernel
theorem dX11_weight_29 : decode cX11_weight 29 = .ok (.ifCond .ne 12, 3) := by decide +kernel
theorem dX11_weight_32 : decode cX11_weight 32 = .ok (.aload_n 0, 1) := by decide +kernel
theorem dX11_weight_33 : decode cX11_weight 33 = .ok (.iload_n 1, 1) := by decide +kernel
theorem dX11_weight_34 : decode cX11_weight 34 = .ok (.iload_n 2, 1) := by decide +kernel
theorem dX11_weight_35 : decode cX11_weight 35 = .ok (.invokevirtual 91, 3) := by decide +kernel
theorem dX11_weight_38 : decode cX11_weight 38 = .ok (.goto 4, 3) := by decide +kernel
theorem dX11_weight_41 : decode cX11_weight 41 = .ok (.iconst 0, 1) := by decide +kernel
theorem dX11_weight_42 : decode cX11_weight 42 = .ok (.ireturn, 1) := by decide +kernel
theorem dX11_beamOf_0 : decode cX11_beamOf 0 = .ok (.aload_n 0, 1) := by decide +kernel
theorem dX11_beamOf_1 : decode cX11_beamOf 1 = .ok (.iconst 0, 1) := by decide +kernel
theorem dX11_beamOf_2 : decode cX11_beamOf 2 = .ok (.putfield 42, 3) := by decide +kernel
theorem dX11_beamOf_5 : decode cX11_beamOf 5 = .ok (.iload_n 1, 1) := by decide +kernel
theorem dX11_beamOf_6 : decode cX11_beamOf 6 = .ok (.iconst 0, 1) := by decide +kernel
theorem dX11_beamOf_7 : decode cX11_beamOf 7 = .ok (.aload_n 0, 1) := by decide +kernel
theorem dX11_beamOf_8 : decode cX11_beamOf 8 = .ok (.getfield 9, 3) := by decide +kernel
theorem dX11_beamOf_11 : decode cX11_beamOf 11 = .ok (.iconst 1, 1) := by decide +kernel
theorem dX11_beamOf_12 : decode cX11_beamOf 12 = .ok (.iaload, 1) := by decide +kernel
theorem dX11_beamOf_13 : decode cX11_beamOf 13 = .ok (.iconst 1, 1) := by decide +kernel
theorem dX11_beamOf_14 : decode cX11_beamOf 14 = .ok (.isub, 1) := by decide +kernel
theorem dX11_beamOf_15 : decode cX11_beamOf 15 = .ok (.invokestatic 67, 3) := by decide +kernel
theorem dX11_beamOf_18 : decode cX11_beamOf 18 = .ok (.ifCond .ne 9, 3) := by decide +kernel
theorem dX11_beamOf_21 : decode cX11_beamOf 21 = .ok (.aload_n 0, 1) := by decide +kernel
theorem dX11_beamOf_22 : decode cX11_beamOf 22 = .ok (.iconst 1, 1) := by decide +kernel
theorem dX11_beamOf_23 : decode cX11_beamOf 23 = .ok (.invokevirtual 64, 3) := by decide +kernel
theorem dX11_beamOf_26 : decode cX11_beamOf 26 = .ok (.ireturn, 1) := by decide +kernel
theorem dX11_beamOf_27 : decode cX11_beamOf 27 = .ok (.iload_n 2, 1) := by decide +kernel
theorem dX11_beamOf_28 : decode cX11_beamOf 28 = .ok (.iconst 0, 1) := by decide +kernel
theorem dX11_beamOf_29 : decode cX11_beamOf 29 = .ok (.iconst 4, 1) := by decide +kernel
theorem dX11_beamOf_30 : decode cX11_beamOf 30 = .ok (.invokestatic 67, 3) := by decide +kernel
theorem dX11_beamOf_33 : decode cX11_beamOf 33 = .ok (.ifCond .ne 9, 3) := by decide +kernel
theorem dX11_beamOf_36 : decode cX11_beamOf 36 = .ok (.aload_n 0, 1) := by decide +kernel
theorem dX11_beamOf_37 : decode cX11_beamOf 37 = .ok (.iconst 2, 1) := by decide +kernel
theorem dX11_beamOf_38 : decode cX11_beamOf 38 = .ok (.invokevirtual 64, 3) := by decide +kernel
theorem dX11_beamOf_41 : decode cX11_beamOf 41 = .ok (.ireturn, 1) := by decide +kernel
theorem dX11_beamOf_42 : decode cX11_beamOf 42 = .ok (.iload_n 2, 1) := by decide +kernel
theorem dX11_beamOf_43 : decode cX11_beamOf 43 = .ok (.iconst 4, 1) := by decide +kernel
theorem dX11_beamOf_44 : decode cX11_beamOf 44 = .ok (.if_icmp .ne 11, 3) := by decide +kernel
theorem dX11_beamOf_47 : decode cX11_beamOf 47 = .ok (.aload_n 0, 1) := by decide +kernel
theorem dX11_beamOf_48 : decode cX11_beamOf 48 = .ok (.iload_n 1, 1) := by decide +kernel
theorem dX11_beamOf_49 : decode cX11_beamOf 49 = .ok (.invokevirtual 135, 3) := by decide +kernel
theorem dX11_beamOf_52 : decode cX11_beamOf 52 = .ok (.goto 9, 3) := by decide +kernel
theorem dX11_beamOf_55 : decode cX11_beamOf 55 = .ok (.aload_n 0, 1) := by decide +kernel
theorem dX11_beamOf_56 : decode cX11_beamOf 56 = .ok (.iload_n 1, 1) := by decide +kernel
theorem dX11_beamOf_57 : decode cX11_beamOf 57 = .ok (.iload_n 2, 1) := by decide +kernel
theorem dX11_beamOf_58 : decode cX11_beamOf 58 = .ok (.invokevirtual 79, 3) := by decide +kernel
theorem dX11_beamOf_61 : decode cX11_beamOf 61 = .ok (.ireturn, 1) := by decide +kernel
theorem dX11_side_0 : decode cX11_side 0 = .ok (.aload_n 0, 1) := by decide +kernel
theorem dX11_side_1 : decode cX11_side 1 = .ok (.iload_n 1, 1) := by decide +kernel
theorem dX11_side_2 : decode cX11_side 2 = .ok (.iconst 0, 1) := by decide +kernel
theorem dX11_side_3 : decode cX11_side 3 = .ok (.invokevirtual 83, 3) := by decide +kernel
theorem dX11_side_6 : decode cX11_side 6 = .ok (.invokestatic 168, 3) := by decide +kernel
theorem dX11_side_9 : decode cX11_side 9 = .ok (.ireturn, 1) := by decide +kernel
theorem dX11_lean_0 : decode cX11_lean 0 = .ok (.aload_n 0, 1) := by decide +kernel
theorem dX11_lean_1 : decode cX11_lean 1 = .ok (.aload_n 0, 1) := by decide +kernel
theorem dX11_lean_2 : decode cX11_lean 2 = .ok (.iload_n 1, 1) := by decide +kernel
theorem dX11_lean_3 : decode cX11_lean 3 = .ok (.invokevirtual 71, 3) := by decide +kernel
theorem dX11_lean_6 : decode cX11_lean 6 = .ok (.ifCond .eq 7, 3) := by decide +kernel
theorem dX11_lean_9 : decode cX11_lean 9 = .ok (.iconst 0, 1) := by decide +kernel
theorem dX11_lean_10 : decode cX11_lean 10 = .ok (.goto 4, 3) := by decide +kernel
theorem dX11_lean_13 : decode cX11_lean 13 = .ok (.iconst 1, 1) := by decide +kernel
theorem dX11_lean_14 : decode cX11_lean 14 = .ok (.putfield 42, 3) := by decide +kernel
theorem dX11_lean_17 : decode cX11_lean 17 = .ok (.aload_n 0, 1) := by decide +kernel
theorem dX11_lean_18 : decode cX11_lean 18 = .ok (.getfield 42, 3) := by decide +kernel
theorem dX11_lean_21 : decode cX11_lean 21 = .ok (.ifCond .ne 11, 3) := by decide +kernel
theorem dX11_lean_24 : decode cX11_lean 24 = .ok (.aload_n 0, 1) := by decide +kernel
theorem dX11_lean_25 : decode cX11_lean 25 = .ok (.iload_n 1, 1) := by decide +kernel
theorem dX11_lean_26 : decode cX11_lean 26 = .ok (.invokevirtual 173, 3) := by decide +kernel
theorem dX11_lean_29 : decode cX11_lean 29 = .ok (.goto 4, 3) := by decide +kernel
theorem dX11_lean_32 : decode cX11_lean 32 = .ok (.iconst 0, 1) := by decide +kernel
theorem dX11_lean_33 : decode cX11_lean 33 = .ok (.ireturn, 1) := by decide +kernel
theorem dX11_mean_0 : decode cX11_mean 0 = .ok (.aload_n 0, 1) := by decide +kernel
theorem dX11_mean_1 : decode cX11_mean 1 = .ok (.aload_n 0, 1) := by decide +kernel
theorem dX11_mean_2 : decode cX11_mean 2 = .ok (.iload_n 1, 1) := by decide +kernel
theorem dX11_mean_3 : decode cX11_mean 3 = .ok (.invokevirtual 71, 3) := by decide +kernel
theorem dX11_mean_6 : decode cX11_mean 6 = .ok (.ifCond .eq 7, 3) := by decide +kernel
theorem dX11_mean_9 : decode cX11_mean 9 = .ok (.iconst 0, 1) := by decide +kernel
theorem dX11_mean_10 : decode cX11_mean 10 = .ok (.goto 4, 3) := by decide +kernel
theorem dX11_mean_13 : decode cX11_mean 13 = .ok (.iconst 1, 1) := by decide +kernel
theorem dX11_mean_14 : decode cX11_mean 14 = .ok (.putfield 42, 3) := by decide +kernel
theorem dX11_mean_17 : decode cX11_mean 17 = .ok (.aload_n 0, 1) := by decide +kernel
theorem dX11_mean_18 : decode cX11_mean 18 = .ok (.getfield 42, 3) := by decide +kernel
theorem dX11_mean_21 : decode cX11_mean 21 = .ok (.ifCond .ne 11, 3) := by decide +kernel
theorem dX11_mean_24 : decode cX11_mean 24 = .ok (.aload_n 0, 1) := by decide +kernel
theorem dX11_mean_25 : decode cX11_mean 25 = .ok (.iload_n 1, 1) := by decide +kernel
theorem dX11_mean_26 : decode cX11_mean 26 = .ok (.invokevirtual 100, 3) := by decide +kernel
theorem dX11_mean_29 : decode cX11_mean 29 = .ok (.goto 4, 3) := by decide +kernel
theorem dX11_mean_32 : decode cX11_mean 32 = .ok (.iconst 0, 1) := by decide +kernel
theorem dX11_mean_33 : decode cX11_mean 33 = .ok (.ireturn, 1) := by decide +kernel
theorem dX11_meanAgain_0 : decode cX11_meanAgain 0 = .ok (.aload_n 0, 1) := by decide +kernel
theorem dX11_meanAgain_1 : decode cX11_meanAgain 1 = .ok (.iload_n 1, 1) := by decide +kernel
theorem dX11_meanAgain_2 : decode cX11_meanAgain 2 = .ok (.invokevirtual 176, 3) := by decide +kernel
theorem dX11_meanAgain_5 : decode cX11_meanAgain 5 = .ok (.ireturn, 1) := by decide +kernel
theorem dX11_wouldMove_0 : decode cX11_wouldMove 0 = .ok (.aload_n 0, 1) := by decide +kernel
theorem dX11_wouldMove_1 : decode cX11_wouldMove 1 = .ok (.aload_n 0, 1) := by decide +kernel
theorem dX11_wouldMove_2 : decode cX11_wouldMove 2 = .ok (.iload_n 1, 1) := by decide +kernel
theorem dX11_wouldMove_3 : decode cX11_wouldMove 3 = .ok (.invokevirtual 71, 3) := by decide +kernel
theorem dX11_wouldMove_6 : decode cX11_wouldMove 6 = .ok (.ifCond .eq 7, 3) := by decide +kernel
theorem dX11_wouldMove_9 : decode cX11_wouldMove 9 = .ok (.iconst 0, 1) := by decide +kernel
theorem dX11_wouldMove_10 : decode cX11_wouldMove 10 = .ok (.goto 4, 3) := by decide +kernel
theorem dX11_wouldMove_13 : decode cX11_wouldMove 13 = .ok (.iconst 1, 1) := by decide +kernel
theorem dX11_wouldMove_14 : decode cX11_wouldMove 14 = .ok (.putfield 42, 3) := by decide +kernel
theorem dX11_wouldMove_17 : decode cX11_wouldMove 17 = .ok (.aload_n 0, 1) := by decide +kernel
theorem dX11_wouldMove_18 : decode cX11_wouldMove 18 = .ok (.getfield 42, 3) := by decide +kernel
theorem dX11_wouldMove_21 : decode cX11_wouldMove 21 = .ok (.ifCond .ne 11, 3) := by decide +kernel
theorem dX11_wouldMove_24 : decode cX11_wouldMove 24 = .ok (.aload_n 0, 1) := by decide +kernel
theorem dX11_wouldMove_25 : decode cX11_wouldMove 25 = .ok (.iload_n 1, 1) := by decide +kernel
theorem dX11_wouldMove_26 : decode cX11_wouldMove 26 = .ok (.invokevirtual 132, 3) := by decide +kernel
theorem dX11_wouldMove_29 : decode cX11_wouldMove 29 = .ok (.goto 4, 3) := by decide +kernel
theorem dX11_wouldMove_32 : decode cX11_wouldMove 32 = .ok (.iconst 0, 1) := by decide +kernel
theorem dX11_wouldMove_33 : decode cX11_wouldMove 33 = .ok (.ireturn, 1) := by decide +kernel
theorem dX11_pull_0 : decode cX11_pull 0 = .ok (.aload_n 0, 1) := by decide +kernel
theorem dX11_pull_1 : decode cX11_pull 1 = .ok (.iload_n 1, 1) := by decide +kernel
theorem dX11_pull_2 : decode cX11_pull 2 = .ok (.iload_n 2, 1) := by decide +kernel
theorem dX11_pull_3 : decode cX11_pull 3 = .ok (.invokevirtual 91, 3) := by decide +kernel
theorem dX11_pull_6 : decode cX11_pull 6 = .ok (.aload_n 0, 1) := by decide +kernel
theorem dX11_pull_7 : decode cX11_pull 7 = .ok (.iload_n 1, 1) := by decide +kernel
theorem dX11_pull_8 : decode cX11_pull 8 = .ok (.iconst 0, 1) := by decide +kernel
theorem dX11_pull_9 : decode cX11_pull 9 = .ok (.invokevirtual 83, 3) := by decide +kernel
theorem dX11_pull_12 : decode cX11_pull 12 = .ok (.aload_n 0, 1) := by decide +kernel
theorem dX11_pull_13 : decode cX11_pull 13 = .ok (.iload_n 2, 1) := by decide +kernel
theorem dX11_pull_14 : decode cX11_pull 14 = .ok (.iconst 0, 1) := by decide +kernel
theorem dX11_pull_15 : decode cX11_pull 15 = .ok (.invokevirtual 83, 3) := by decide +kernel
theorem dX11_pull_18 : decode cX11_pull 18 = .ok (.isub, 1) := by decide +kernel
theorem dX11_pull_19 : decode cX11_pull 19 = .ok (.invokestatic 86, 3) := by decide +kernel
theorem dX11_pull_22 : decode cX11_pull 22 = .ok (.imul, 1) := by decide +kernel
theorem dX11_pull_23 : decode cX11_pull 23 = .ok (.ireturn, 1) := by decide +kernel
theorem dX11_puller_0 : decode cX11_puller 0 = .ok (.aload_n 0, 1) := by decide +kernel
theorem dX11_puller_1 : decode cX11_puller 1 = .ok (.iconst 0, 1) := by decide +kernel
theorem dX11_puller_2 : decode cX11_puller 2 = .ok (.putfield 42, 3) := by decide +kernel
theorem dX11_puller_5 : decode cX11_puller 5 = .ok (.aload_n 0, 1) := by decide +kernel
theorem dX11_puller_6 : decode cX11_puller 6 = .ok (.iload_n 1, 1) := by decide +kernel
theorem dX11_puller_7 : decode cX11_puller 7 = .ok (.invokevirtual 71, 3) := by decide +kernel
theorem dX11_puller_10 : decode cX11_puller 10 = .ok (.ifCond .ne 9, 3) := by decide +kernel
theorem dX11_puller_13 : decode cX11_puller 13 = .ok (.aload_n 0, 1) := by decide +kernel
theorem dX11_puller_14 : decode cX11_puller 14 = .ok (.iconst 1, 1) := by decide +kernel
theorem dX11_puller_15 : decode cX11_puller 15 = .ok (.invokevirtual 64, 3) := by decide +kernel
theorem dX11_puller_18 : decode cX11_puller 18 = .ok (.ireturn, 1) := by decide +kernel
theorem dX11_puller_19 : decode cX11_puller 19 = .ok (.iload_n 1, 1) := by decide +kernel
theorem dX11_puller_20 : decode cX11_puller 20 = .ok (.istore_n 2, 1) := by decide +kernel
theorem dX11_puller_21 : decode cX11_puller 21 = .ok (.iconst 0, 1) := by decide +kernel
theorem dX11_puller_22 : decode cX11_puller 22 = .ok (.istore_n 3, 1) := by decide +kernel
theorem dX11_puller_23 : decode cX11_puller 23 = .ok (.iload_n 3, 1) := by decide +kernel
theorem dX11_puller_24 : decode cX11_puller 24 = .ok (.aload_n 0, 1) := by decide +kernel
theorem dX11_puller_25 : decode cX11_puller 25 = .ok (.getfield 9, 3) := by decide +kernel
theorem dX11_puller_28 : decode cX11_puller 28 = .ok (.iconst 0, 1) := by decide +kernel
theorem dX11_puller_29 : decode cX11_puller 29 = .ok (.iaload, 1) := by decide +kernel
theorem dX11_puller_30 : decode cX11_puller 30 = .ok (.if_icmp .ge 26, 3) := by decide +kernel
theorem dX11_puller_33 : decode cX11_puller 33 = .ok (.aload_n 0, 1) := by decide +kernel
theorem dX11_puller_34 : decode cX11_puller 34 = .ok (.iload_n 1, 1) := by decide +kernel
theorem dX11_puller_35 : decode cX11_puller 35 = .ok (.iload_n 3, 1) := by decide +kernel
theorem dX11_puller_36 : decode cX11_puller 36 = .ok (.invokevirtual 179, 3) := by decide +kernel
theorem dX11_puller_39 : decode cX11_puller 39 = .ok (.aload_n 0, 1) := by decide +kernel
theorem dX11_puller_40 : decode cX11_puller 40 = .ok (.iload_n 1, 1) := by decide +kernel
theorem dX11_puller_41 : decode cX11_puller 41 = .ok (.iload_n 2, 1) := by decide +kernel
theorem dX11_puller_42 : decode cX11_puller 42 = .ok (.invokevirtual 179, 3) := by decide +kernel
theorem dX11_puller_45 : decode cX11_puller 45 = .ok (.if_icmp .le 5, 3) := by decide +kernel
theorem dX11_puller_48 : decode cX11_puller 48 = .ok (.iload_n 3, 1) := by decide +kernel
theorem dX11_puller_49 : decode cX11_puller 49 = .ok (.istore_n 2, 1) := by decide +kernel
theorem dX11_puller_50 : decode cX11_puller 50 = .ok (.iinc 3 1, 3) := by decide +kernel
theorem dX11_puller_53 : decode cX11_puller 53 = .ok (.goto (-30), 3) := by decide +kernel
theorem dX11_puller_56 : decode cX11_puller 56 = .ok (.iload_n 2, 1) := by decide +kernel
theorem dX11_puller_57 : decode cX11_puller 57 = .ok (.iload_n 1, 1) := by decide +kernel
theorem dX11_puller_58 : decode cX11_puller 58 = .ok (.if_icmp .ne 11, 3) := by decide +kernel
theorem dX11_puller_61 : decode cX11_puller 61 = .ok (.aload_n 0, 1) := by decide +kernel
theorem dX11_puller_62 : decode cX11_puller 62 = .ok (.iconst 2, 1) := by decide +kernel
theorem dX11_puller_63 : decode cX11_puller 63 = .ok (.invokevirtual 64, 3) := by decide +kernel
theorem dX11_puller_66 : decode cX11_puller 66 = .ok (.goto 4, 3) := by decide +kernel
theorem dX11_puller_69 : decode cX11_puller 69 = .ok (.iload_n 2, 1) := by decide +kernel
theorem dX11_puller_70 : decode cX11_puller 70 = .ok (.ireturn, 1) := by decide +kernel
theorem dX11_force_0 : decode cX11_force 0 = .ok (.aload_n 0, 1) := by decide +kernel
theorem dX11_force_1 : decode cX11_force 1 = .ok (.iconst 0, 1) := by decide +kernel
theorem dX11_force_2 : decode cX11_force 2 = .ok (.putfield 42, 3) := by decide +kernel
theorem dX11_force_5 : decode cX11_force 5 = .ok (.aload_n 0, 1) := by decide +kernel
theorem dX11_force_6 : decode cX11_force 6 = .ok (.iload_n 1, 1) := by decide +kernel
theorem dX11_force_7 : decode cX11_force 7 = .ok (.invokevirtual 71, 3) := by decide +kernel
theorem dX11_force_10 : decode cX11_force 10 = .ok (.ifCond .ne 9, 3) := by decide +kernel
theorem dX11_force_13 : decode cX11_force 13 = .ok (.aload_n 0, 1) := by decide +kernel
theorem dX11_force_14 : decode cX11_force 14 = .ok (.iconst 1, 1) := by decide +kernel
theorem dX11_force_15 : decode cX11_force 15 = .ok (.invokevirtual 64, 3) := by decide +kernel
theorem dX11_force_18 : decode cX11_force 18 = .ok (.ireturn, 1) := by decide +kernel
theorem dX11_force_19 : decode cX11_force 19 = .ok (.iload_n 2, 1) := by decide +kernel
theorem dX11_force_20 : decode cX11_force 20 = .ok (.iconst 1, 1) := by decide +kernel
theorem dX11_force_21 : decode cX11_force 21 = .ok (.bipush 9, 2) := by decide +kernel
theorem dX11_force_23 : decode cX11_force 23 = .ok (.invokestatic 67, 3) := by decide +kernel
theorem dX11_force_26 : decode cX11_force 26 = .ok (.ifCond .eq 12, 3) := by decide +kernel
theorem dX11_force_29 : decode cX11_force 29 = .ok (.aload_n 0, 1) := by decide +kernel
theorem dX11_force_30 : decode cX11_force 30 = .ok (.iload_n 1, 1) := by decide +kernel
theorem dX11_force_31 : decode cX11_force 31 = .ok (.iload_n 2, 1) := by decide +kernel
theorem dX11_force_32 : decode cX11_force 32 = .ok (.invokevirtual 150, 3) := by decide +kernel
theorem dX11_force_35 : decode cX11_force 35 = .ok (.goto 8, 3) := by decide +kernel
theorem dX11_force_38 : decode cX11_force 38 = .ok (.aload_n 0, 1) := by decide +kernel
theorem dX11_force_39 : decode cX11_force 39 = .ok (.iconst 2, 1) := by decide +kernel
theorem dX11_force_40 : decode cX11_force 40 = .ok (.invokevirtual 64, 3) := by decide +kernel
theorem dX11_force_43 : decode cX11_force 43 = .ok (.ireturn, 1) := by decide +kernel
theorem dX11_factsFor_0 : decode cX11_factsFor 0 = .ok (.aload_n 0, 1) := by decide +kernel
theorem dX11_factsFor_1 : decode cX11_factsFor 1 = .ok (.iconst 0, 1) := by decide +kernel
theorem dX11_factsFor_2 : decode cX11_factsFor 2 = .ok (.putfield 42, 3) := by decide +kernel
theorem dX11_factsFor_5 : decode cX11_factsFor 5 = .ok (.aload_n 0, 1) := by decide +kernel
theorem dX11_factsFor_6 : decode cX11_factsFor 6 = .ok (.iload_n 1, 1) := by decide +kernel
theorem dX11_factsFor_7 : decode cX11_factsFor 7 = .ok (.invokevirtual 71, 3) := by decide +kernel
theorem dX11_factsFor_10 : decode cX11_factsFor 10 = .ok (.ifCond .ne 9, 3) := by decide +kernel
theorem dX11_factsFor_13 : decode cX11_factsFor 13 = .ok (.aload_n 0, 1) := by decide +kernel
theorem dX11_factsFor_14 : decode cX11_factsFor 14 = .ok (.iconst 1, 1) := by decide +kernel
theorem dX11_factsFor_15 : decode cX11_factsFor 15 = .ok (.invokevirtual 64, 3) := by decide +kernel
theorem dX11_factsFor_18 : decode cX11_factsFor 18 = .ok (.ireturn, 1) := by decide +kernel
theorem dX11_factsFor_19 : decode cX11_factsFor 19 = .ok (.iload_n 2, 1) := by decide +kernel
theorem dX11_factsFor_20 : decode cX11_factsFor 20 = .ok (.iconst 1, 1) := by decide +kernel
theorem dX11_factsFor_21 : decode cX11_factsFor 21 = .ok (.bipush 9, 2) := by decide +kernel
theorem dX11_factsFor_23 : decode cX11_factsFor 23 = .ok (.invokestatic 67, 3) := by decide +kernel
theorem dX11_factsFor_26 : decode cX11_factsFor 26 = .ok (.ifCond .ne 9, 3) := by decide +kernel
theorem dX11_factsFor_29 : decode cX11_factsFor 29 = .ok (.aload_n 0, 1) := by decide +kernel
theorem dX11_factsFor_30 : decode cX11_factsFor 30 = .ok (.iconst 2, 1) := by decide +kernel
theorem dX11_factsFor_31 : decode cX11_factsFor 31 = .ok (.invokevirtual 64, 3) := by decide +kernel
theorem dX11_factsFor_34 : decode cX11_factsFor 34 = .ok (.ireturn, 1) := by decide +kernel
theorem dX11_factsFor_35 : decode cX11_factsFor 35 = .ok (.aload_n 0, 1) := by decide +kernel
theorem dX11_factsFor_36 : decode cX11_factsFor 36 = .ok (.iload_n 1, 1) := by decide +kernel
theorem dX11_factsFor_37 : decode cX11_factsFor 37 = .ok (.iconst 0, 1) := by decide +kernel
theorem dX11_factsFor_38 : decode cX11_factsFor 38 = .ok (.invokevirtual 83, 3) := by decide +kernel
theorem dX11_factsFor_41 : decode cX11_factsFor 41 = .ok (.invokestatic 86, 3) := by decide +kernel
theorem dX11_factsFor_44 : decode cX11_factsFor 44 = .ok (.istore_n 3, 1) := by decide +kernel
theorem dX11_factsFor_45 : decode cX11_factsFor 45 = .ok (.aload_n 0, 1) := by decide +kernel
theorem dX11_factsFor_46 : decode cX11_factsFor 46 = .ok (.iload_n 1, 1) := by decide +kernel
theorem dX11_factsFor_47 : decode cX11_factsFor 47 = .ok (.iload_n 2, 1) := by decide +kernel
theorem dX11_factsFor_48 : decode cX11_factsFor 48 = .ok (.invokevirtual 150, 3) := by decide +kernel
theorem dX11_factsFor_51 : decode cX11_factsFor 51 = .ok (.istore 4, 2) := by decide +kernel
theorem dX11_factsFor_53 : decode cX11_factsFor 53 = .ok (.iload_n 3, 1) := by decide +kernel
theorem dX11_factsFor_54 : decode cX11_factsFor 54 = .ok (.ifCond .le 14, 3) := by decide +kernel
theorem dX11_factsFor_57 : decode cX11_factsFor 57 = .ok (.iload 4, 2) := by decide +kernel
theorem dX11_factsFor_59 : decode cX11_factsFor 59 = .ok (.ifCond .ne 9, 3) := by decide +kernel
theorem dX11_factsFor_62 : decode cX11_factsFor 62 = .ok (.aload_n 0, 1) := by decide +kernel
theorem dX11_factsFor_63 : decode cX11_factsFor 63 = .ok (.iconst 3, 1) := by decide +kernel
theorem dX11_factsFor_64 : decode cX11_factsFor 64 = .ok (.invokevirtual 64, 3) := by decide +kernel
theorem dX11_factsFor_67 : decode cX11_factsFor 67 = .ok (.ireturn, 1) := by decide +kernel
theorem dX11_factsFor_68 : decode cX11_factsFor 68 = .ok (.iconst 0, 1) := by decide +kernel
theorem dX11_factsFor_69 : decode cX11_factsFor 69 = .ok (.istore 5, 2) := by decide +kernel
theorem dX11_factsFor_71 : decode cX11_factsFor 71 = .ok (.iload 5, 2) := by decide +kernel
theorem dX11_factsFor_73 : decode cX11_factsFor 73 = .ok (.iload 4, 2) := by decide +kernel
theorem dX11_factsFor_75 : decode cX11_factsFor 75 = .ok (.imul, 1) := by decide +kernel
theorem dX11_factsFor_76 : decode cX11_factsFor 76 = .ok (.iload_n 3, 1) := by decide +kernel
theorem dX11_factsFor_77 : decode cX11_factsFor 77 = .ok (.if_icmp .ge 9, 3) := by decide +kernel
theorem dX11_factsFor_80 : decode cX11_factsFor 80 = .ok (.iinc 5 1, 3) := by decide +kernel
theorem dX11_factsFor_83 : decode cX11_factsFor 83 = .ok (.goto (-12), 3) := by decide +kernel
theorem dX11_factsFor_86 : decode cX11_factsFor 86 = .ok (.iload 5, 2) := by decide +kernel
theorem dX11_factsFor_88 : decode cX11_factsFor 88 = .ok (.ireturn, 1) := by decide +kernel
theorem dX11_thinks_0 : decode cX11_thinks 0 = .ok (.iconst 0, 1) := by decide +kernel
theorem dX11_thinks_1 : decode cX11_thinks 1 = .ok (.istore_n 1, 1) := by decide +kernel
theorem dX11_thinks_2 : decode cX11_thinks 2 = .ok (.iload_n 1, 1) := by decide +kernel
theorem dX11_thinks_3 : decode cX11_thinks 3 = .ok (.bipush 96, 2) := by decide +kernel
theorem dX11_thinks_5 : decode cX11_thinks 5 = .ok (.if_icmp .ge 21, 3) := by decide +kernel
theorem dX11_thinks_8 : decode cX11_thinks 8 = .ok (.aload_n 0, 1) := by decide +kernel
theorem dX11_thinks_9 : decode cX11_thinks 9 = .ok (.getfield 16, 3) := by decide +kernel
theorem dX11_thinks_12 : decode cX11_thinks 12 = .ok (.iload_n 1, 1) := by decide +kernel
theorem dX11_thinks_13 : decode cX11_thinks 13 = .ok (.aload_n 0, 1) := by decide +kernel
theorem dX11_thinks_14 : decode cX11_thinks 14 = .ok (.getfield 9, 3) := by decide +kernel
theorem dX11_thinks_17 : decode cX11_thinks 17 = .ok (.iload_n 1, 1) := by decide +kernel
theorem dX11_thinks_18 : decode cX11_thinks 18 = .ok (.iaload, 1) := by decide +kernel
theorem dX11_thinks_19 : decode cX11_thinks 19 = .ok (.iastore, 1) := by decide +kernel
theorem dX11_thinks_20 : decode cX11_thinks 20 = .ok (.iinc 1 1, 3) := by decide +kernel
theorem dX11_thinks_23 : decode cX11_thinks 23 = .ok (.goto (-21), 3) := by decide +kernel
theorem dX11_thinks_26 : decode cX11_thinks 26 = .ok (.return_, 1) := by decide +kernel
theorem dX11_forgets_0 : decode cX11_forgets 0 = .ok (.iconst 0, 1) := by decide +kernel
theorem dX11_forgets_1 : decode cX11_forgets 1 = .ok (.istore_n 1, 1) := by decide +kernel
theorem dX11_forgets_2 : decode cX11_forgets 2 = .ok (.iload_n 1, 1) := by decide +kernel
theorem dX11_forgets_3 : decode cX11_forgets 3 = .ok (.bipush 96, 2) := by decide +kernel
theorem dX11_forgets_5 : decode cX11_forgets 5 = .ok (.if_icmp .ge 21, 3) := by decide +kernel
theorem dX11_forgets_8 : decode cX11_forgets 8 = .ok (.aload_n 0, 1) := by decide +kernel
theorem dX11_forgets_9 : decode cX11_forgets 9 = .ok (.getfield 9, 3) := by decide +kernel
theorem dX11_forgets_12 : decode cX11_forgets 12 = .ok (.iload_n 1, 1) := by decide +kernel
theorem dX11_forgets_13 : decode cX11_forgets 13 = .ok (.aload_n 0, 1) := by decide +kernel
theorem dX11_forgets_14 : decode cX11_forgets 14 = .ok (.getfield 16, 3) := by decide +kernel
theorem dX11_forgets_17 : decode cX11_forgets 17 = .ok (.iload_n 1, 1) := by decide +kernel
theorem dX11_forgets_18 : decode cX11_forgets 18 = .ok (.iaload, 1) := by decide +kernel
theorem dX11_forgets_19 : decode cX11_forgets 19 = .ok (.iastore, 1) := by decide +kernel
theorem dX11_forgets_20 : decode cX11_forgets 20 = .ok (.iinc 1 1, 3) := by decide +kernel
theorem dX11_forgets_23 : decode cX11_forgets 23 = .ok (.goto (-21), 3) := by decide +kernel
theorem dX11_forgets_26 : decode cX11_forgets 26 = .ok (.return_, 1) := by decide +kernel
theorem dX11_tiltIn_0 : decode cX11_tiltIn 0 = .ok (.aload_n 0, 1) := by decide +kernel
theorem dX11_tiltIn_1 : decode cX11_tiltIn 1 = .ok (.iconst 0, 1) := by decide +kernel
theorem dX11_tiltIn_2 : decode cX11_tiltIn 2 = .ok (.putfield 42, 3) := by decide +kernel
theorem dX11_tiltIn_5 : decode cX11_tiltIn 5 = .ok (.aload_n 0, 1) := by decide +kernel
theorem dX11_tiltIn_6 : decode cX11_tiltIn 6 = .ok (.iload_n 1, 1) := by decide +kernel
theorem dX11_tiltIn_7 : decode cX11_tiltIn 7 = .ok (.invokevirtual 71, 3) := by decide +kernel
theorem dX11_tiltIn_10 : decode cX11_tiltIn 10 = .ok (.ifCond .ne 9, 3) := by decide +kernel
theorem dX11_tiltIn_13 : decode cX11_tiltIn 13 = .ok (.aload_n 0, 1) := by decide +kernel
theorem dX11_tiltIn_14 : decode cX11_tiltIn 14 = .ok (.iconst 1, 1) := by decide +kernel
theorem dX11_tiltIn_15 : decode cX11_tiltIn 15 = .ok (.invokevirtual 64, 3) := by decide +kernel
theorem dX11_tiltIn_18 : decode cX11_tiltIn 18 = .ok (.ireturn, 1) := by decide +kernel
theorem dX11_tiltIn_19 : decode cX11_tiltIn 19 = .ok (.iload_n 2, 1) := by decide +kernel
theorem dX11_tiltIn_20 : decode cX11_tiltIn 20 = .ok (.iconst 0, 1) := by decide +kernel
theorem dX11_tiltIn_21 : decode cX11_tiltIn 21 = .ok (.bipush 30, 2) := by decide +kernel
theorem dX11_tiltIn_23 : decode cX11_tiltIn 23 = .ok (.invokestatic 67, 3) := by decide +kernel
theorem dX11_tiltIn_26 : decode cX11_tiltIn 26 = .ok (.ifCond .ne 9, 3) := by decide +kernel
theorem dX11_tiltIn_29 : decode cX11_tiltIn 29 = .ok (.aload_n 0, 1) := by decide +kernel
theorem dX11_tiltIn_30 : decode cX11_tiltIn 30 = .ok (.iconst 2, 1) := by decide +kernel
theorem dX11_tiltIn_31 : decode cX11_tiltIn 31 = .ok (.invokevirtual 64, 3) := by decide +kernel
theorem dX11_tiltIn_34 : decode cX11_tiltIn 34 = .ok (.ireturn, 1) := by decide +kernel
theorem dX11_tiltIn_35 : decode cX11_tiltIn 35 = .ok (.aload_n 0, 1) := by decide +kernel
theorem dX11_tiltIn_36 : decode cX11_tiltIn 36 = .ok (.invokevirtual 182, 3) := by decide +kernel
theorem dX11_tiltIn_39 : decode cX11_tiltIn 39 = .ok (.iconst 0, 1) := by decide +kernel
theorem dX11_tiltIn_40 : decode cX11_tiltIn 40 = .ok (.istore_n 3, 1) := by decide +kernel
theorem dX11_tiltIn_41 : decode cX11_tiltIn 41 = .ok (.iconst 0, 1) := by decide +kernel
theorem dX11_tiltIn_42 : decode cX11_tiltIn 42 = .ok (.istore 4, 2) := by decide +kernel
theorem dX11_tiltIn_44 : decode cX11_tiltIn 44 = .ok (.iload 4, 2) := by decide +kernel
theorem dX11_tiltIn_46 : decode cX11_tiltIn 46 = .ok (.iload_n 2, 1) := by decide +kernel
theorem dX11_tiltIn_47 : decode cX11_tiltIn 47 = .ok (.if_icmp .ge 16, 3) := by decide +kernel
theorem dX11_tiltIn_50 : decode cX11_tiltIn 50 = .ok (.iload_n 3, 1) := by decide +kernel
theorem dX11_tiltIn_51 : decode cX11_tiltIn 51 = .ok (.aload_n 0, 1) := by decide +kernel
theorem dX11_tiltIn_52 : decode cX11_tiltIn 52 = .ok (.invokevirtual 142, 3) := by decide +kernel
theorem dX11_tiltIn_55 : decode cX11_tiltIn 55 = .ok (.iadd, 1) := by decide +kernel
theorem dX11_tiltIn_56 : decode cX11_tiltIn 56 = .ok (.istore_n 3, 1) := by decide +kernel
theorem dX11_tiltIn_57 : decode cX11_tiltIn 57 = .ok (.iinc 4 1, 3) := by decide +kernel
theorem dX11_tiltIn_60 : decode cX11_tiltIn 60 = .ok (.goto (-16), 3) := by decide +kernel
theorem dX11_tiltIn_63 : decode cX11_tiltIn 63 = .ok (.aload_n 0, 1) := by decide +kernel
theorem dX11_tiltIn_64 : decode cX11_tiltIn 64 = .ok (.iload_n 1, 1) := by decide +kernel
theorem dX11_tiltIn_65 : decode cX11_tiltIn 65 = .ok (.iconst 0, 1) := by decide +kernel
theorem dX11_tiltIn_66 : decode cX11_tiltIn 66 = .ok (.invokevirtual 83, 3) := by decide +kernel
theorem dX11_tiltIn_69 : decode cX11_tiltIn 69 = .ok (.istore 4, 2) := by decide +kernel
theorem dX11_tiltIn_71 : decode cX11_tiltIn 71 = .ok (.aload_n 0, 1) := by decide +kernel
theorem dX11_tiltIn_72 : decode cX11_tiltIn 72 = .ok (.invokevirtual 185, 3) := by decide +kernel
theorem dX11_tiltIn_75 : decode cX11_tiltIn 75 = .ok (.iload_n 3, 1) := by decide +kernel
theorem dX11_tiltIn_76 : decode cX11_tiltIn 76 = .ok (.ifCond .ge 7, 3) := by decide +kernel
theorem dX11_tiltIn_79 : decode cX11_tiltIn 79 = .ok (.iconst 0, 1) := by decide +kernel
theorem dX11_tiltIn_80 : decode cX11_tiltIn 80 = .ok (.goto 5, 3) := by decide +kernel
theorem dX11_tiltIn_83 : decode cX11_tiltIn 83 = .ok (.iload 4, 2) := by decide +kernel
theorem dX11_tiltIn_85 : decode cX11_tiltIn 85 = .ok (.ireturn, 1) := by decide +kernel
theorem dX11_restsIn_0 : decode cX11_restsIn 0 = .ok (.aload_n 0, 1) := by decide +kernel
theorem dX11_restsIn_1 : decode cX11_restsIn 1 = .ok (.iconst 0, 1) := by decide +kernel
theorem dX11_restsIn_2 : decode cX11_restsIn 2 = .ok (.putfield 42, 3) := by decide +kernel
theorem dX11_restsIn_5 : decode cX11_restsIn 5 = .ok (.aload_n 0, 1) := by decide +kernel
theorem dX11_restsIn_6 : decode cX11_restsIn 6 = .ok (.getfield 9, 3) := by decide +kernel
theorem dX11_restsIn_9 : decode cX11_restsIn 9 = .ok (.iconst 0, 1) := by decide +kernel
theorem dX11_restsIn_10 : decode cX11_restsIn 10 = .ok (.iaload, 1) := by decide +kernel
theorem dX11_restsIn_11 : decode cX11_restsIn 11 = .ok (.ifCond .ne 9, 3) := by decide +kernel
theorem dX11_restsIn_14 : decode cX11_restsIn 14 = .ok (.aload_n 0, 1) := by decide +kernel
theorem dX11_restsIn_15 : decode cX11_restsIn 15 = .ok (.iconst 1, 1) := by decide +kernel
theorem dX11_restsIn_16 : decode cX11_restsIn 16 = .ok (.invokevirtual 64, 3) := by decide +kernel
theorem dX11_restsIn_19 : decode cX11_restsIn 19 = .ok (.ireturn, 1) := by decide +kernel
theorem dX11_restsIn_20 : decode cX11_restsIn 20 = .ok (.aload_n 0, 1) := by decide +kernel
theorem dX11_restsIn_21 : decode cX11_restsIn 21 = .ok (.invokevirtual 182, 3) := by decide +kernel
theorem dX11_restsIn_24 : decode cX11_restsIn 24 = .ok (.iconst 0, 1) := by decide +kernel
theorem dX11_restsIn_25 : decode cX11_restsIn 25 = .ok (.istore_n 1, 1) := by decide +kernel
theorem dX11_restsIn_26 : decode cX11_restsIn 26 = .ok (.iload_n 1, 1) := by decide +kernel
theorem dX11_restsIn_27 : decode cX11_restsIn 27 = .ok (.bipush 100, 2) := by decide +kernel
theorem dX11_restsIn_29 : decode cX11_restsIn 29 = .ok (.if_icmp .ge 16, 3) := by decide +kernel
theorem dX11_restsIn_32 : decode cX11_restsIn 32 = .ok (.aload_n 0, 1) := by decide +kernel
theorem dX11_restsIn_33 : decode cX11_restsIn 33 = .ok (.invokevirtual 142, 3) := by decide +kernel
theorem dX11_restsIn_36 : decode cX11_restsIn 36 = .ok (.ifCond .le 9, 3) := by decide +kernel
theorem dX11_restsIn_39 : decode cX11_restsIn 39 = .ok (.iinc 1 1, 3) := by decide +kernel
theorem dX11_restsIn_42 : decode cX11_restsIn 42 = .ok (.goto (-16), 3) := by decide +kernel
theorem dX11_restsIn_45 : decode cX11_restsIn 45 = .ok (.aload_n 0, 1) := by decide +kernel
theorem dX11_restsIn_46 : decode cX11_restsIn 46 = .ok (.invokevirtual 185, 3) := by decide +kernel
theorem dX11_restsIn_49 : decode cX11_restsIn 49 = .ok (.iload_n 1, 1) := by decide +kernel
theorem dX11_restsIn_50 : decode cX11_restsIn 50 = .ok (.bipush 99, 2) := by decide +kernel
theorem dX11_restsIn_52 : decode cX11_restsIn 52 = .ok (.if_icmp .le 11, 3) := by decide +kernel
theorem dX11_restsIn_55 : decode cX11_restsIn 55 = .ok (.aload_n 0, 1) := by decide +kernel
theorem dX11_restsIn_56 : decode cX11_restsIn 56 = .ok (.iconst 1, 1) := by decide +kernel
theorem dX11_restsIn_57 : decode cX11_restsIn 57 = .ok (.invokevirtual 64, 3) := by decide +kernel
theorem dX11_restsIn_60 : decode cX11_restsIn 60 = .ok (.goto 4, 3) := by decide +kernel
theorem dX11_restsIn_63 : decode cX11_restsIn 63 = .ok (.iload_n 1, 1) := by decide +kernel
theorem dX11_restsIn_64 : decode cX11_restsIn 64 = .ok (.ireturn, 1) := by decide +kernel
theorem dX11_breaksIn_0 : decode cX11_breaksIn 0 = .ok (.aload_n 0, 1) := by decide +kernel
theorem dX11_breaksIn_1 : decode cX11_breaksIn 1 = .ok (.iconst 0, 1) := by decide +kernel
theorem dX11_breaksIn_2 : decode cX11_breaksIn 2 = .ok (.putfield 42, 3) := by decide +kernel
theorem dX11_breaksIn_5 : decode cX11_breaksIn 5 = .ok (.iload_n 1, 1) := by decide +kernel
theorem dX11_breaksIn_6 : decode cX11_breaksIn 6 = .ok (.iconst 0, 1) := by decide +kernel
theorem dX11_breaksIn_7 : decode cX11_breaksIn 7 = .ok (.aload_n 0, 1) := by decide +kernel
theorem dX11_breaksIn_8 : decode cX11_breaksIn 8 = .ok (.getfield 9, 3) := by decide +kernel
theorem dX11_breaksIn_11 : decode cX11_breaksIn 11 = .ok (.iconst 1, 1) := by decide +kernel
theorem dX11_breaksIn_12 : decode cX11_breaksIn 12 = .ok (.iaload, 1) := by decide +kernel
theorem dX11_breaksIn_13 : decode cX11_breaksIn 13 = .ok (.iconst 1, 1) := by decide +kernel
theorem dX11_breaksIn_14 : decode cX11_breaksIn 14 = .ok (.isub, 1) := by decide +kernel
theorem dX11_breaksIn_15 : decode cX11_breaksIn 15 = .ok (.invokestatic 67, 3) := by decide +kernel
theorem dX11_breaksIn_18 : decode cX11_breaksIn 18 = .ok (.ifCond .ne 9, 3) := by decide +kernel
theorem dX11_breaksIn_21 : decode cX11_breaksIn 21 = .ok (.aload_n 0, 1) := by decide +kernel
theorem dX11_breaksIn_22 : decode cX11_breaksIn 22 = .ok (.iconst 1, 1) := by decide +kernel
theorem dX11_breaksIn_23 : decode cX11_breaksIn 23 = .ok (.invokevirtual 64, 3) := by decide +kernel
theorem dX11_breaksIn_26 : decode cX11_breaksIn 26 = .ok (.ireturn, 1) := by decide +kernel
theorem dX11_breaksIn_27 : decode cX11_breaksIn 27 = .ok (.aload_n 0, 1) := by decide +kernel
theorem dX11_breaksIn_28 : decode cX11_breaksIn 28 = .ok (.iload_n 1, 1) := by decide +kernel
theorem dX11_breaksIn_29 : decode cX11_breaksIn 29 = .ok (.iconst 0, 1) := by decide +kernel
theorem dX11_breaksIn_30 : decode cX11_breaksIn 30 = .ok (.invokevirtual 79, 3) := by decide +kernel
theorem dX11_breaksIn_33 : decode cX11_breaksIn 33 = .ok (.istore_n 2, 1) := by decide +kernel
theorem dX11_breaksIn_34 : decode cX11_breaksIn 34 = .ok (.aload_n 0, 1) := by decide +kernel
theorem dX11_breaksIn_35 : decode cX11_breaksIn 35 = .ok (.iload_n 1, 1) := by decide +kernel
theorem dX11_breaksIn_36 : decode cX11_breaksIn 36 = .ok (.iconst 1, 1) := by decide +kernel
theorem dX11_breaksIn_37 : decode cX11_breaksIn 37 = .ok (.invokevirtual 79, 3) := by decide +kernel
theorem dX11_breaksIn_40 : decode cX11_breaksIn 40 = .ok (.istore_n 3, 1) := by decide +kernel
theorem dX11_breaksIn_41 : decode cX11_breaksIn 41 = .ok (.aload_n 0, 1) := by decide +kernel
theorem dX11_breaksIn_42 : decode cX11_breaksIn 42 = .ok (.invokevirtual 182, 3) := by decide +kernel
theorem dX11_breaksIn_45 : decode cX11_breaksIn 45 = .ok (.iconst 0, 1) := by decide +kernel
theorem dX11_breaksIn_46 : decode cX11_breaksIn 46 = .ok (.istore 4, 2) := by decide +kernel
theorem dX11_breaksIn_48 : decode cX11_breaksIn 48 = .ok (.iconst 0, 1) := by decide +kernel
theorem dX11_breaksIn_49 : decode cX11_breaksIn 49 = .ok (.istore 5, 2) := by decide +kernel
theorem dX11_breaksIn_51 : decode cX11_breaksIn 51 = .ok (.iconst 1, 1) := by decide +kernel
theorem dX11_breaksIn_52 : decode cX11_breaksIn 52 = .ok (.istore 6, 2) := by decide +kernel
theorem dX11_breaksIn_54 : decode cX11_breaksIn 54 = .ok (.iload 6, 2) := by decide +kernel
theorem dX11_breaksIn_56 : decode cX11_breaksIn 56 = .ok (.bipush 100, 2) := by decide +kernel
theorem dX11_breaksIn_58 : decode cX11_breaksIn 58 = .ok (.if_icmp .ge 89, 3) := by decide +kernel
theorem dX11_breaksIn_61 : decode cX11_breaksIn 61 = .ok (.iload 4, 2) := by decide +kernel
theorem dX11_breaksIn_63 : decode cX11_breaksIn 63 = .ok (.ifCond .ne 84, 3) := by decide +kernel
theorem dX11_breaksIn_66 : decode cX11_breaksIn 66 = .ok (.iload 5, 2) := by decide +kernel
theorem dX11_breaksIn_68 : decode cX11_breaksIn 68 = .ok (.aload_n 0, 1) := by decide +kernel
theorem dX11_breaksIn_69 : decode cX11_breaksIn 69 = .ok (.invokevirtual 142, 3) := by decide +kernel
theorem dX11_breaksIn_72 : decode cX11_breaksIn 72 = .ok (.iadd, 1) := by decide +kernel
theorem dX11_breaksIn_73 : decode cX11_breaksIn 73 = .ok (.istore 5, 2) := by decide +kernel
theorem dX11_breaksIn_75 : decode cX11_breaksIn 75 = .ok (.iconst 0, 1) := by decide +kernel
theorem dX11_breaksIn_76 : decode cX11_breaksIn 76 = .ok (.istore 7, 2) := by decide +kernel
theorem dX11_breaksIn_78 : decode cX11_breaksIn 78 = .ok (.iconst 0, 1) := by decide +kernel
theorem dX11_breaksIn_79 : decode cX11_breaksIn 79 = .ok (.istore 8, 2) := by decide +kernel
theorem dX11_breaksIn_81 : decode cX11_breaksIn 81 = .ok (.iload 8, 2) := by decide +kernel
theorem dX11_breaksIn_83 : decode cX11_breaksIn 83 = .ok (.aload_n 0, 1) := by decide +kernel
theorem dX11_breaksIn_84 : decode cX11_breaksIn 84 = .ok (.getfield 9, 3) := by decide +kernel
theorem dX11_breaksIn_87 : decode cX11_breaksIn 87 = .ok (.iconst 1, 1) := by decide +kernel
theorem dX11_breaksIn_88 : decode cX11_breaksIn 88 = .ok (.iaload, 1) := by decide +kernel
theorem dX11_breaksIn_89 : decode cX11_breaksIn 89 = .ok (.if_icmp .ge 43, 3) := by decide +kernel
theorem dX11_breaksIn_92 : decode cX11_breaksIn 92 = .ok (.iload 7, 2) := by decide +kernel
theorem dX11_breaksIn_94 : decode cX11_breaksIn 94 = .ok (.ifCond .ne 25, 3) := by decide +kernel
theorem dX11_breaksIn_97 : decode cX11_breaksIn 97 = .ok (.aload_n 0, 1) := by decide +kernel
theorem dX11_breaksIn_98 : decode cX11_breaksIn 98 = .ok (.iload 8, 2) := by decide +kernel
theorem dX11_breaksIn_100 : decode cX11_breaksIn 100 = .ok (.iconst 0, 1) := by decide +kernel
theorem dX11_breaksIn_101 : decode cX11_breaksIn 101 = .ok (.invokevirtual 79, 3) := by decide +kernel
theorem dX11_breaksIn_104 : decode cX11_breaksIn 104 = .ok (.iload_n 2, 1) := by decide +kernel
theorem dX11_breaksIn_105 : decode cX11_breaksIn 105 = .ok (.if_icmp .ne 18, 3) := by decide +kernel
theorem dX11_breaksIn_108 : decode cX11_breaksIn 108 = .ok (.aload_n 0, 1) := by decide +kernel
theorem dX11_breaksIn_109 : decode cX11_breaksIn 109 = .ok (.iload 8, 2) := by decide +kernel
theorem dX11_breaksIn_111 : decode cX11_breaksIn 111 = .ok (.iconst 1, 1) := by decide +kernel
theorem dX11_breaksIn_112 : decode cX11_breaksIn 112 = .ok (.invokevirtual 79, 3) := by decide +kernel
theorem dX11_breaksIn_115 : decode cX11_breaksIn 115 = .ok (.iload_n 3, 1) := by decide +kernel
theorem dX11_breaksIn_116 : decode cX11_breaksIn 116 = .ok (.if_icmp .ne 7, 3) := by decide +kernel
theorem dX11_breaksIn_119 : decode cX11_breaksIn 119 = .ok (.iconst 1, 1) := by decide +kernel
theorem dX11_breaksIn_120 : decode cX11_breaksIn 120 = .ok (.goto 4, 3) := by decide +kernel
theorem dX11_breaksIn_123 : decode cX11_breaksIn 123 = .ok (.iconst 0, 1) := by decide +kernel
theorem dX11_breaksIn_124 : decode cX11_breaksIn 124 = .ok (.istore 7, 2) := by decide +kernel
theorem dX11_breaksIn_126 : decode cX11_breaksIn 126 = .ok (.iinc 8 1, 3) := by decide +kernel
theorem dX11_breaksIn_129 : decode cX11_breaksIn 129 = .ok (.goto (-48), 3) := by decide +kernel
theorem dX11_breaksIn_132 : decode cX11_breaksIn 132 = .ok (.iload 7, 2) := by decide +kernel
theorem dX11_breaksIn_134 : decode cX11_breaksIn 134 = .ok (.ifCond .ne 7, 3) := by decide +kernel
theorem dX11_breaksIn_137 : decode cX11_breaksIn 137 = .ok (.iload 6, 2) := by decide +kernel
theorem dX11_breaksIn_139 : decode cX11_breaksIn 139 = .ok (.istore 4, 2) := by decide +kernel
theorem dX11_breaksIn_141 : decode cX11_breaksIn 141 = .ok (.iinc 6 1, 3) := by decide +kernel
theorem dX11_breaksIn_144 : decode cX11_breaksIn 144 = .ok (.goto (-90), 3) := by decide +kernel
theorem dX11_breaksIn_147 : decode cX11_breaksIn 147 = .ok (.aload_n 0, 1) := by decide +kernel
theorem dX11_breaksIn_148 : decode cX11_breaksIn 148 = .ok (.invokevirtual 185, 3) := by decide +kernel
theorem dX11_breaksIn_151 : decode cX11_breaksIn 151 = .ok (.iload 4, 2) := by decide +kernel
theorem dX11_breaksIn_153 : decode cX11_breaksIn 153 = .ok (.ifCond .eq 8, 3) := by decide +kernel
theorem dX11_breaksIn_156 : decode cX11_breaksIn 156 = .ok (.iload 5, 2) := by decide +kernel
theorem dX11_breaksIn_158 : decode cX11_breaksIn 158 = .ok (.ifCond .ge 11, 3) := by decide +kernel
theorem dX11_breaksIn_161 : decode cX11_breaksIn 161 = .ok (.aload_n 0, 1) := by decide +kernel
theorem dX11_breaksIn_162 : decode cX11_breaksIn 162 = .ok (.iconst 2, 1) := by decide +kernel
theorem dX11_breaksIn_163 : decode cX11_breaksIn 163 = .ok (.invokevirtual 64, 3) := by decide +kernel
theorem dX11_breaksIn_166 : decode cX11_breaksIn 166 = .ok (.goto 5, 3) := by decide +kernel
theorem dX11_breaksIn_169 : decode cX11_breaksIn 169 = .ok (.iload 4, 2) := by decide +kernel
theorem dX11_breaksIn_171 : decode cX11_breaksIn 171 = .ok (.ireturn, 1) := by decide +kernel
theorem dX11_campOf_0 : decode cX11_campOf 0 = .ok (.aload_n 0, 1) := by decide +kernel
theorem dX11_campOf_1 : decode cX11_campOf 1 = .ok (.iload_n 1, 1) := by decide +kernel
theorem dX11_campOf_2 : decode cX11_campOf 2 = .ok (.invokevirtual 173, 3) := by decide +kernel
theorem dX11_campOf_5 : decode cX11_campOf 5 = .ok (.ifCond .ne 5, 3) := by decide +kernel
theorem dX11_campOf_8 : decode cX11_campOf 8 = .ok (.iconst 0, 1) := by decide +kernel
theorem dX11_campOf_9 : decode cX11_campOf 9 = .ok (.ireturn, 1) := by decide +kernel
theorem dX11_campOf_10 : decode cX11_campOf 10 = .ok (.iconst 1, 1) := by decide +kernel
theorem dX11_campOf_11 : decode cX11_campOf 11 = .ok (.iload_n 1, 1) := by decide +kernel
theorem dX11_campOf_12 : decode cX11_campOf 12 = .ok (.ishl, 1) := by decide +kernel
theorem dX11_campOf_13 : decode cX11_campOf 13 = .ok (.istore_n 2, 1) := by decide +kernel
theorem dX11_campOf_14 : decode cX11_campOf 14 = .ok (.iconst 0, 1) := by decide +kernel
theorem dX11_campOf_15 : decode cX11_campOf 15 = .ok (.istore_n 3, 1) := by decide +kernel
theorem dX11_campOf_16 : decode cX11_campOf 16 = .ok (.iload_n 3, 1) := by decide +kernel
theorem dX11_campOf_17 : decode cX11_campOf 17 = .ok (.bipush 6, 2) := by decide +kernel
theorem dX11_campOf_19 : decode cX11_campOf 19 = .ok (.if_icmp .ge 93, 3) := by decide +kernel
theorem dX11_campOf_22 : decode cX11_campOf 22 = .ok (.iconst 0, 1) := by decide +kernel
theorem dX11_campOf_23 : decode cX11_campOf 23 = .ok (.istore 4, 2) := by decide +kernel
theorem dX11_campOf_25 : decode cX11_campOf 25 = .ok (.iload 4, 2) := by decide +kernel
theorem dX11_campOf_27 : decode cX11_campOf 27 = .ok (.aload_n 0, 1) := by decide +kernel
theorem dX11_campOf_28 : decode cX11_campOf 28 = .ok (.getfield 9, 3) := by decide +kernel
theorem dX11_campOf_31 : decode cX11_campOf 31 = .ok (.iconst 0, 1) := by decide +kernel
theorem dX11_campOf_32 : decode cX11_campOf 32 = .ok (.iaload, 1) := by decide +kernel
theorem dX11_campOf_33 : decode cX11_campOf 33 = .ok (.if_icmp .ge 73, 3) := by decide +kernel
theorem dX11_campOf_36 : decode cX11_campOf 36 = .ok (.iload_n 2, 1) := by decide +kernel
theorem dX11_campOf_37 : decode cX11_campOf 37 = .ok (.iload 4, 2) := by decide +kernel
theorem dX11_campOf_39 : decode cX11_campOf 39 = .ok (.ishr, 1) := by decide +kernel
theorem dX11_campOf_40 : decode cX11_campOf 40 = .ok (.iconst 1, 1) := by decide +kernel
theorem dX11_campOf_41 : decode cX11_campOf 41 = .ok (.iand, 1) := by decide +kernel
theorem dX11_campOf_42 : decode cX11_campOf 42 = .ok (.ifCond .ne 6, 3) := by decide +kernel
theorem dX11_campOf_45 : decode cX11_campOf 45 = .ok (.goto 55, 3) := by decide +kernel
theorem dX11_campOf_48 : decode cX11_campOf 48 = .ok (.iconst 0, 1) := by decide +kernel
theorem dX11_campOf_49 : decode cX11_campOf 49 = .ok (.istore 5, 2) := by decide +kernel
theorem dX11_campOf_51 : decode cX11_campOf 51 = .ok (.iload 5, 2) := by decide +kernel
theorem dX11_campOf_53 : decode cX11_campOf 53 = .ok (.aload_n 0, 1) := by decide +kernel
theorem dX11_campOf_54 : decode cX11_campOf 54 = .ok (.getfield 9, 3) := by decide +kernel
theorem dX11_campOf_57 : decode cX11_campOf 57 = .ok (.iconst 0, 1) := by decide +kernel
theorem dX11_campOf_58 : decode cX11_campOf 58 = .ok (.iaload, 1) := by decide +kernel
theorem dX11_campOf_59 : decode cX11_campOf 59 = .ok (.if_icmp .ge 41, 3) := by decide +kernel
theorem dX11_campOf_62 : decode cX11_campOf 62 = .ok (.aload_n 0, 1) := by decide +kernel
theorem dX11_campOf_63 : decode cX11_campOf 63 = .ok (.iload 4, 2) := by decide +kernel
theorem dX11_campOf_65 : decode cX11_campOf 65 = .ok (.iload 5, 2) := by decide +kernel
theorem dX11_campOf_67 : decode cX11_campOf 67 = .ok (.invokevirtual 91, 3) := by decide +kernel
theorem dX11_campOf_70 : decode cX11_campOf 70 = .ok (.ifCond .le 24, 3) := by decide +kernel
theorem dX11_campOf_73 : decode cX11_campOf 73 = .ok (.aload_n 0, 1) := by decide +kernel
theorem dX11_campOf_74 : decode cX11_campOf 74 = .ok (.iload 5, 2) := by decide +kernel
theorem dX11_campOf_76 : decode cX11_campOf 76 = .ok (.invokevirtual 173, 3) := by decide +kernel
theorem dX11_campOf_79 : decode cX11_campOf 79 = .ok (.aload_n 0, 1) := by decide +kernel
theorem dX11_campOf_80 : decode cX11_campOf 80 = .ok (.iload_n 1, 1) := by decide +kernel
theorem dX11_campOf_81 : decode cX11_campOf 81 = .ok (.invokevirtual 173, 3) := by decide +kernel
theorem dX11_campOf_84 : decode cX11_campOf 84 = .ok (.if_icmp .ne 10, 3) := by decide +kernel
theorem dX11_campOf_87 : decode cX11_campOf 87 = .ok (.iload_n 2, 1) := by decide +kernel
theorem dX11_campOf_88 : decode cX11_campOf 88 = .ok (.iconst 1, 1) := by decide +kernel
theorem dX11_campOf_89 : decode cX11_campOf 89 = .ok (.iload 5, 2) := by decide +kernel
theorem dX11_campOf_91 : decode cX11_campOf 91 = .ok (.ishl, 1) := by decide +kernel
theorem dX11_campOf_92 : decode cX11_campOf 92 = .ok (.ior, 1) := by decide +kernel
theorem dX11_campOf_93 : decode cX11_campOf 93 = .ok (.istore_n 2, 1) := by decide +kernel
theorem dX11_campOf_94 : decode cX11_campOf 94 = .ok (.iinc 5 1, 3) := by decide +kernel
theorem dX11_campOf_97 : decode cX11_campOf 97 = .ok (.goto (-46), 3) := by decide +kernel
theorem dX11_campOf_100 : decode cX11_campOf 100 = .ok (.iinc 4 1, 3) := by decide +kernel
theorem dX11_campOf_103 : decode cX11_campOf 103 = .ok (.goto (-78), 3) := by decide +kernel
theorem dX11_campOf_106 : decode cX11_campOf 106 = .ok (.iinc 3 1, 3) := by decide +kernel
theorem dX11_campOf_109 : decode cX11_campOf 109 = .ok (.goto (-93), 3) := by decide +kernel
theorem dX11_campOf_112 : decode cX11_campOf 112 = .ok (.iload_n 2, 1) := by decide +kernel
theorem dX11_campOf_113 : decode cX11_campOf 113 = .ok (.ireturn, 1) := by decide +kernel
theorem dX11_camp_0 : decode cX11_camp 0 = .ok (.aload_n 0, 1) := by decide +kernel
theorem dX11_camp_1 : decode cX11_camp 1 = .ok (.aload_n 0, 1) := by decide +kernel
theorem dX11_camp_2 : decode cX11_camp 2 = .ok (.iload_n 1, 1) := by decide +kernel
theorem dX11_camp_3 : decode cX11_camp 3 = .ok (.invokevirtual 71, 3) := by decide +kernel
theorem dX11_camp_6 : decode cX11_camp 6 = .ok (.ifCond .eq 7, 3) := by decide +kernel
theorem dX11_camp_9 : decode cX11_camp 9 = .ok (.iconst 0, 1) := by decide +kernel
theorem dX11_camp_10 : decode cX11_camp 10 = .ok (.goto 4, 3) := by decide +kernel
theorem dX11_camp_13 : decode cX11_camp 13 = .ok (.iconst 1, 1) := by decide +kernel
theorem dX11_camp_14 : decode cX11_camp 14 = .ok (.putfield 42, 3) := by decide +kernel
theorem dX11_camp_17 : decode cX11_camp 17 = .ok (.aload_n 0, 1) := by decide +kernel
theorem dX11_camp_18 : decode cX11_camp 18 = .ok (.getfield 42, 3) := by decide +kernel
theorem dX11_camp_21 : decode cX11_camp 21 = .ok (.ifCond .ne 11, 3) := by decide +kernel
theorem dX11_camp_24 : decode cX11_camp 24 = .ok (.aload_n 0, 1) := by decide +kernel
theorem dX11_camp_25 : decode cX11_camp 25 = .ok (.iload_n 1, 1) := by decide +kernel
theorem dX11_camp_26 : decode cX11_camp 26 = .ok (.invokevirtual 188, 3) := by decide +kernel
theorem dX11_camp_29 : decode cX11_camp 29 = .ok (.goto 4, 3) := by decide +kernel
theorem dX11_camp_32 : decode cX11_camp 32 = .ok (.iconst 0, 1) := by decide +kernel
theorem dX11_camp_33 : decode cX11_camp 33 = .ok (.ireturn, 1) := by decide +kernel
theorem dX11_camps_0 : decode cX11_camps 0 = .ok (.aload_n 0, 1) := by decide +kernel
theorem dX11_camps_1 : decode cX11_camps 1 = .ok (.iconst 0, 1) := by decide +kernel
theorem dX11_camps_2 : decode cX11_camps 2 = .ok (.putfield 42, 3) := by decide +kernel
theorem dX11_camps_5 : decode cX11_camps 5 = .ok (.iconst 0, 1) := by decide +kernel
theorem dX11_camps_6 : decode cX11_camps 6 = .ok (.istore_n 1, 1) := by decide +kernel
theorem dX11_camps_7 : decode cX11_camps 7 = .ok (.iconst 0, 1) := by decide +kernel
theorem dX11_camps_8 : decode cX11_camps 8 = .ok (.istore_n 2, 1) := by decide +kernel
theorem dX11_camps_9 : decode cX11_camps 9 = .ok (.iload_n 2, 1) := by decide +kernel
theorem dX11_camps_10 : decode cX11_camps 10 = .ok (.aload_n 0, 1) := by decide +kernel
theorem dX11_camps_11 : decode cX11_camps 11 = .ok (.getfield 9, 3) := by decide +kernel
theorem dX11_camps_14 : decode cX11_camps 14 = .ok (.iconst 0, 1) := by decide +kernel
theorem dX11_camps_15 : decode cX11_camps 15 = .ok (.iaload, 1) := by decide +kernel
theorem dX11_camps_16 : decode cX11_camps 16 = .ok (.if_icmp .ge 32, 3) := by decide +kernel
theorem dX11_camps_19 : decode cX11_camps 19 = .ok (.aload_n 0, 1) := by decide +kernel
theorem dX11_camps_20 : decode cX11_camps 20 = .ok (.iload_n 2, 1) := by decide +kernel
theorem dX11_camps_21 : decode cX11_camps 21 = .ok (.invokevirtual 173, 3) := by decide +kernel
theorem dX11_camps_24 : decode cX11_camps 24 = .ok (.ifCond .eq 18, 3) := by decide +kernel
theorem dX11_camps_27 : decode cX11_camps 27 = .ok (.aload_n 0, 1) := by decide +kernel
theorem dX11_camps_28 : decode cX11_camps 28 = .ok (.iload_n 2, 1) := by decide +kernel
theorem dX11_camps_29 : decode cX11_camps 29 = .ok (.invokevirtual 188, 3) := by decide +kernel
theorem dX11_camps_32 : decode cX11_camps 32 = .ok (.invokestatic 191, 3) := by decide +kernel
theorem dX11_camps_35 : decode cX11_camps 35 = .ok (.iload_n 2, 1) := by decide +kernel
theorem dX11_camps_36 : decode cX11_camps 36 = .ok (.if_icmp .ne 6, 3) := by decide +kernel
theorem dX11_camps_39 : decode cX11_camps 39 = .ok (.iinc 1 1, 3) := by decide +kernel
theorem dX11_camps_42 : decode cX11_camps 42 = .ok (.iinc 2 1, 3) := by decide +kernel
theorem dX11_camps_45 : decode cX11_camps 45 = .ok (.goto (-36), 3) := by decide +kernel
theorem dX11_camps_48 : decode cX11_camps 48 = .ok (.iload_n 1, 1) := by decide +kernel
theorem dX11_camps_49 : decode cX11_camps 49 = .ok (.ireturn, 1) := by decide +kernel
theorem dX11_campsAgain_0 : decode cX11_campsAgain 0 = .ok (.aload_n 0, 1) := by decide +kernel
theorem dX11_campsAgain_1 : decode cX11_campsAgain 1 = .ok (.invokevirtual 194, 3) := by decide +kernel
theorem dX11_campsAgain_4 : decode cX11_campsAgain 4 = .ok (.ireturn, 1) := by decide +kernel
theorem dX11_greatest_0 : decode cX11_greatest 0 = .ok (.aload_n 0, 1) := by decide +kernel
theorem dX11_greatest_1 : decode cX11_greatest 1 = .ok (.iconst 0, 1) := by decide +kernel
theorem dX11_greatest_2 : decode cX11_greatest 2 = .ok (.putfield 42, 3) := by decide +kernel
theorem dX11_greatest_5 : decode cX11_greatest 5 = .ok (.iconst (-1), 1) := by decide +kernel
theorem dX11_greatest_6 : decode cX11_greatest 6 = .ok (.istore_n 2, 1) := by decide +kernel
theorem dX11_greatest_7 : decode cX11_greatest 7 = .ok (.iconst 0, 1) := by decide +kernel
theorem dX11_greatest_8 : decode cX11_greatest 8 = .ok (.istore_n 3, 1) := by decide +kernel
theorem dX11_greatest_9 : decode cX11_greatest 9 = .ok (.iconst 0, 1) := by decide +kernel
theorem dX11_greatest_10 : decode cX11_greatest 10 = .ok (.istore 4, 2) := by decide +kernel
theorem dX11_greatest_12 : decode cX11_greatest 12 = .ok (.iload 4, 2) := by decide +kernel
theorem dX11_greatest_14 : decode cX11_greatest 14 = .ok (.aload_n 0, 1) := by decide +kernel
theorem dX11_greatest_15 : decode cX11_greatest 15 = .ok (.getfield 9, 3) := by decide +kernel
theorem dX11_greatest_18 : decode cX11_greatest 18 = .ok (.iconst 0, 1) := by decide +kernel
theorem dX11_greatest_19 : decode cX11_greatest 19 = .ok (.iaload, 1) := by decide +kernel
theorem dX11_greatest_20 : decode cX11_greatest 20 = .ok (.if_icmp .ge 48, 3) := by decide +kernel
theorem dX11_greatest_23 : decode cX11_greatest 23 = .ok (.iload_n 1, 1) := by decide +kernel
theorem dX11_greatest_24 : decode cX11_greatest 24 = .ok (.ifCond .eq 14, 3) := by decide +kernel
theorem dX11_greatest_27 : decode cX11_greatest 27 = .ok (.aload_n 0, 1) := by decide +kernel
theorem dX11_greatest_28 : decode cX11_greatest 28 = .ok (.iload 4, 2) := by decide +kernel
theorem dX11_greatest_30 : decode cX11_greatest 30 = .ok (.iconst 0, 1) := by decide +kernel
theorem dX11_greatest_31 : decode cX11_greatest 31 = .ok (.invokevirtual 83, 3) := by decide +kernel
theorem dX11_greatest_34 : decode cX11_greatest 34 = .ok (.ineg, 1) := by decide +kernel
theorem dX11_greatest_35 : decode cX11_greatest 35 = .ok (.goto 10, 3) := by decide +kernel
theorem dX11_greatest_38 : decode cX11_greatest 38 = .ok (.aload_n 0, 1) := by decide +kernel
theorem dX11_greatest_39 : decode cX11_greatest 39 = .ok (.iload 4, 2) := by decide +kernel
theorem dX11_greatest_41 : decode cX11_greatest 41 = .ok (.iconst 0, 1) := by decide +kernel
theorem dX11_greatest_42 : decode cX11_greatest 42 = .ok (.invokevirtual 83, 3) := by decide +kernel
theorem dX11_greatest_45 : decode cX11_greatest 45 = .ok (.istore 5, 2) := by decide +kernel
theorem dX11_greatest_47 : decode cX11_greatest 47 = .ok (.iload 5, 2) := by decide +kernel
theorem dX11_greatest_49 : decode cX11_greatest 49 = .ok (.iload_n 3, 1) := by decide +kernel
theorem dX11_greatest_50 : decode cX11_greatest 50 = .ok (.if_icmp .gt 6, 3) := by decide +kernel
theorem dX11_greatest_53 : decode cX11_greatest 53 = .ok (.goto 9, 3) := by decide +kernel
theorem dX11_greatest_56 : decode cX11_greatest 56 = .ok (.iload 5, 2) := by decide +kernel
theorem dX11_greatest_58 : decode cX11_greatest 58 = .ok (.istore_n 3, 1) := by decide +kernel
theorem dX11_greatest_59 : decode cX11_greatest 59 = .ok (.iload 4, 2) := by decide +kernel
theorem dX11_greatest_61 : decode cX11_greatest 61 = .ok (.istore_n 2, 1) := by decide +kernel
theorem dX11_greatest_62 : decode cX11_greatest 62 = .ok (.iinc 4 1, 3) := by decide +kernel
theorem dX11_greatest_65 : decode cX11_greatest 65 = .ok (.goto (-53), 3) := by decide +kernel
theorem dX11_greatest_68 : decode cX11_greatest 68 = .ok (.iload_n 2, 1) := by decide +kernel
theorem dX11_greatest_69 : decode cX11_greatest 69 = .ok (.ifCond .ge 11, 3) := by decide +kernel
theorem dX11_greatest_72 : decode cX11_greatest 72 = .ok (.aload_n 0, 1) := by decide +kernel
theorem dX11_greatest_73 : decode cX11_greatest 73 = .ok (.iconst 1, 1) := by decide +kernel
theorem dX11_greatest_74 : decode cX11_greatest 74 = .ok (.invokevirtual 64, 3) := by decide +kernel
theorem dX11_greatest_77 : decode cX11_greatest 77 = .ok (.goto 4, 3) := by decide +kernel
theorem dX11_greatest_80 : decode cX11_greatest 80 = .ok (.iload_n 2, 1) := by decide +kernel
theorem dX11_greatest_81 : decode cX11_greatest 81 = .ok (.ireturn, 1) := by decide +kernel
theorem dX11_measure_0 : decode cX11_measure 0 = .ok (.iload_n 2, 1) := by decide +kernel
theorem dX11_measure_1 : decode cX11_measure 1 = .ok (.ifCond .ne 12, 3) := by decide +kernel
theorem dX11_measure_4 : decode cX11_measure 4 = .ok (.aload_n 0, 1) := by decide +kernel
theorem dX11_measure_5 : decode cX11_measure 5 = .ok (.iload_n 1, 1) := by decide +kernel
theorem dX11_measure_6 : decode cX11_measure 6 = .ok (.iconst 0, 1) := by decide +kernel
theorem dX11_measure_7 : decode cX11_measure 7 = .ok (.invokevirtual 83, 3) := by decide +kernel
theorem dX11_measure_10 : decode cX11_measure 10 = .ok (.goto 39, 3) := by decide +kernel
theorem dX11_measure_13 : decode cX11_measure 13 = .ok (.iload_n 2, 1) := by decide +kernel
theorem dX11_measure_14 : decode cX11_measure 14 = .ok (.iconst 1, 1) := by decide +kernel
theorem dX11_measure_15 : decode cX11_measure 15 = .ok (.if_icmp .ne 15, 3) := by decide +kernel
theorem dX11_measure_18 : decode cX11_measure 18 = .ok (.aload_n 0, 1) := by decide +kernel
theorem dX11_measure_19 : decode cX11_measure 19 = .ok (.iload_n 1, 1) := by decide +kernel
theorem dX11_measure_20 : decode cX11_measure 20 = .ok (.iconst 0, 1) := by decide +kernel
theorem dX11_measure_21 : decode cX11_measure 21 = .ok (.invokevirtual 83, 3) := by decide +kernel
theorem dX11_measure_24 : decode cX11_measure 24 = .ok (.invokestatic 86, 3) := by decide +kernel
theorem dX11_measure_27 : decode cX11_measure 27 = .ok (.goto 22, 3) := by decide +kernel
theorem dX11_measure_30 : decode cX11_measure 30 = .ok (.iload_n 2, 1) := by decide +kernel
theorem dX11_measure_31 : decode cX11_measure 31 = .ok (.iconst 2, 1) := by decide +kernel
theorem dX11_measure_32 : decode cX11_measure 32 = .ok (.if_icmp .ne 12, 3) := by decide +kernel
theorem dX11_measure_35 : decode cX11_measure 35 = .ok (.aload_n 0, 1) := by decide +kernel
theorem dX11_measure_36 : decode cX11_measure 36 = .ok (.iload_n 1, 1) := by decide +kernel
theorem dX11_measure_37 : decode cX11_measure 37 = .ok (.iconst 1, 1) := by decide +kernel
theorem dX11_measure_38 : decode cX11_measure 38 = .ok (.invokevirtual 83, 3) := by decide +kernel
theorem dX11_measure_41 : decode cX11_measure 41 = .ok (.goto 8, 3) := by decide +kernel
theorem dX11_measure_44 : decode cX11_measure 44 = .ok (.aload_n 0, 1) := by decide +kernel
theorem dX11_measure_45 : decode cX11_measure 45 = .ok (.iload_n 1, 1) := by decide +kernel
theorem dX11_measure_46 : decode cX11_measure 46 = .ok (.invokevirtual 94, 3) := by decide +kernel
theorem dX11_measure_49 : decode cX11_measure 49 = .ok (.ireturn, 1) := by decide +kernel
theorem dX11_ranked_0 : decode cX11_ranked 0 = .ok (.aload_n 0, 1) := by decide +kernel
theorem dX11_ranked_1 : decode cX11_ranked 1 = .ok (.iconst 0, 1) := by decide +kernel
theorem dX11_ranked_2 : decode cX11_ranked 2 = .ok (.putfield 42, 3) := by decide +kernel
theorem dX11_ranked_5 : decode cX11_ranked 5 = .ok (.iload_n 1, 1) := by decide +kernel
theorem dX11_ranked_6 : decode cX11_ranked 6 = .ok (.iconst 0, 1) := by decide +kernel
theorem dX11_ranked_7 : decode cX11_ranked 7 = .ok (.iconst 3, 1) := by decide +kernel
theorem dX11_ranked_8 : decode cX11_ranked 8 = .ok (.invokestatic 67, 3) := by decide +kernel
theorem dX11_ranked_11 : decode cX11_ranked 11 = .ok (.ifCond .ne 9, 3) := by decide +kernel
theorem dX11_ranked_14 : decode cX11_ranked 14 = .ok (.aload_n 0, 1) := by decide +kernel
theorem dX11_ranked_15 : decode cX11_ranked 15 = .ok (.iconst 1, 1) := by decide +kernel
theorem dX11_ranked_16 : decode cX11_ranked 16 = .ok (.invokevirtual 64, 3) := by decide +kernel
theorem dX11_ranked_19 : decode cX11_ranked 19 = .ok (.ireturn, 1) := by decide +kernel
theorem dX11_ranked_20 : decode cX11_ranked 20 = .ok (.iconst 0, 1) := by decide +kernel
theorem dX11_ranked_21 : decode cX11_ranked 21 = .ok (.istore_n 3, 1) := by decide +kernel
theorem dX11_ranked_22 : decode cX11_ranked 22 = .ok (.iload_n 3, 1) := by decide +kernel
theorem dX11_ranked_23 : decode cX11_ranked 23 = .ok (.aload_n 0, 1) := by decide +kernel
theorem dX11_ranked_24 : decode cX11_ranked 24 = .ok (.getfield 9, 3) := by decide +kernel
theorem dX11_ranked_27 : decode cX11_ranked 27 = .ok (.iconst 0, 1) := by decide +kernel
theorem dX11_ranked_28 : decode cX11_ranked 28 = .ok (.iaload, 1) := by decide +kernel
theorem dX11_ranked_29 : decode cX11_ranked 29 = .ok (.if_icmp .ge 75, 3) := by decide +kernel
theorem dX11_ranked_32 : decode cX11_ranked 32 = .ok (.iconst 0, 1) := by decide +kernel
theorem dX11_ranked_33 : decode cX11_ranked 33 = .ok (.istore 4, 2) := by decide +kernel
theorem dX11_ranked_35 : decode cX11_ranked 35 = .ok (.iconst 0, 1) := by decide +kernel
theorem dX11_ranked_36 : decode cX11_ranked 36 = .ok (.istore 5, 2) := by decide +kernel
theorem dX11_ranked_38 : decode cX11_ranked 38 = .ok (.iload 5, 2) := by decide +kernel
theorem dX11_ranked_40 : decode cX11_ranked 40 = .ok (.aload_n 0, 1) := by decide +kernel
theorem dX11_ranked_41 : decode cX11_ranked 41 = .ok (.getfield 9, 3) := by decide +kernel
theorem dX11_ranked_44 : decode cX11_ranked 44 = .ok (.iconst 0, 1) := by decide +kernel
theorem dX11_ranked_45 : decode cX11_ranked 45 = .ok (.iaload, 1) := by decide +kernel
theorem dX11_ranked_46 : decode cX11_ranked 46 = .ok (.if_icmp .ge 44, 3) := by decide +kernel
theorem dX11_ranked_49 : decode cX11_ranked 49 = .ok (.aload_n 0, 1) := by decide +kernel
theorem dX11_ranked_50 : decode cX11_ranked 50 = .ok (.iload 5, 2) := by decide +kernel
theorem dX11_ranked_52 : decode cX11_ranked 52 = .ok (.iload_n 1, 1) := by decide +kernel
theorem dX11_ranked_53 : decode cX11_ranked 53 = .ok (.invokevirtual 197, 3) := by decide +kernel
theorem dX11_ranked_56 : decode cX11_ranked 56 = .ok (.aload_n 0, 1) := by decide +kernel
theorem dX11_ranked_57 : decode cX11_ranked 57 = .ok (.iload_n 3, 1) := by decide +kernel
theorem dX11_ranked_58 : decode cX11_ranked 58 = .ok (.iload_n 1, 1) := by decide +kernel
theorem dX11_ranked_59 : decode cX11_ranked 59 = .ok (.invokevirtual 197, 3) := by decide +kernel
theorem dX11_ranked_62 : decode cX11_ranked 62 = .ok (.isub, 1) := by decide +kernel
theorem dX11_ranked_63 : decode cX11_ranked 63 = .ok (.istore 6, 2) := by decide +kernel
theorem dX11_ranked_65 : decode cX11_ranked 65 = .ok (.iload 6, 2) := by decide +kernel
theorem dX11_ranked_67 : decode cX11_ranked 67 = .ok (.ifCond .gt 14, 3) := by decide +kernel
theorem dX11_ranked_70 : decode cX11_ranked 70 = .ok (.iload 6, 2) := by decide +kernel
theorem dX11_ranked_72 : decode cX11_ranked 72 = .ok (.ifCond .ne 12, 3) := by decide +kernel
theorem dX11_ranked_75 : decode cX11_ranked 75 = .ok (.iload 5, 2) := by decide +kernel
theorem dX11_ranked_77 : decode cX11_ranked 77 = .ok (.iload_n 3, 1) := by decide +kernel
theorem dX11_ranked_78 : decode cX11_ranked 78 = .ok (.if_icmp .ge 6, 3) := by decide +kernel
theorem dX11_ranked_81 : decode cX11_ranked 81 = .ok (.iinc 4 1, 3) := by decide +kernel
theorem dX11_ranked_84 : decode cX11_ranked 84 = .ok (.iinc 5 1, 3) := by decide +kernel
theorem dX11_ranked_87 : decode cX11_ranked 87 = .ok (.goto (-49), 3) := by decide +kernel
theorem dX11_ranked_90 : decode cX11_ranked 90 = .ok (.iload 4, 2) := by decide +kernel
theorem dX11_ranked_92 : decode cX11_ranked 92 = .ok (.iload_n 2, 1) := by decide +kernel
theorem dX11_ranked_93 : decode cX11_ranked 93 = .ok (.if_icmp .ne 5, 3) := by decide +kernel
theorem dX11_ranked_96 : decode cX11_ranked 96 = .ok (.iload_n 3, 1) := by decide +kernel
theorem dX11_ranked_97 : decode cX11_ranked 97 = .ok (.ireturn, 1) := by decide +kernel
theorem dX11_ranked_98 : decode cX11_ranked 98 = .ok (.iinc 3 1, 3) := by decide +kernel
theorem dX11_ranked_101 : decode cX11_ranked 101 = .ok (.goto (-79), 3) := by decide +kernel
theorem dX11_ranked_104 : decode cX11_ranked 104 = .ok (.aload_n 0, 1) := by decide +kernel
theorem dX11_ranked_105 : decode cX11_ranked 105 = .ok (.iconst 2, 1) := by decide +kernel
theorem dX11_ranked_106 : decode cX11_ranked 106 = .ok (.invokevirtual 64, 3) := by decide +kernel
theorem dX11_ranked_109 : decode cX11_ranked 109 = .ok (.ireturn, 1) := by decide +kernel
theorem dX11_isWeaker_0 : decode cX11_isWeaker 0 = .ok (.aload_n 0, 1) := by decide +kernel
theorem dX11_isWeaker_1 : decode cX11_isWeaker 1 = .ok (.iload_n 2, 1) := by decide +kernel
theorem dX11_isWeaker_2 : decode cX11_isWeaker 2 = .ok (.iconst 2, 1) := by decide +kernel
theorem dX11_isWeaker_3 : decode cX11_isWeaker 3 = .ok (.invokevirtual 79, 3) := by decide +kernel
theorem dX11_isWeaker_6 : decode cX11_isWeaker 6 = .ok (.aload_n 0, 1) := by decide +kernel
theorem dX11_isWeaker_7 : decode cX11_isWeaker 7 = .ok (.iload_n 2, 1) := by decide +kernel
theorem dX11_isWeaker_8 : decode cX11_isWeaker 8 = .ok (.invokevirtual 135, 3) := by decide +kernel
theorem dX11_isWeaker_11 : decode cX11_isWeaker 11 = .ok (.isub, 1) := by decide +kernel
theorem dX11_isWeaker_12 : decode cX11_isWeaker 12 = .ok (.aload_n 0, 1) := by decide +kernel
theorem dX11_isWeaker_13 : decode cX11_isWeaker 13 = .ok (.iload_n 1, 1) := by decide +kernel
theorem dX11_isWeaker_14 : decode cX11_isWeaker 14 = .ok (.iconst 2, 1) := by decide +kernel
theorem dX11_isWeaker_15 : decode cX11_isWeaker 15 = .ok (.invokevirtual 79, 3) := by decide +kernel
theorem dX11_isWeaker_18 : decode cX11_isWeaker 18 = .ok (.isub, 1) := by decide +kernel
theorem dX11_isWeaker_19 : decode cX11_isWeaker 19 = .ok (.aload_n 0, 1) := by decide +kernel
theorem dX11_isWeaker_20 : decode cX11_isWeaker 20 = .ok (.iload_n 1, 1) := by decide +kernel
theorem dX11_isWeaker_21 : decode cX11_isWeaker 21 = .ok (.invokevirtual 135, 3) := by decide +kernel
theorem dX11_isWeaker_24 : decode cX11_isWeaker 24 = .ok (.iadd, 1) := by decide +kernel
theorem dX11_isWeaker_25 : decode cX11_isWeaker 25 = .ok (.istore_n 3, 1) := by decide +kernel
theorem dX11_isWeaker_26 : decode cX11_isWeaker 26 = .ok (.iload_n 3, 1) := by decide +kernel
theorem dX11_isWeaker_27 : decode cX11_isWeaker 27 = .ok (.ifCond .ne 17, 3) := by decide +kernel
theorem dX11_isWeaker_30 : decode cX11_isWeaker 30 = .ok (.aload_n 0, 1) := by decide +kernel
theorem dX11_isWeaker_31 : decode cX11_isWeaker 31 = .ok (.iload_n 1, 1) := by decide +kernel
theorem dX11_isWeaker_32 : decode cX11_isWeaker 32 = .ok (.iconst 3, 1) := by decide +kernel
theorem dX11_isWeaker_33 : decode cX11_isWeaker 33 = .ok (.invokevirtual 79, 3) := by decide +kernel
theorem dX11_isWeaker_36 : decode cX11_isWeaker 36 = .ok (.aload_n 0, 1) := by decide +kernel
theorem dX11_isWeaker_37 : decode cX11_isWeaker 37 = .ok (.iload_n 2, 1) := by decide +kernel
theorem dX11_isWeaker_38 : decode cX11_isWeaker 38 = .ok (.iconst 3, 1) := by decide +kernel
theorem dX11_isWeaker_39 : decode cX11_isWeaker 39 = .ok (.invokevirtual 79, 3) := by decide +kernel
theorem dX11_isWeaker_42 : decode cX11_isWeaker 42 = .ok (.isub, 1) := by decide +kernel
theorem dX11_isWeaker_43 : decode cX11_isWeaker 43 = .ok (.istore_n 3, 1) := by decide +kernel
theorem dX11_isWeaker_44 : decode cX11_isWeaker 44 = .ok (.iload_n 3, 1) := by decide +kernel
theorem dX11_isWeaker_45 : decode cX11_isWeaker 45 = .ok (.ifCond .gt 12, 3) := by decide +kernel
theorem dX11_isWeaker_48 : decode cX11_isWeaker 48 = .ok (.iload_n 3, 1) := by decide +kernel
theorem dX11_isWeaker_49 : decode cX11_isWeaker 49 = .ok (.ifCond .ne 12, 3) := by decide +kernel
theorem dX11_isWeaker_52 : decode cX11_isWeaker 52 = .ok (.iload_n 1, 1) := by decide +kernel
theorem dX11_isWeaker_53 : decode cX11_isWeaker 53 = .ok (.iload_n 2, 1) := by decide +kernel
theorem dX11_isWeaker_54 : decode cX11_isWeaker 54 = .ok (.if_icmp .ge 7, 3) := by decide +kernel
theorem dX11_isWeaker_57 : decode cX11_isWeaker 57 = .ok (.iconst 1, 1) := by decide +kernel
theorem dX11_isWeaker_58 : decode cX11_isWeaker 58 = .ok (.goto 4, 3) := by decide +kernel
theorem dX11_isWeaker_61 : decode cX11_isWeaker 61 = .ok (.iconst 0, 1) := by decide +kernel
theorem dX11_isWeaker_62 : decode cX11_isWeaker 62 = .ok (.ireturn, 1) := by decide +kernel
theorem dX11_weakest_0 : decode cX11_weakest 0 = .ok (.aload_n 0, 1) := by decide +kernel
theorem dX11_weakest_1 : decode cX11_weakest 1 = .ok (.iconst 0, 1) := by decide +kernel
theorem dX11_weakest_2 : decode cX11_weakest 2 = .ok (.putfield 42, 3) := by decide +kernel
theorem dX11_weakest_5 : decode cX11_weakest 5 = .ok (.iconst 0, 1) := by decide +kernel
theorem dX11_weakest_6 : decode cX11_weakest 6 = .ok (.istore_n 2, 1) := by decide +kernel
theorem dX11_weakest_7 : decode cX11_weakest 7 = .ok (.iload_n 2, 1) := by decide +kernel
theorem dX11_weakest_8 : decode cX11_weakest 8 = .ok (.aload_n 0, 1) := by decide +kernel
theorem dX11_weakest_9 : decode cX11_weakest 9 = .ok (.getfield 9, 3) := by decide +kernel
theorem dX11_weakest_12 : decode cX11_weakest 12 = .ok (.iconst 1, 1) := by decide +kernel
theorem dX11_weakest_13 : decode cX11_weakest 13 = .ok (.iaload, 1) := by decide +kernel
theorem dX11_weakest_14 : decode cX11_weakest 14 = .ok (.if_icmp .ge 57, 3) := by decide +kernel
theorem dX11_weakest_17 : decode cX11_weakest 17 = .ok (.iconst 0, 1) := by decide +kernel
theorem dX11_weakest_18 : decode cX11_weakest 18 = .ok (.istore_n 3, 1) := by decide +kernel
theorem dX11_weakest_19 : decode cX11_weakest 19 = .ok (.iconst 0, 1) := by decide +kernel
theorem dX11_weakest_20 : decode cX11_weakest 20 = .ok (.istore 4, 2) := by decide +kernel
theorem dX11_weakest_22 : decode cX11_weakest 22 = .ok (.iload 4, 2) := by decide +kernel
theorem dX11_weakest_24 : decode cX11_weakest 24 = .ok (.aload_n 0, 1) := by decide +kernel
theorem dX11_weakest_25 : decode cX11_weakest 25 = .ok (.getfield 9, 3) := by decide +kernel
theorem dX11_weakest_28 : decode cX11_weakest 28 = .ok (.iconst 1, 1) := by decide +kernel
theorem dX11_weakest_29 : decode cX11_weakest 29 = .ok (.iaload, 1) := by decide +kernel
theorem dX11_weakest_30 : decode cX11_weakest 30 = .ok (.if_icmp .ge 28, 3) := by decide +kernel
theorem dX11_weakest_33 : decode cX11_weakest 33 = .ok (.iload 4, 2) := by decide +kernel
theorem dX11_weakest_35 : decode cX11_weakest 35 = .ok (.iload_n 2, 1) := by decide +kernel
theorem dX11_weakest_36 : decode cX11_weakest 36 = .ok (.if_icmp .eq 16, 3) := by decide +kernel
theorem dX11_weakest_39 : decode cX11_weakest 39 = .ok (.aload_n 0, 1) := by decide +kernel
theorem dX11_weakest_40 : decode cX11_weakest 40 = .ok (.iload 4, 2) := by decide +kernel
theorem dX11_weakest_42 : decode cX11_weakest 42 = .ok (.iload_n 2, 1) := by decide +kernel
theorem dX11_weakest_43 : decode cX11_weakest 43 = .ok (.invokevirtual 200, 3) := by decide +kernel
theorem dX11_weakest_46 : decode cX11_weakest 46 = .ok (.ifCond .eq 6, 3) := by decide +kernel
theorem dX11_weakest_49 : decode cX11_weakest 49 = .ok (.iinc 3 1, 3) := by decide +kernel
theorem dX11_weakest_52 : decode cX11_weakest 52 = .ok (.iinc 4 1, 3) := by decide +kernel
theorem dX11_weakest_55 : decode cX11_weakest 55 = .ok (.goto (-33), 3) := by decide +kernel
theorem dX11_weakest_58 : decode cX11_weakest 58 = .ok (.iload_n 3, 1) := by decide +kernel
theorem dX11_weakest_59 : decode cX11_weakest 59 = .ok (.iload_n 1, 1) := by decide +kernel
theorem dX11_weakest_60 : decode cX11_weakest 60 = .ok (.if_icmp .ne 5, 3) := by decide +kernel
theorem dX11_weakest_63 : decode cX11_weakest 63 = .ok (.iload_n 2, 1) := by decide +kernel
theorem dX11_weakest_64 : decode cX11_weakest 64 = .ok (.ireturn, 1) := by decide +kernel
theorem dX11_weakest_65 : decode cX11_weakest 65 = .ok (.iinc 2 1, 3) := by decide +kernel
theorem dX11_weakest_68 : decode cX11_weakest 68 = .ok (.goto (-61), 3) := by decide +kernel
theorem dX11_weakest_71 : decode cX11_weakest 71 = .ok (.aload_n 0, 1) := by decide +kernel
theorem dX11_weakest_72 : decode cX11_weakest 72 = .ok (.iconst 1, 1) := by decide +kernel
theorem dX11_weakest_73 : decode cX11_weakest 73 = .ok (.invokevirtual 64, 3) := by decide +kernel
theorem dX11_weakest_76 : decode cX11_weakest 76 = .ok (.ireturn, 1) := by decide +kernel
theorem dX11_isEven_0 : decode cX11_isEven 0 = .ok (.aload_n 0, 1) := by decide +kernel
theorem dX11_isEven_1 : decode cX11_isEven 1 = .ok (.iconst 0, 1) := by decide +kernel
theorem dX11_isEven_2 : decode cX11_isEven 2 = .ok (.putfield 42, 3) := by decide +kernel
theorem dX11_isEven_5 : decode cX11_isEven 5 = .ok (.iconst 1, 1) := by decide +kernel
theorem dX11_isEven_6 : decode cX11_isEven 6 = .ok (.ireturn, 1) := by decide +kernel
theorem dX11_append_0 : decode cX11_append 0 = .ok (.aload_n 0, 1) := by decide +kernel
theorem dX11_append_1 : decode cX11_append 1 = .ok (.iconst 0, 1) := by decide +kernel
theorem dX11_append_2 : decode cX11_append 2 = .ok (.putfield 42, 3) := by decide +kernel
theorem dX11_append_5 : decode cX11_append 5 = .ok (.aload_n 0, 1) := by decide +kernel
theorem dX11_append_6 : decode cX11_append 6 = .ok (.getfield 203, 3) := by decide +kernel
theorem dX11_append_9 : decode cX11_append 9 = .ok (.bipush 60, 2) := by decide +kernel
theorem dX11_append_11 : decode cX11_append 11 = .ok (.if_icmp .ne 9, 3) := by decide +kernel
theorem dX11_append_14 : decode cX11_append 14 = .ok (.aload_n 0, 1) := by decide +kernel
theorem dX11_append_15 : decode cX11_append 15 = .ok (.iconst 1, 1) := by decide +kernel
theorem dX11_append_16 : decode cX11_append 16 = .ok (.invokevirtual 64, 3) := by decide +kernel
theorem dX11_append_19 : decode cX11_append 19 = .ok (.ireturn, 1) := by decide +kernel
theorem dX11_append_20 : decode cX11_append 20 = .ok (.aload_n 0, 1) := by decide +kernel
theorem dX11_append_21 : decode cX11_append 21 = .ok (.getfield 32, 3) := by decide +kernel
theorem dX11_append_24 : decode cX11_append 24 = .ok (.aload_n 0, 1) := by decide +kernel
theorem dX11_append_25 : decode cX11_append 25 = .ok (.dup, 1) := by decide +kernel
theorem dX11_append_26 : decode cX11_append 26 = .ok (.getfield 203, 3) := by decide +kernel
theorem dX11_append_29 : decode cX11_append 29 = .ok (.dup_x1, 1) := by decide +kernel
theorem dX11_append_30 : decode cX11_append 30 = .ok (.iconst 1, 1) := by decide +kernel
theorem dX11_append_31 : decode cX11_append 31 = .ok (.iadd, 1) := by decide +kernel
theorem dX11_append_32 : decode cX11_append 32 = .ok (.putfield 203, 3) := by decide +kernel
theorem dX11_append_35 : decode cX11_append 35 = .ok (.iload_n 1, 1) := by decide +kernel
theorem dX11_append_36 : decode cX11_append 36 = .ok (.castore, 1) := by decide +kernel
theorem dX11_append_37 : decode cX11_append 37 = .ok (.aload_n 0, 1) := by decide +kernel
theorem dX11_append_38 : decode cX11_append 38 = .ok (.getfield 203, 3) := by decide +kernel
theorem dX11_append_41 : decode cX11_append 41 = .ok (.ireturn, 1) := by decide +kernel
theorem dX11_takes_0 : decode cX11_takes 0 = .ok (.aload_n 0, 1) := by decide +kernel
theorem dX11_takes_1 : decode cX11_takes 1 = .ok (.getfield 206, 3) := by decide +kernel
theorem dX11_takes_4 : decode cX11_takes 4 = .ok (.aload_n 0, 1) := by decide +kernel
theorem dX11_takes_5 : decode cX11_takes 5 = .ok (.getfield 203, 3) := by decide +kernel
theorem dX11_takes_8 : decode cX11_takes 8 = .ok (.if_icmp .eq 16, 3) := by decide +kernel
theorem dX11_takes_11 : decode cX11_takes 11 = .ok (.aload_n 0, 1) := by decide +kernel
theorem dX11_takes_12 : decode cX11_takes 12 = .ok (.getfield 32, 3) := by decide +kernel
theorem dX11_takes_15 : decode cX11_takes 15 = .ok (.aload_n 0, 1) := by decide +kernel
theorem dX11_takes_16 : decode cX11_takes 16 = .ok (.getfield 206, 3) := by decide +kernel
theorem dX11_takes_19 : decode cX11_takes 19 = .ok (.caload, 1) := by decide +kernel
theorem dX11_takes_20 : decode cX11_takes 20 = .ok (.iload_n 1, 1) := by decide +kernel
theorem dX11_takes_21 : decode cX11_takes 21 = .ok (.if_icmp .eq 5, 3) := by decide +kernel
theorem dX11_takes_24 : decode cX11_takes 24 = .ok (.iconst 0, 1) := by decide +kernel
theorem dX11_takes_25 : decode cX11_takes 25 = .ok (.ireturn, 1) := by decide +kernel
theorem dX11_takes_26 : decode cX11_takes 26 = .ok (.aload_n 0, 1) := by decide +kernel
theorem dX11_takes_27 : decode cX11_takes 27 = .ok (.dup, 1) := by decide +kernel
theorem dX11_takes_28 : decode cX11_takes 28 = .ok (.getfield 206, 3) := by decide +kernel
theorem dX11_takes_31 : decode cX11_takes 31 = .ok (.iconst 1, 1) := by decide +kernel
theorem dX11_takes_32 : decode cX11_takes 32 = .ok (.iadd, 1) := by decide +kernel
theorem dX11_takes_33 : decode cX11_takes 33 = .ok (.putfield 206, 3) := by decide +kernel
theorem dX11_takes_36 : decode cX11_takes 36 = .ok (.iconst 1, 1) := by decide +kernel
theorem dX11_takes_37 : decode cX11_takes 37 = .ok (.ireturn, 1) := by decide +kernel
theorem dX11_digits_0 : decode cX11_digits 0 = .ok (.iconst 0, 1) := by decide +kernel
theorem dX11_digits_1 : decode cX11_digits 1 = .ok (.istore_n 3, 1) := by decide +kernel
theorem dX11_digits_2 : decode cX11_digits 2 = .ok (.aload_n 0, 1) := by decide +kernel
theorem dX11_digits_3 : decode cX11_digits 3 = .ok (.getfield 35, 3) := by decide +kernel
theorem dX11_digits_6 : decode cX11_digits 6 = .ok (.iload_n 1, 1) := by decide +kernel
theorem dX11_digits_7 : decode cX11_digits 7 = .ok (.iconst 0, 1) := by decide +kernel
theorem dX11_digits_8 : decode cX11_digits 8 = .ok (.iastore, 1) := by decide +kernel
theorem dX11_digits_9 : decode cX11_digits 9 = .ok (.iload_n 3, 1) := by decide +kernel
theorem dX11_digits_10 : decode cX11_digits 10 = .ok (.iload_n 2, 1) := by decide +kernel
theorem dX11_digits_11 : decode cX11_digits 11 = .ok (.if_icmp .ge 74, 3) := by decide +kernel
theorem dX11_digits_14 : decode cX11_digits 14 = .ok (.aload_n 0, 1) := by decide +kernel
theorem dX11_digits_15 : decode cX11_digits 15 = .ok (.getfield 206, 3) := by decide +kernel
theorem dX11_digits_18 : decode cX11_digits 18 = .ok (.aload_n 0, 1) := by decide +kernel
theorem dX11_digits_19 : decode cX11_digits 19 = .ok (.getfield 203, 3) := by decide +kernel
theorem dX11_digits_22 : decode cX11_digits 22 = .ok (.if_icmp .ge 63, 3) := by decide +kernel
theorem dX11_digits_25 : decode cX11_digits 25 = .ok (.aload_n 0, 1) := by decide +kernel
theorem dX11_digits_26 : decode cX11_digits 26 = .ok (.getfield 32, 3) := by decide +kernel
theorem dX11_digits_29 : decode cX11_digits 29 = .ok (.aload_n 0, 1) := by decide +kernel
theorem dX11_digits_30 : decode cX11_digits 30 = .ok (.getfield 206, 3) := by decide +kernel
theorem dX11_digits_33 : decode cX11_digits 33 = .ok (.caload, 1) := by decide +kernel
theorem dX11_digits_34 : decode cX11_digits 34 = .ok (.bipush 48, 2) := by decide +kernel
theorem dX11_digits_36 : decode cX11_digits 36 = .ok (.bipush 57, 2) := by decide +kernel
theorem dX11_digits_38 : decode cX11_digits 38 = .ok (.invokestatic 67, 3) := by decide +kernel
theorem dX11_digits_41 : decode cX11_digits 41 = .ok (.ifCond .eq 44, 3) := by decide +kernel
theorem dX11_digits_44 : decode cX11_digits 44 = .ok (.aload_n 0, 1) := by decide +kernel
theorem dX11_digits_45 : decode cX11_digits 45 = .ok (.getfield 35, 3) := by decide +kernel
theorem dX11_digits_48 : decode cX11_digits 48 = .ok (.iload_n 1, 1) := by decide +kernel
theorem dX11_digits_49 : decode cX11_digits 49 = .ok (.bipush 10, 2) := by decide +kernel
theorem dX11_digits_51 : decode cX11_digits 51 = .ok (.aload_n 0, 1) := by decide +kernel
theorem dX11_digits_52 : decode cX11_digits 52 = .ok (.getfield 35, 3) := by decide +kernel
theorem dX11_digits_55 : decode cX11_digits 55 = .ok (.iload_n 1, 1) := by decide +kernel
theorem dX11_digits_56 : decode cX11_digits 56 = .ok (.iaload, 1) := by decide +kernel
theorem dX11_digits_57 : decode cX11_digits 57 = .ok (.imul, 1) := by decide +kernel
theorem dX11_digits_58 : decode cX11_digits 58 = .ok (.aload_n 0, 1) := by decide +kernel
theorem dX11_digits_59 : decode cX11_digits 59 = .ok (.getfield 32, 3) := by decide +kernel
theorem dX11_digits_62 : decode cX11_digits 62 = .ok (.aload_n 0, 1) := by decide +kernel
theorem dX11_digits_63 : decode cX11_digits 63 = .ok (.dup, 1) := by decide +kernel
theorem dX11_digits_64 : decode cX11_digits 64 = .ok (.getfield 206, 3) := by decide +kernel
theorem dX11_digits_67 : decode cX11_digits 67 = .ok (.dup_x1, 1) := by decide +kernel
theorem dX11_digits_68 : decode cX11_digits 68 = .ok (.iconst 1, 1) := by decide +kernel
theorem dX11_digits_69 : decode cX11_digits 69 = .ok (.iadd, 1) := by decide +kernel
theorem dX11_digits_70 : decode cX11_digits 70 = .ok (.putfield 206, 3) := by decide +kernel
theorem dX11_digits_73 : decode cX11_digits 73 = .ok (.caload, 1) := by decide +kernel
theorem dX11_digits_74 : decode cX11_digits 74 = .ok (.iadd, 1) := by decide +kernel
theorem dX11_digits_75 : decode cX11_digits 75 = .ok (.bipush 48, 2) := by decide +kernel
theorem dX11_digits_77 : decode cX11_digits 77 = .ok (.isub, 1) := by decide +kernel
theorem dX11_digits_78 : decode cX11_digits 78 = .ok (.iastore, 1) := by decide +kernel
theorem dX11_digits_79 : decode cX11_digits 79 = .ok (.iinc 3 1, 3) := by decide +kernel
theorem dX11_digits_82 : decode cX11_digits 82 = .ok (.goto (-73), 3) := by decide +kernel
theorem dX11_digits_85 : decode cX11_digits 85 = .ok (.iload_n 3, 1) := by decide +kernel
theorem dX11_digits_86 : decode cX11_digits 86 = .ok (.ifCond .le 7, 3) := by decide +kernel
theorem dX11_digits_89 : decode cX11_digits 89 = .ok (.iconst 1, 1) := by decide +kernel
theorem dX11_digits_90 : decode cX11_digits 90 = .ok (.goto 4, 3) := by decide +kernel
theorem dX11_digits_93 : decode cX11_digits 93 = .ok (.iconst 0, 1) := by decide +kernel
theorem dX11_digits_94 : decode cX11_digits 94 = .ok (.ireturn, 1) := by decide +kernel
theorem dX11_isSigned_0 : decode cX11_isSigned 0 = .ok (.aload_n 0, 1) := by decide +kernel
theorem dX11_isSigned_1 : decode cX11_isSigned 1 = .ok (.getfield 206, 3) := by decide +kernel
theorem dX11_isSigned_4 : decode cX11_isSigned 4 = .ok (.aload_n 0, 1) := by decide +kernel
theorem dX11_isSigned_5 : decode cX11_isSigned 5 = .ok (.getfield 203, 3) := by decide +kernel
theorem dX11_isSigned_8 : decode cX11_isSigned 8 = .ok (.if_icmp .ge 21, 3) := by decide +kernel
theorem dX11_isSigned_11 : decode cX11_isSigned 11 = .ok (.aload_n 0, 1) := by decide +kernel
theorem dX11_isSigned_12 : decode cX11_isSigned 12 = .ok (.getfield 32, 3) := by decide +kernel
theorem dX11_isSigned_15 : decode cX11_isSigned 15 = .ok (.aload_n 0, 1) := by decide +kernel
theorem dX11_isSigned_16 : decode cX11_isSigned 16 = .ok (.getfield 206, 3) := by decide +kernel
theorem dX11_isSigned_19 : decode cX11_isSigned 19 = .ok (.caload, 1) := by decide +kernel
theorem dX11_isSigned_20 : decode cX11_isSigned 20 = .ok (.bipush 45, 2) := by decide +kernel
theorem dX11_isSigned_22 : decode cX11_isSigned 22 = .ok (.if_icmp .ne 7, 3) := by decide +kernel
theorem dX11_isSigned_25 : decode cX11_isSigned 25 = .ok (.iconst 1, 1) := by decide +kernel
theorem dX11_isSigned_26 : decode cX11_isSigned 26 = .ok (.goto 4, 3) := by decide +kernel
theorem dX11_isSigned_29 : decode cX11_isSigned 29 = .ok (.iconst 0, 1) := by decide +kernel
theorem dX11_isSigned_30 : decode cX11_isSigned 30 = .ok (.istore_n 1, 1) := by decide +kernel
theorem dX11_isSigned_31 : decode cX11_isSigned 31 = .ok (.aload_n 0, 1) := by decide +kernel
theorem dX11_isSigned_32 : decode cX11_isSigned 32 = .ok (.iload_n 1, 1) := by decide +kernel
theorem dX11_isSigned_33 : decode cX11_isSigned 33 = .ok (.ifCond .eq 8, 3) := by decide +kernel
theorem dX11_isSigned_36 : decode cX11_isSigned 36 = .ok (.bipush 45, 2) := by decide +kernel
theorem dX11_isSigned_38 : decode cX11_isSigned 38 = .ok (.goto 5, 3) := by decide +kernel
theorem dX11_isSigned_41 : decode cX11_isSigned 41 = .ok (.bipush 43, 2) := by decide +kernel
theorem dX11_isSigned_43 : decode cX11_isSigned 43 = .ok (.invokevirtual 209, 3) := by decide +kernel
theorem dX11_isSigned_46 : decode cX11_isSigned 46 = .ok (.ifCond .eq 12, 3) := by decide +kernel
theorem dX11_isSigned_49 : decode cX11_isSigned 49 = .ok (.aload_n 0, 1) := by decide +kernel
theorem dX11_isSigned_50 : decode cX11_isSigned 50 = .ok (.iconst 0, 1) := by decide +kernel
theorem dX11_isSigned_51 : decode cX11_isSigned 51 = .ok (.iconst 2, 1) := by decide +kernel
theorem dX11_isSigned_52 : decode cX11_isSigned 52 = .ok (.invokevirtual 213, 3) := by decide +kernel
theorem dX11_isSigned_55 : decode cX11_isSigned 55 = .ok (.ifCond .ne 5, 3) := by decide +kernel
theorem dX11_isSigned_58 : decode cX11_isSigned 58 = .ok (.iconst 0, 1) := by decide +kernel
theorem dX11_isSigned_59 : decode cX11_isSigned 59 = .ok (.ireturn, 1) := by decide +kernel
theorem dX11_isSigned_60 : decode cX11_isSigned 60 = .ok (.iload_n 1, 1) := by decide +kernel
theorem dX11_isSigned_61 : decode cX11_isSigned 61 = .ok (.ifCond .eq 16, 3) := by decide +kernel
theorem dX11_isSigned_64 : decode cX11_isSigned 64 = .ok (.aload_n 0, 1) := by decide +kernel
theorem dX11_isSigned_65 : decode cX11_isSigned 65 = .ok (.getfield 35, 3) := by decide +kernel
theorem dX11_isSigned_68 : decode cX11_isSigned 68 = .ok (.iconst 0, 1) := by decide +kernel
theorem dX11_isSigned_69 : decode cX11_isSigned 69 = .ok (.aload_n 0, 1) := by decide +kernel
theorem dX11_isSigned_70 : decode cX11_isSigned 70 = .ok (.getfield 35, 3) := by decide +kernel
theorem dX11_isSigned_73 : decode cX11_isSigned 73 = .ok (.iconst 0, 1) := by decide +kernel
theorem dX11_isSigned_74 : decode cX11_isSigned 74 = .ok (.iaload, 1) := by decide +kernel
theorem dX11_isSigned_75 : decode cX11_isSigned 75 = .ok (.ineg, 1) := by decide +kernel
theorem dX11_isSigned_76 : decode cX11_isSigned 76 = .ok (.iastore, 1) := by decide +kernel
theorem dX11_isSigned_77 : decode cX11_isSigned 77 = .ok (.iconst 1, 1) := by decide +kernel
theorem dX11_isSigned_78 : decode cX11_isSigned 78 = .ok (.ireturn, 1) := by decide +kernel
theorem dX11_isCommand_0 : decode cX11_isCommand 0 = .ok (.aload_n 0, 1) := by decide +kernel
theorem dX11_isCommand_1 : decode cX11_isCommand 1 = .ok (.getfield 206, 3) := by decide +kernel
theorem dX11_isCommand_4 : decode cX11_isCommand 4 = .ok (.aload_n 0, 1) := by decide +kernel
theorem dX11_isCommand_5 : decode cX11_isCommand 5 = .ok (.getfield 203, 3) := by decide +kernel
theorem dX11_isCommand_8 : decode cX11_isCommand 8 = .ok (.if_icmp .eq 20, 3) := by decide +kernel
theorem dX11_isCommand_11 : decode cX11_isCommand 11 = .ok (.ldc 216, 2) := by decide +kernel
theorem dX11_isCommand_13 : decode cX11_isCommand 13 = .ok (.aload_n 0, 1) := by decide +kernel
theorem dX11_isCommand_14 : decode cX11_isCommand 14 = .ok (.getfield 32, 3) := by decide +kernel
theorem dX11_isCommand_17 : decode cX11_isCommand 17 = .ok (.aload_n 0, 1) := by decide +kernel
theorem dX11_isCommand_18 : decode cX11_isCommand 18 = .ok (.getfield 206, 3) := by decide +kernel
theorem dX11_isCommand_21 : decode cX11_isCommand 21 = .ok (.caload, 1) := by decide +kernel
theorem dX11_isCommand_22 : decode cX11_isCommand 22 = .ok (.invokevirtual 218, 3) := by decide +kernel
theorem dX11_isCommand_25 : decode cX11_isCommand 25 = .ok (.ifCond .ge 5, 3) := by decide +kernel
theorem dX11_isCommand_28 : decode cX11_isCommand 28 = .ok (.iconst 0, 1) := by decide +kernel
theorem dX11_isCommand_29 : decode cX11_isCommand 29 = .ok (.ireturn, 1) := by decide +kernel
theorem dX11_isCommand_30 : decode cX11_isCommand 30 = .ok (.aload_n 0, 1) := by decide +kernel
theorem dX11_isCommand_31 : decode cX11_isCommand 31 = .ok (.aload_n 0, 1) := by decide +kernel
theorem dX11_isCommand_32 : decode cX11_isCommand 32 = .ok (.getfield 32, 3) := by decide +kernel
theorem dX11_isCommand_35 : decode cX11_isCommand 35 = .ok (.aload_n 0, 1) := by decide +kernel
theorem dX11_isCommand_36 : decode cX11_isCommand 36 = .ok (.dup, 1) := by decide +kernel
theorem dX11_isCommand_37 : decode cX11_isCommand 37 = .ok (.getfield 206, 3) := by decide +kernel
theorem dX11_isCommand_40 : decode cX11_isCommand 40 = .ok (.dup_x1, 1) := by decide +kernel
theorem dX11_isCommand_41 : decode cX11_isCommand 41 = .ok (.iconst 1, 1) := by decide +kernel
theorem dX11_isCommand_42 : decode cX11_isCommand 42 = .ok (.iadd, 1) := by decide +kernel
theorem dX11_isCommand_43 : decode cX11_isCommand 43 = .ok (.putfield 206, 3) := by decide +kernel
theorem dX11_isCommand_46 : decode cX11_isCommand 46 = .ok (.caload, 1) := by decide +kernel
theorem dX11_isCommand_47 : decode cX11_isCommand 47 = .ok (.putfield 223, 3) := by decide +kernel
theorem dX11_isCommand_50 : decode cX11_isCommand 50 = .ok (.aload_n 0, 1) := by decide +kernel
theorem dX11_isCommand_51 : decode cX11_isCommand 51 = .ok (.getfield 223, 3) := by decide +kernel
theorem dX11_isCommand_54 : decode cX11_isCommand 54 = .ok (.tableswitch 243 98 115 #[168, 243, 243, 243, 91, 243, 210, 243, 243, 243, 243, 243, 243, 86, 135, 243, 133, 86], 86) := by decide +kernel
theorem dX11_isCommand_140 : decode cX11_isCommand 140 = .ok (.aload_n 0, 1) := by decide +kernel
theorem dX11_isCommand_141 : decode cX11_isCommand 141 = .ok (.invokevirtual 227, 3) := by decide +kernel
theorem dX11_isCommand_144 : decode cX11_isCommand 144 = .ok (.ireturn, 1) := by decide +kernel
theorem dX11_isCommand_145 : decode cX11_isCommand 145 = .ok (.aload_n 0, 1) := by decide +kernel
theorem dX11_isCommand_146 : decode cX11_isCommand 146 = .ok (.iconst 0, 1) := by decide +kernel
theorem dX11_isCommand_147 : decode cX11_isCommand 147 = .ok (.iconst 1, 1) := by decide +kernel
theorem dX11_isCommand_148 : decode cX11_isCommand 148 = .ok (.invokevirtual 213, 3) := by decide +kernel
theorem dX11_isCommand_151 : decode cX11_isCommand 151 = .ok (.ifCond .eq 34, 3) := by decide +kernel
theorem dX11_isCommand_154 : decode cX11_isCommand 154 = .ok (.aload_n 0, 1) := by decide +kernel
theorem dX11_isCommand_155 : decode cX11_isCommand 155 = .ok (.iconst 1, 1) := by decide +kernel
theorem dX11_isCommand_156 : decode cX11_isCommand 156 = .ok (.iconst 1, 1) := by decide +kernel
theorem dX11_isCommand_157 : decode cX11_isCommand 157 = .ok (.invokevirtual 213, 3) := by decide +kernel
theorem dX11_isCommand_160 : decode cX11_isCommand 160 = .ok (.ifCond .eq 25, 3) := by decide +kernel
theorem dX11_isCommand_163 : decode cX11_isCommand 163 = .ok (.aload_n 0, 1) := by decide +kernel
theorem dX11_isCommand_164 : decode cX11_isCommand 164 = .ok (.bipush 42, 2) := by decide +kernel
theorem dX11_isCommand_166 : decode cX11_isCommand 166 = .ok (.invokevirtual 209, 3) := by decide +kernel
theorem dX11_isCommand_169 : decode cX11_isCommand 169 = .ok (.ifCond .eq 16, 3) := by decide +kernel
theorem dX11_isCommand_172 : decode cX11_isCommand 172 = .ok (.aload_n 0, 1) := by decide +kernel
theorem dX11_isCommand_173 : decode cX11_isCommand 173 = .ok (.iconst 2, 1) := by decide +kernel
theorem dX11_isCommand_174 : decode cX11_isCommand 174 = .ok (.iconst 1, 1) := by decide +kernel
theorem dX11_isCommand_175 : decode cX11_isCommand 175 = .ok (.invokevirtual 213, 3) := by decide +kernel
theorem dX11_isCommand_178 : decode cX11_isCommand 178 = .ok (.ifCond .eq 7, 3) := by decide +kernel
theorem dX11_isCommand_181 : decode cX11_isCommand 181 = .ok (.iconst 1, 1) := by decide +kernel
theorem dX11_isCommand_182 : decode cX11_isCommand 182 = .ok (.goto 4, 3) := by decide +kernel
theorem dX11_isCommand_185 : decode cX11_isCommand 185 = .ok (.iconst 0, 1) := by decide +kernel
theorem dX11_isCommand_186 : decode cX11_isCommand 186 = .ok (.ireturn, 1) := by decide +kernel
theorem dX11_isCommand_187 : decode cX11_isCommand 187 = .ok (.iconst 1, 1) := by decide +kernel
theorem dX11_isCommand_188 : decode cX11_isCommand 188 = .ok (.ireturn, 1) := by decide +kernel
theorem dX11_isCommand_189 : decode cX11_isCommand 189 = .ok (.aload_n 0, 1) := by decide +kernel
theorem dX11_isCommand_190 : decode cX11_isCommand 190 = .ok (.iconst 0, 1) := by decide +kernel
theorem dX11_isCommand_191 : decode cX11_isCommand 191 = .ok (.iconst 1, 1) := by decide +kernel
theorem dX11_isCommand_192 : decode cX11_isCommand 192 = .ok (.invokevirtual 213, 3) := by decide +kernel
theorem dX11_isCommand_195 : decode cX11_isCommand 195 = .ok (.ifCond .eq 25, 3) := by decide +kernel
theorem dX11_isCommand_198 : decode cX11_isCommand 198 = .ok (.aload_n 0, 1) := by decide +kernel
theorem dX11_isCommand_199 : decode cX11_isCommand 199 = .ok (.bipush 42, 2) := by decide +kernel
theorem dX11_isCommand_201 : decode cX11_isCommand 201 = .ok (.invokevirtual 209, 3) := by decide +kernel
theorem dX11_isCommand_204 : decode cX11_isCommand 204 = .ok (.ifCond .eq 16, 3) := by decide +kernel
theorem dX11_isCommand_207 : decode cX11_isCommand 207 = .ok (.aload_n 0, 1) := by decide +kernel
theorem dX11_isCommand_208 : decode cX11_isCommand 208 = .ok (.iconst 1, 1) := by decide +kernel
theorem dX11_isCommand_209 : decode cX11_isCommand 209 = .ok (.iconst 1, 1) := by decide +kernel
theorem dX11_isCommand_210 : decode cX11_isCommand 210 = .ok (.invokevirtual 213, 3) := by decide +kernel
theorem dX11_isCommand_213 : decode cX11_isCommand 213 = .ok (.ifCond .eq 7, 3) := by decide +kernel
theorem dX11_isCommand_216 : decode cX11_isCommand 216 = .ok (.iconst 1, 1) := by decide +kernel
theorem dX11_isCommand_217 : decode cX11_isCommand 217 = .ok (.goto 4, 3) := by decide +kernel
theorem dX11_isCommand_220 : decode cX11_isCommand 220 = .ok (.iconst 0, 1) := by decide +kernel
theorem dX11_isCommand_221 : decode cX11_isCommand 221 = .ok (.ireturn, 1) := by decide +kernel
theorem dX11_isCommand_222 : decode cX11_isCommand 222 = .ok (.aload_n 0, 1) := by decide +kernel
theorem dX11_isCommand_223 : decode cX11_isCommand 223 = .ok (.iconst 0, 1) := by decide +kernel
theorem dX11_isCommand_224 : decode cX11_isCommand 224 = .ok (.iconst 1, 1) := by decide +kernel
theorem dX11_isCommand_225 : decode cX11_isCommand 225 = .ok (.invokevirtual 213, 3) := by decide +kernel
theorem dX11_isCommand_228 : decode cX11_isCommand 228 = .ok (.ifCond .eq 34, 3) := by decide +kernel
theorem dX11_isCommand_231 : decode cX11_isCommand 231 = .ok (.aload_n 0, 1) := by decide +kernel
theorem dX11_isCommand_232 : decode cX11_isCommand 232 = .ok (.iconst 1, 1) := by decide +kernel
theorem dX11_isCommand_233 : decode cX11_isCommand 233 = .ok (.iconst 1, 1) := by decide +kernel
theorem dX11_isCommand_234 : decode cX11_isCommand 234 = .ok (.invokevirtual 213, 3) := by decide +kernel
theorem dX11_isCommand_237 : decode cX11_isCommand 237 = .ok (.ifCond .eq 25, 3) := by decide +kernel
theorem dX11_isCommand_240 : decode cX11_isCommand 240 = .ok (.aload_n 0, 1) := by decide +kernel
theorem dX11_isCommand_241 : decode cX11_isCommand 241 = .ok (.bipush 60, 2) := by decide +kernel
theorem dX11_isCommand_243 : decode cX11_isCommand 243 = .ok (.invokevirtual 209, 3) := by decide +kernel
theorem dX11_isCommand_246 : decode cX11_isCommand 246 = .ok (.ifCond .eq 16, 3) := by decide +kernel
theorem dX11_isCommand_249 : decode cX11_isCommand 249 = .ok (.aload_n 0, 1) := by decide +kernel
theorem dX11_isCommand_250 : decode cX11_isCommand 250 = .ok (.iconst 2, 1) := by decide +kernel
theorem dX11_isCommand_251 : decode cX11_isCommand 251 = .ok (.iconst 2, 1) := by decide +kernel
theorem dX11_isCommand_252 : decode cX11_isCommand 252 = .ok (.invokevirtual 213, 3) := by decide +kernel
theorem dX11_isCommand_255 : decode cX11_isCommand 255 = .ok (.ifCond .eq 7, 3) := by decide +kernel
theorem dX11_isCommand_258 : decode cX11_isCommand 258 = .ok (.iconst 1, 1) := by decide +kernel
theorem dX11_isCommand_259 : decode cX11_isCommand 259 = .ok (.goto 4, 3) := by decide +kernel
theorem dX11_isCommand_262 : decode cX11_isCommand 262 = .ok (.iconst 0, 1) := by decide +kernel
theorem dX11_isCommand_263 : decode cX11_isCommand 263 = .ok (.ireturn, 1) := by decide +kernel
theorem dX11_isCommand_264 : decode cX11_isCommand 264 = .ok (.aload_n 0, 1) := by decide +kernel
theorem dX11_isCommand_265 : decode cX11_isCommand 265 = .ok (.iconst 0, 1) := by decide +kernel
theorem dX11_isCommand_266 : decode cX11_isCommand 266 = .ok (.iconst 1, 1) := by decide +kernel
theorem dX11_isCommand_267 : decode cX11_isCommand 267 = .ok (.invokevirtual 213, 3) := by decide +kernel
theorem dX11_isCommand_270 : decode cX11_isCommand 270 = .ok (.ifCond .eq 25, 3) := by decide +kernel
theorem dX11_isCommand_273 : decode cX11_isCommand 273 = .ok (.aload_n 0, 1) := by decide +kernel
theorem dX11_isCommand_274 : decode cX11_isCommand 274 = .ok (.bipush 61, 2) := by decide +kernel
theorem dX11_isCommand_276 : decode cX11_isCommand 276 = .ok (.invokevirtual 209, 3) := by decide +kernel
theorem dX11_isCommand_279 : decode cX11_isCommand 279 = .ok (.ifCond .eq 16, 3) := by decide +kernel
theorem dX11_isCommand_282 : decode cX11_isCommand 282 = .ok (.aload_n 0, 1) := by decide +kernel
theorem dX11_isCommand_283 : decode cX11_isCommand 283 = .ok (.iconst 1, 1) := by decide +kernel
theorem dX11_isCommand_284 : decode cX11_isCommand 284 = .ok (.iconst 1, 1) := by decide +kernel
theorem dX11_isCommand_285 : decode cX11_isCommand 285 = .ok (.invokevirtual 213, 3) := by decide +kernel
theorem dX11_isCommand_288 : decode cX11_isCommand 288 = .ok (.ifCond .eq 7, 3) := by decide +kernel
theorem dX11_isCommand_291 : decode cX11_isCommand 291 = .ok (.iconst 1, 1) := by decide +kernel
theorem dX11_isCommand_292 : decode cX11_isCommand 292 = .ok (.goto 4, 3) := by decide +kernel
theorem dX11_isCommand_295 : decode cX11_isCommand 295 = .ok (.iconst 0, 1) := by decide +kernel
theorem dX11_isCommand_296 : decode cX11_isCommand 296 = .ok (.ireturn, 1) := by decide +kernel
theorem dX11_isCommand_297 : decode cX11_isCommand 297 = .ok (.aload_n 0, 1) := by decide +kernel
theorem dX11_isCommand_298 : decode cX11_isCommand 298 = .ok (.iconst 0, 1) := by decide +kernel
theorem dX11_isCommand_299 : decode cX11_isCommand 299 = .ok (.iconst 1, 1) := by decide +kernel
theorem dX11_isCommand_300 : decode cX11_isCommand 300 = .ok (.invokevirtual 213, 3) := by decide +kernel
theorem dX11_isCommand_303 : decode cX11_isCommand 303 = .ok (.ireturn, 1) := by decide +kernel
theorem dX11_carries_0 : decode cX11_carries 0 = .ok (.aload_n 0, 1) := by decide +kernel
theorem dX11_carries_1 : decode cX11_carries 1 = .ok (.getfield 223, 3) := by decide +kernel
theorem dX11_carries_4 : decode cX11_carries 4 = .ok (.tableswitch 197 98 115 #[157, 197, 197, 197, 112, 197, 180, 197, 197, 197, 197, 197, 197, 88, 140, 197, 135, 100], 88) := by decide +kernel
theorem dX11_carries_92 : decode cX11_carries 92 = .ok (.aload_n 0, 1) := by decide +kernel
theorem dX11_carries_93 : decode cX11_carries 93 = .ok (.aload_n 0, 1) := by decide +kernel
theorem dX11_carries_94 : decode cX11_carries 94 = .ok (.getfield 35, 3) := by decide +kernel
theorem dX11_carries_97 : decode cX11_carries 97 = .ok (.iconst 0, 1) := by decide +kernel
theorem dX11_carries_98 : decode cX11_carries 98 = .ok (.iaload, 1) := by decide +kernel
theorem dX11_carries_99 : decode cX11_carries 99 = .ok (.iconst 0, 1) := by decide +kernel
theorem dX11_carries_100 : decode cX11_carries 100 = .ok (.invokevirtual 119, 3) := by decide +kernel
theorem dX11_carries_103 : decode cX11_carries 103 = .ok (.ireturn, 1) := by decide +kernel
theorem dX11_carries_104 : decode cX11_carries 104 = .ok (.aload_n 0, 1) := by decide +kernel
theorem dX11_carries_105 : decode cX11_carries 105 = .ok (.aload_n 0, 1) := by decide +kernel
theorem dX11_carries_106 : decode cX11_carries 106 = .ok (.getfield 35, 3) := by decide +kernel
theorem dX11_carries_109 : decode cX11_carries 109 = .ok (.iconst 0, 1) := by decide +kernel
theorem dX11_carries_110 : decode cX11_carries 110 = .ok (.iaload, 1) := by decide +kernel
theorem dX11_carries_111 : decode cX11_carries 111 = .ok (.iconst 1, 1) := by decide +kernel
theorem dX11_carries_112 : decode cX11_carries 112 = .ok (.invokevirtual 119, 3) := by decide +kernel
theorem dX11_carries_115 : decode cX11_carries 115 = .ok (.ireturn, 1) := by decide +kernel
theorem dX11_carries_116 : decode cX11_carries 116 = .ok (.aload_n 0, 1) := by decide +kernel
theorem dX11_carries_117 : decode cX11_carries 117 = .ok (.aload_n 0, 1) := by decide +kernel
theorem dX11_carries_118 : decode cX11_carries 118 = .ok (.getfield 35, 3) := by decide +kernel
theorem dX11_carries_121 : decode cX11_carries 121 = .ok (.iconst 0, 1) := by decide +kernel
theorem dX11_carries_122 : decode cX11_carries 122 = .ok (.iaload, 1) := by decide +kernel
theorem dX11_carries_123 : decode cX11_carries 123 = .ok (.aload_n 0, 1) := by decide +kernel
theorem dX11_carries_124 : decode cX11_carries 124 = .ok (.getfield 35, 3) := by decide +kernel
theorem dX11_carries_127 : decode cX11_carries 127 = .ok (.iconst 1, 1) := by decide +kernel
theorem dX11_carries_128 : decode cX11_carries 128 = .ok (.iaload, 1) := by decide +kernel
theorem dX11_carries_129 : decode cX11_carries 129 = .ok (.aload_n 0, 1) := by decide +kernel
theorem dX11_carries_130 : decode cX11_carries 130 = .ok (.getfield 35, 3) := by decide +kernel
theorem dX11_carries_133 : decode cX11_carries 133 = .ok (.iconst 2, 1) := by decide +kernel
theorem dX11_carries_134 : decode cX11_carries 134 = .ok (.iaload, 1) := by decide +kernel
theorem dX11_carries_135 : decode cX11_carries 135 = .ok (.invokevirtual 129, 3) := by decide +kernel
theorem dX11_carries_138 : decode cX11_carries 138 = .ok (.ireturn, 1) := by decide +kernel
theorem dX11_carries_139 : decode cX11_carries 139 = .ok (.aload_n 0, 1) := by decide +kernel
theorem dX11_carries_140 : decode cX11_carries 140 = .ok (.invokevirtual 146, 3) := by decide +kernel
theorem dX11_carries_143 : decode cX11_carries 143 = .ok (.ireturn, 1) := by decide +kernel
theorem dX11_carries_144 : decode cX11_carries 144 = .ok (.aload_n 0, 1) := by decide +kernel
theorem dX11_carries_145 : decode cX11_carries 145 = .ok (.aload_n 0, 1) := by decide +kernel
theorem dX11_carries_146 : decode cX11_carries 146 = .ok (.getfield 35, 3) := by decide +kernel
theorem dX11_carries_149 : decode cX11_carries 149 = .ok (.iconst 0, 1) := by decide +kernel
theorem dX11_carries_150 : decode cX11_carries 150 = .ok (.iaload, 1) := by decide +kernel
theorem dX11_carries_151 : decode cX11_carries 151 = .ok (.aload_n 0, 1) := by decide +kernel
theorem dX11_carries_152 : decode cX11_carries 152 = .ok (.getfield 35, 3) := by decide +kernel
theorem dX11_carries_155 : decode cX11_carries 155 = .ok (.iconst 1, 1) := by decide +kernel
theorem dX11_carries_156 : decode cX11_carries 156 = .ok (.iaload, 1) := by decide +kernel
theorem dX11_carries_157 : decode cX11_carries 157 = .ok (.invokevirtual 153, 3) := by decide +kernel
theorem dX11_carries_160 : decode cX11_carries 160 = .ok (.ireturn, 1) := by decide +kernel
theorem dX11_carries_161 : decode cX11_carries 161 = .ok (.aload_n 0, 1) := by decide +kernel
theorem dX11_carries_162 : decode cX11_carries 162 = .ok (.aload_n 0, 1) := by decide +kernel
theorem dX11_carries_163 : decode cX11_carries 163 = .ok (.getfield 35, 3) := by decide +kernel
theorem dX11_carries_166 : decode cX11_carries 166 = .ok (.iconst 0, 1) := by decide +kernel
theorem dX11_carries_167 : decode cX11_carries 167 = .ok (.iaload, 1) := by decide +kernel
theorem dX11_carries_168 : decode cX11_carries 168 = .ok (.aload_n 0, 1) := by decide +kernel
theorem dX11_carries_169 : decode cX11_carries 169 = .ok (.getfield 35, 3) := by decide +kernel
theorem dX11_carries_172 : decode cX11_carries 172 = .ok (.iconst 1, 1) := by decide +kernel
theorem dX11_carries_173 : decode cX11_carries 173 = .ok (.iaload, 1) := by decide +kernel
theorem dX11_carries_174 : decode cX11_carries 174 = .ok (.aload_n 0, 1) := by decide +kernel
theorem dX11_carries_175 : decode cX11_carries 175 = .ok (.getfield 35, 3) := by decide +kernel
theorem dX11_carries_178 : decode cX11_carries 178 = .ok (.iconst 2, 1) := by decide +kernel
theorem dX11_carries_179 : decode cX11_carries 179 = .ok (.iaload, 1) := by decide +kernel
theorem dX11_carries_180 : decode cX11_carries 180 = .ok (.invokevirtual 156, 3) := by decide +kernel
theorem dX11_carries_183 : decode cX11_carries 183 = .ok (.ireturn, 1) := by decide +kernel
theorem dX11_carries_184 : decode cX11_carries 184 = .ok (.aload_n 0, 1) := by decide +kernel
theorem dX11_carries_185 : decode cX11_carries 185 = .ok (.aload_n 0, 1) := by decide +kernel
theorem dX11_carries_186 : decode cX11_carries 186 = .ok (.getfield 35, 3) := by decide +kernel
theorem dX11_carries_189 : decode cX11_carries 189 = .ok (.iconst 0, 1) := by decide +kernel
theorem dX11_carries_190 : decode cX11_carries 190 = .ok (.iaload, 1) := by decide +kernel
theorem dX11_carries_191 : decode cX11_carries 191 = .ok (.aload_n 0, 1) := by decide +kernel
theorem dX11_carries_192 : decode cX11_carries 192 = .ok (.getfield 35, 3) := by decide +kernel
theorem dX11_carries_195 : decode cX11_carries 195 = .ok (.iconst 1, 1) := by decide +kernel
theorem dX11_carries_196 : decode cX11_carries 196 = .ok (.iaload, 1) := by decide +kernel
theorem dX11_carries_197 : decode cX11_carries 197 = .ok (.invokevirtual 162, 3) := by decide +kernel
theorem dX11_carries_200 : decode cX11_carries 200 = .ok (.ireturn, 1) := by decide +kernel
theorem dX11_carries_201 : decode cX11_carries 201 = .ok (.aload_n 0, 1) := by decide +kernel
theorem dX11_carries_202 : decode cX11_carries 202 = .ok (.aload_n 0, 1) := by decide +kernel
theorem dX11_carries_203 : decode cX11_carries 203 = .ok (.getfield 35, 3) := by decide +kernel
theorem dX11_carries_206 : decode cX11_carries 206 = .ok (.iconst 0, 1) := by decide +kernel
theorem dX11_carries_207 : decode cX11_carries 207 = .ok (.iaload, 1) := by decide +kernel
theorem dX11_carries_208 : decode cX11_carries 208 = .ok (.invokevirtual 159, 3) := by decide +kernel
theorem dX11_carries_211 : decode cX11_carries 211 = .ok (.ireturn, 1) := by decide +kernel
theorem dX11_commands_0 : decode cX11_commands 0 = .ok (.aload_n 0, 1) := by decide +kernel
theorem dX11_commands_1 : decode cX11_commands 1 = .ok (.invokevirtual 116, 3) := by decide +kernel
theorem dX11_commands_4 : decode cX11_commands 4 = .ok (.aload_n 0, 1) := by decide +kernel
theorem dX11_commands_5 : decode cX11_commands 5 = .ok (.iconst 0, 1) := by decide +kernel
theorem dX11_commands_6 : decode cX11_commands 6 = .ok (.putfield 206, 3) := by decide +kernel
theorem dX11_commands_9 : decode cX11_commands 9 = .ok (.aload_n 0, 1) := by decide +kernel
theorem dX11_commands_10 : decode cX11_commands 10 = .ok (.iconst (-1), 1) := by decide +kernel
theorem dX11_commands_11 : decode cX11_commands 11 = .ok (.putfield 38, 3) := by decide +kernel
theorem dX11_commands_14 : decode cX11_commands 14 = .ok (.aload_n 0, 1) := by decide +kernel
theorem dX11_commands_15 : decode cX11_commands 15 = .ok (.invokevirtual 230, 3) := by decide +kernel
theorem dX11_commands_18 : decode cX11_commands 18 = .ok (.istore_n 1, 1) := by decide +kernel
theorem dX11_commands_19 : decode cX11_commands 19 = .ok (.iload_n 1, 1) := by decide +kernel
theorem dX11_commands_20 : decode cX11_commands 20 = .ok (.ifCond .eq 39, 3) := by decide +kernel
theorem dX11_commands_23 : decode cX11_commands 23 = .ok (.aload_n 0, 1) := by decide +kernel
theorem dX11_commands_24 : decode cX11_commands 24 = .ok (.getfield 206, 3) := by decide +kernel
theorem dX11_commands_27 : decode cX11_commands 27 = .ok (.aload_n 0, 1) := by decide +kernel
theorem dX11_commands_28 : decode cX11_commands 28 = .ok (.getfield 203, 3) := by decide +kernel
theorem dX11_commands_31 : decode cX11_commands 31 = .ok (.if_icmp .ge 28, 3) := by decide +kernel
theorem dX11_commands_34 : decode cX11_commands 34 = .ok (.aload_n 0, 1) := by decide +kernel
theorem dX11_commands_35 : decode cX11_commands 35 = .ok (.bipush 59, 2) := by decide +kernel
theorem dX11_commands_37 : decode cX11_commands 37 = .ok (.invokevirtual 209, 3) := by decide +kernel
theorem dX11_commands_40 : decode cX11_commands 40 = .ok (.ifCond .eq 14, 3) := by decide +kernel
theorem dX11_commands_43 : decode cX11_commands 43 = .ok (.aload_n 0, 1) := by decide +kernel
theorem dX11_commands_44 : decode cX11_commands 44 = .ok (.invokevirtual 230, 3) := by decide +kernel
theorem dX11_commands_47 : decode cX11_commands 47 = .ok (.ifCond .eq 7, 3) := by decide +kernel
theorem dX11_commands_50 : decode cX11_commands 50 = .ok (.iconst 1, 1) := by decide +kernel
theorem dX11_commands_51 : decode cX11_commands 51 = .ok (.goto 4, 3) := by decide +kernel
theorem dX11_commands_54 : decode cX11_commands 54 = .ok (.iconst 0, 1) := by decide +kernel
theorem dX11_commands_55 : decode cX11_commands 55 = .ok (.istore_n 1, 1) := by decide +kernel
theorem dX11_commands_56 : decode cX11_commands 56 = .ok (.goto (-37), 3) := by decide +kernel
theorem dX11_commands_59 : decode cX11_commands 59 = .ok (.iload_n 1, 1) := by decide +kernel
theorem dX11_commands_60 : decode cX11_commands 60 = .ok (.ifCond .ne 22, 3) := by decide +kernel
theorem dX11_commands_63 : decode cX11_commands 63 = .ok (.aload_n 0, 1) := by decide +kernel
theorem dX11_commands_64 : decode cX11_commands 64 = .ok (.aload_n 0, 1) := by decide +kernel
theorem dX11_commands_65 : decode cX11_commands 65 = .ok (.getfield 206, 3) := by decide +kernel
theorem dX11_commands_68 : decode cX11_commands 68 = .ok (.putfield 38, 3) := by decide +kernel
theorem dX11_commands_71 : decode cX11_commands 71 = .ok (.aload_n 0, 1) := by decide +kernel
theorem dX11_commands_72 : decode cX11_commands 72 = .ok (.iconst 0, 1) := by decide +kernel
theorem dX11_commands_73 : decode cX11_commands 73 = .ok (.putfield 203, 3) := by decide +kernel
theorem dX11_commands_76 : decode cX11_commands 76 = .ok (.aload_n 0, 1) := by decide +kernel
theorem dX11_commands_77 : decode cX11_commands 77 = .ok (.iconst 1, 1) := by decide +kernel
theorem dX11_commands_78 : decode cX11_commands 78 = .ok (.invokevirtual 64, 3) := by decide +kernel
theorem dX11_commands_81 : decode cX11_commands 81 = .ok (.ireturn, 1) := by decide +kernel
theorem dX11_commands_82 : decode cX11_commands 82 = .ok (.aload_n 0, 1) := by decide +kernel
theorem dX11_commands_83 : decode cX11_commands 83 = .ok (.iconst 0, 1) := by decide +kernel
theorem dX11_commands_84 : decode cX11_commands 84 = .ok (.putfield 206, 3) := by decide +kernel
theorem dX11_commands_87 : decode cX11_commands 87 = .ok (.iconst 0, 1) := by decide +kernel
theorem dX11_commands_88 : decode cX11_commands 88 = .ok (.istore_n 2, 1) := by decide +kernel
theorem dX11_commands_89 : decode cX11_commands 89 = .ok (.iconst 1, 1) := by decide +kernel
theorem dX11_commands_90 : decode cX11_commands 90 = .ok (.istore_n 3, 1) := by decide +kernel
theorem dX11_commands_91 : decode cX11_commands 91 = .ok (.iconst 1, 1) := by decide +kernel
theorem dX11_commands_92 : decode cX11_commands 92 = .ok (.istore 4, 2) := by decide +kernel
theorem dX11_commands_94 : decode cX11_commands 94 = .ok (.iload 4, 2) := by decide +kernel
theorem dX11_commands_96 : decode cX11_commands 96 = .ok (.ifCond .eq 43, 3) := by decide +kernel
theorem dX11_commands_99 : decode cX11_commands 99 = .ok (.aload_n 0, 1) := by decide +kernel
theorem dX11_commands_100 : decode cX11_commands 100 = .ok (.invokevirtual 230, 3) := by decide +kernel
theorem dX11_commands_103 : decode cX11_commands 103 = .ok (.istore_n 1, 1) := by decide +kernel
theorem dX11_commands_104 : decode cX11_commands 104 = .ok (.aload_n 0, 1) := by decide +kernel
theorem dX11_commands_105 : decode cX11_commands 105 = .ok (.invokevirtual 233, 3) := by decide +kernel
theorem dX11_commands_108 : decode cX11_commands 108 = .ok (.istore_n 3, 1) := by decide +kernel
theorem dX11_commands_109 : decode cX11_commands 109 = .ok (.iload_n 3, 1) := by decide +kernel
theorem dX11_commands_110 : decode cX11_commands 110 = .ok (.ifCond .eq 6, 3) := by decide +kernel
theorem dX11_commands_113 : decode cX11_commands 113 = .ok (.iinc 2 1, 3) := by decide +kernel
theorem dX11_commands_116 : decode cX11_commands 116 = .ok (.iload_n 3, 1) := by decide +kernel
theorem dX11_commands_117 : decode cX11_commands 117 = .ok (.ifCond .eq 16, 3) := by decide +kernel
theorem dX11_commands_120 : decode cX11_commands 120 = .ok (.aload_n 0, 1) := by decide +kernel
theorem dX11_commands_121 : decode cX11_commands 121 = .ok (.bipush 59, 2) := by decide +kernel
theorem dX11_commands_123 : decode cX11_commands 123 = .ok (.invokevirtual 209, 3) := by decide +kernel
theorem dX11_commands_126 : decode cX11_commands 126 = .ok (.ifCond .eq 7, 3) := by decide +kernel
theorem dX11_commands_129 : decode cX11_commands 129 = .ok (.iconst 1, 1) := by decide +kernel
theorem dX11_commands_130 : decode cX11_commands 130 = .ok (.goto 4, 3) := by decide +kernel
theorem dX11_commands_133 : decode cX11_commands 133 = .ok (.iconst 0, 1) := by decide +kernel
theorem dX11_commands_134 : decode cX11_commands 134 = .ok (.istore 4, 2) := by decide +kernel
theorem dX11_commands_136 : decode cX11_commands 136 = .ok (.goto (-42), 3) := by decide +kernel
theorem dX11_commands_139 : decode cX11_commands 139 = .ok (.aload_n 0, 1) := by decide +kernel
theorem dX11_commands_140 : decode cX11_commands 140 = .ok (.iconst 0, 1) := by decide +kernel
theorem dX11_commands_141 : decode cX11_commands 141 = .ok (.putfield 203, 3) := by decide +kernel
theorem dX11_commands_144 : decode cX11_commands 144 = .ok (.iload_n 3, 1) := by decide +kernel
theorem dX11_commands_145 : decode cX11_commands 145 = .ok (.ifCond .eq 9, 3) := by decide +kernel
theorem dX11_commands_148 : decode cX11_commands 148 = .ok (.aload_n 0, 1) := by decide +kernel
theorem dX11_commands_149 : decode cX11_commands 149 = .ok (.iload_n 2, 1) := by decide +kernel
theorem dX11_commands_150 : decode cX11_commands 150 = .ok (.invokevirtual 60, 3) := by decide +kernel
theorem dX11_commands_153 : decode cX11_commands 153 = .ok (.ireturn, 1) := by decide +kernel
theorem dX11_commands_154 : decode cX11_commands 154 = .ok (.aload_n 0, 1) := by decide +kernel
theorem dX11_commands_155 : decode cX11_commands 155 = .ok (.iload_n 2, 1) := by decide +kernel
theorem dX11_commands_156 : decode cX11_commands 156 = .ok (.putfield 57, 3) := by decide +kernel
theorem dX11_commands_159 : decode cX11_commands 159 = .ok (.iconst 0, 1) := by decide +kernel
theorem dX11_commands_160 : decode cX11_commands 160 = .ok (.istore 5, 2) := by decide +kernel
theorem dX11_commands_162 : decode cX11_commands 162 = .ok (.iload 5, 2) := by decide +kernel
theorem dX11_commands_164 : decode cX11_commands 164 = .ok (.bipush 96, 2) := by decide +kernel
theorem dX11_commands_166 : decode cX11_commands 166 = .ok (.if_icmp .ge 23, 3) := by decide +kernel
theorem dX11_commands_169 : decode cX11_commands 169 = .ok (.aload_n 0, 1) := by decide +kernel
theorem dX11_commands_170 : decode cX11_commands 170 = .ok (.getfield 9, 3) := by decide +kernel
theorem dX11_commands_173 : decode cX11_commands 173 = .ok (.iload 5, 2) := by decide +kernel
theorem dX11_commands_175 : decode cX11_commands 175 = .ok (.aload_n 0, 1) := by decide +kernel
theorem dX11_commands_176 : decode cX11_commands 176 = .ok (.getfield 13, 3) := by decide +kernel
theorem dX11_commands_179 : decode cX11_commands 179 = .ok (.iload 5, 2) := by decide +kernel
theorem dX11_commands_181 : decode cX11_commands 181 = .ok (.iaload, 1) := by decide +kernel
theorem dX11_commands_182 : decode cX11_commands 182 = .ok (.iastore, 1) := by decide +kernel
theorem dX11_commands_183 : decode cX11_commands 183 = .ok (.iinc 5 1, 3) := by decide +kernel
theorem dX11_commands_186 : decode cX11_commands 186 = .ok (.goto (-24), 3) := by decide +kernel
theorem dX11_commands_189 : decode cX11_commands 189 = .ok (.aload_n 0, 1) := by decide +kernel
theorem dX11_commands_190 : decode cX11_commands 190 = .ok (.iconst 2, 1) := by decide +kernel
theorem dX11_commands_191 : decode cX11_commands 191 = .ok (.invokevirtual 64, 3) := by decide +kernel
theorem dX11_commands_194 : decode cX11_commands 194 = .ok (.ireturn, 1) := by decide +kernel
theorem dX11_faultPosition_0 : decode cX11_faultPosition 0 = .ok (.aload_n 0, 1) := by decide +kernel
theorem dX11_faultPosition_1 : decode cX11_faultPosition 1 = .ok (.iconst 0, 1) := by decide +kernel
theorem dX11_faultPosition_2 : decode cX11_faultPosition 2 = .ok (.putfield 42, 3) := by decide +kernel
theorem dX11_faultPosition_5 : decode cX11_faultPosition 5 = .ok (.aload_n 0, 1) := by decide +kernel
theorem dX11_faultPosition_6 : decode cX11_faultPosition 6 = .ok (.getfield 38, 3) := by decide +kernel
theorem dX11_faultPosition_9 : decode cX11_faultPosition 9 = .ok (.ireturn, 1) := by decide +kernel
theorem dX11_reason_0 : decode cX11_reason 0 = .ok (.aload_n 0, 1) := by decide +kernel
theorem dX11_reason_1 : decode cX11_reason 1 = .ok (.iconst 0, 1) := by decide +kernel
theorem dX11_reason_2 : decode cX11_reason 2 = .ok (.putfield 42, 3) := by decide +kernel
theorem dX11_reason_5 : decode cX11_reason 5 = .ok (.iload_n 1, 1) := by decide +kernel
theorem dX11_reason_6 : decode cX11_reason 6 = .ok (.iconst 0, 1) := by decide +kernel
theorem dX11_reason_7 : decode cX11_reason 7 = .ok (.iconst 2, 1) := by decide +kernel
theorem dX11_reason_8 : decode cX11_reason 8 = .ok (.invokestatic 67, 3) := by decide +kernel
theorem dX11_reason_11 : decode cX11_reason 11 = .ok (.ifCond .ne 9, 3) := by decide +kernel
theorem dX11_reason_14 : decode cX11_reason 14 = .ok (.aload_n 0, 1) := by decide +kernel
theorem dX11_reason_15 : decode cX11_reason 15 = .ok (.iconst 1, 1) := by decide +kernel
theorem dX11_reason_16 : decode cX11_reason 16 = .ok (.invokevirtual 64, 3) := by decide +kernel
theorem dX11_reason_19 : decode cX11_reason 19 = .ok (.ireturn, 1) := by decide +kernel
theorem dX11_reason_20 : decode cX11_reason 20 = .ok (.aload_n 0, 1) := by decide +kernel
theorem dX11_reason_21 : decode cX11_reason 21 = .ok (.getfield 51, 3) := by decide +kernel
theorem dX11_reason_24 : decode cX11_reason 24 = .ok (.ifCond .ne 9, 3) := by decide +kernel
theorem dX11_reason_27 : decode cX11_reason 27 = .ok (.aload_n 0, 1) := by decide +kernel
theorem dX11_reason_28 : decode cX11_reason 28 = .ok (.iconst 2, 1) := by decide +kernel
theorem dX11_reason_29 : decode cX11_reason 29 = .ok (.invokevirtual 64, 3) := by decide +kernel
theorem dX11_reason_32 : decode cX11_reason 32 = .ok (.ireturn, 1) := by decide +kernel
theorem dX11_reason_33 : decode cX11_reason 33 = .ok (.iload_n 1, 1) := by decide +kernel
theorem dX11_reason_34 : decode cX11_reason 34 = .ok (.ifCond .ne 10, 3) := by decide +kernel
theorem dX11_reason_37 : decode cX11_reason 37 = .ok (.aload_n 0, 1) := by decide +kernel
theorem dX11_reason_38 : decode cX11_reason 38 = .ok (.getfield 51, 3) := by decide +kernel
theorem dX11_reason_41 : decode cX11_reason 41 = .ok (.goto 19, 3) := by decide +kernel
theorem dX11_reason_44 : decode cX11_reason 44 = .ok (.iload_n 1, 1) := by decide +kernel
theorem dX11_reason_45 : decode cX11_reason 45 = .ok (.iconst 1, 1) := by decide +kernel
theorem dX11_reason_46 : decode cX11_reason 46 = .ok (.if_icmp .ne 10, 3) := by decide +kernel
theorem dX11_reason_49 : decode cX11_reason 49 = .ok (.aload_n 0, 1) := by decide +kernel
theorem dX11_reason_50 : decode cX11_reason 50 = .ok (.getfield 54, 3) := by decide +kernel
theorem dX11_reason_53 : decode cX11_reason 53 = .ok (.goto 7, 3) := by decide +kernel
theorem dX11_reason_56 : decode cX11_reason 56 = .ok (.aload_n 0, 1) := by decide +kernel
theorem dX11_reason_57 : decode cX11_reason 57 = .ok (.getfield 57, 3) := by decide +kernel
theorem dX11_reason_60 : decode cX11_reason 60 = .ok (.ireturn, 1) := by decide +kernel
theorem dX11_signs_0 : decode cX11_signs 0 = .ok (.aload_n 0, 1) := by decide +kernel
theorem dX11_signs_1 : decode cX11_signs 1 = .ok (.getfield 28, 3) := by decide +kernel
theorem dX11_signs_4 : decode cX11_signs 4 = .ok (.aload_n 0, 1) := by decide +kernel
theorem dX11_signs_5 : decode cX11_signs 5 = .ok (.dup, 1) := by decide +kernel
theorem dX11_signs_6 : decode cX11_signs 6 = .ok (.getfield 236, 3) := by decide +kernel
theorem dX11_signs_9 : decode cX11_signs 9 = .ok (.dup_x1, 1) := by decide +kernel
theorem dX11_signs_10 : decode cX11_signs 10 = .ok (.iconst 1, 1) := by decide +kernel
theorem dX11_signs_11 : decode cX11_signs 11 = .ok (.iadd, 1) := by decide +kernel
theorem dX11_signs_12 : decode cX11_signs 12 = .ok (.putfield 236, 3) := by decide +kernel
theorem dX11_signs_15 : decode cX11_signs 15 = .ok (.iload_n 1, 1) := by decide +kernel
theorem dX11_signs_16 : decode cX11_signs 16 = .ok (.castore, 1) := by decide +kernel
theorem dX11_signs_17 : decode cX11_signs 17 = .ok (.return_, 1) := by decide +kernel
theorem dX11_writes_0 : decode cX11_writes 0 = .ok (.iload_n 1, 1) := by decide +kernel
theorem dX11_writes_1 : decode cX11_writes 1 = .ok (.bipush 9, 2) := by decide +kernel
theorem dX11_writes_3 : decode cX11_writes 3 = .ok (.if_icmp .le 11, 3) := by decide +kernel
theorem dX11_writes_6 : decode cX11_writes 6 = .ok (.aload_n 0, 1) := by decide +kernel
theorem dX11_writes_7 : decode cX11_writes 7 = .ok (.iload_n 1, 1) := by decide +kernel
theorem dX11_writes_8 : decode cX11_writes 8 = .ok (.bipush 10, 2) := by decide +kernel
theorem dX11_writes_10 : decode cX11_writes 10 = .ok (.idiv, 1) := by decide +kernel
theorem dX11_writes_11 : decode cX11_writes 11 = .ok (.invokevirtual 239, 3) := by decide +kernel
theorem dX11_writes_14 : decode cX11_writes 14 = .ok (.aload_n 0, 1) := by decide +kernel
theorem dX11_writes_15 : decode cX11_writes 15 = .ok (.bipush 48, 2) := by decide +kernel
theorem dX11_writes_17 : decode cX11_writes 17 = .ok (.iload_n 1, 1) := by decide +kernel
theorem dX11_writes_18 : decode cX11_writes 18 = .ok (.bipush 10, 2) := by decide +kernel
theorem dX11_writes_20 : decode cX11_writes 20 = .ok (.irem, 1) := by decide +kernel
theorem dX11_writes_21 : decode cX11_writes 21 = .ok (.iadd, 1) := by decide +kernel
theorem dX11_writes_22 : decode cX11_writes 22 = .ok (.i2c, 1) := by decide +kernel
theorem dX11_writes_23 : decode cX11_writes 23 = .ok (.invokevirtual 242, 3) := by decide +kernel
theorem dX11_writes_26 : decode cX11_writes 26 = .ok (.return_, 1) := by decide +kernel
theorem dX11_writes__0 : decode cX11_writes_ 0 = .ok (.aload_n 0, 1) := by decide +kernel
theorem dX11_writes__1 : decode cX11_writes_ 1 = .ok (.iload_n 1, 1) := by decide +kernel
theorem dX11_writes__2 : decode cX11_writes_ 2 = .ok (.invokevirtual 242, 3) := by decide +kernel
theorem dX11_writes__5 : decode cX11_writes_ 5 = .ok (.aload_n 0, 1) := by decide +kernel
theorem dX11_writes__6 : decode cX11_writes_ 6 = .ok (.iload_n 2, 1) := by decide +kernel
theorem dX11_writes__7 : decode cX11_writes_ 7 = .ok (.invokevirtual 239, 3) := by decide +kernel
theorem dX11_writes__10 : decode cX11_writes_ 10 = .ok (.return_, 1) := by decide +kernel
theorem dX11_line_0 : decode cX11_line 0 = .ok (.aload_n 0, 1) := by decide +kernel
theorem dX11_line_1 : decode cX11_line 1 = .ok (.aload_n 0, 1) := by decide +kernel
theorem dX11_line_2 : decode cX11_line 2 = .ok (.iload_n 1, 1) := by decide +kernel
theorem dX11_line_3 : decode cX11_line 3 = .ok (.invokevirtual 71, 3) := by decide +kernel
theorem dX11_line_6 : decode cX11_line 6 = .ok (.ifCond .eq 7, 3) := by decide +kernel
theorem dX11_line_9 : decode cX11_line 9 = .ok (.iconst 0, 1) := by decide +kernel
theorem dX11_line_10 : decode cX11_line 10 = .ok (.goto 4, 3) := by decide +kernel
theorem dX11_line_13 : decode cX11_line 13 = .ok (.iconst 1, 1) := by decide +kernel
theorem dX11_line_14 : decode cX11_line 14 = .ok (.putfield 42, 3) := by decide +kernel
theorem dX11_line_17 : decode cX11_line 17 = .ok (.aload_n 0, 1) := by decide +kernel
theorem dX11_line_18 : decode cX11_line 18 = .ok (.getfield 42, 3) := by decide +kernel
theorem dX11_line_21 : decode cX11_line 21 = .ok (.ifCond .le 5, 3) := by decide +kernel
theorem dX11_line_24 : decode cX11_line 24 = .ok (.iconst 0, 1) := by decide +kernel
theorem dX11_line_25 : decode cX11_line 25 = .ok (.ireturn, 1) := by decide +kernel
theorem dX11_line_26 : decode cX11_line 26 = .ok (.aload_n 0, 1) := by decide +kernel
theorem dX11_line_27 : decode cX11_line 27 = .ok (.iconst 0, 1) := by decide +kernel
theorem dX11_line_28 : decode cX11_line 28 = .ok (.putfield 236, 3) := by decide +kernel
theorem dX11_line_31 : decode cX11_line 31 = .ok (.aload_n 0, 1) := by decide +kernel
theorem dX11_line_32 : decode cX11_line 32 = .ok (.aload_n 0, 1) := by decide +kernel
theorem dX11_line_33 : decode cX11_line 33 = .ok (.iload_n 1, 1) := by decide +kernel
theorem dX11_line_34 : decode cX11_line 34 = .ok (.iconst 2, 1) := by decide +kernel
theorem dX11_line_35 : decode cX11_line 35 = .ok (.invokevirtual 83, 3) := by decide +kernel
theorem dX11_line_38 : decode cX11_line 38 = .ok (.iconst 1, 1) := by decide +kernel
theorem dX11_line_39 : decode cX11_line 39 = .ok (.if_icmp .ne 8, 3) := by decide +kernel
theorem dX11_line_42 : decode cX11_line 42 = .ok (.bipush 115, 2) := by decide +kernel
theorem dX11_line_44 : decode cX11_line 44 = .ok (.goto 5, 3) := by decide +kernel
theorem dX11_line_47 : decode cX11_line 47 = .ok (.bipush 111, 2) := by decide +kernel
theorem dX11_line_49 : decode cX11_line 49 = .ok (.invokevirtual 242, 3) := by decide +kernel
theorem dX11_line_52 : decode cX11_line 52 = .ok (.aload_n 0, 1) := by decide +kernel
theorem dX11_line_53 : decode cX11_line 53 = .ok (.iload_n 1, 1) := by decide +kernel
theorem dX11_line_54 : decode cX11_line 54 = .ok (.iconst 0, 1) := by decide +kernel
theorem dX11_line_55 : decode cX11_line 55 = .ok (.invokevirtual 83, 3) := by decide +kernel
theorem dX11_line_58 : decode cX11_line 58 = .ok (.ifCond .eq 23, 3) := by decide +kernel
theorem dX11_line_61 : decode cX11_line 61 = .ok (.aload_n 0, 1) := by decide +kernel
theorem dX11_line_62 : decode cX11_line 62 = .ok (.aload_n 0, 1) := by decide +kernel
theorem dX11_line_63 : decode cX11_line 63 = .ok (.iload_n 1, 1) := by decide +kernel
theorem dX11_line_64 : decode cX11_line 64 = .ok (.iconst 0, 1) := by decide +kernel
theorem dX11_line_65 : decode cX11_line 65 = .ok (.invokevirtual 83, 3) := by decide +kernel
theorem dX11_line_68 : decode cX11_line 68 = .ok (.ifCond .ge 8, 3) := by decide +kernel
theorem dX11_line_71 : decode cX11_line 71 = .ok (.bipush 45, 2) := by decide +kernel
theorem dX11_line_73 : decode cX11_line 73 = .ok (.goto 5, 3) := by decide +kernel
theorem dX11_line_76 : decode cX11_line 76 = .ok (.bipush 43, 2) := by decide +kernel
theorem dX11_line_78 : decode cX11_line 78 = .ok (.invokevirtual 242, 3) := by decide +kernel
theorem dX11_line_81 : decode cX11_line 81 = .ok (.aload_n 0, 1) := by decide +kernel
theorem dX11_line_82 : decode cX11_line 82 = .ok (.aload_n 0, 1) := by decide +kernel
theorem dX11_line_83 : decode cX11_line 83 = .ok (.iload_n 1, 1) := by decide +kernel
theorem dX11_line_84 : decode cX11_line 84 = .ok (.iconst 0, 1) := by decide +kernel
theorem dX11_line_85 : decode cX11_line 85 = .ok (.invokevirtual 83, 3) := by decide +kernel
theorem dX11_line_88 : decode cX11_line 88 = .ok (.invokestatic 86, 3) := by decide +kernel
theorem dX11_line_91 : decode cX11_line 91 = .ok (.invokevirtual 239, 3) := by decide +kernel
theorem dX11_line_94 : decode cX11_line 94 = .ok (.aload_n 0, 1) := by decide +kernel
theorem dX11_line_95 : decode cX11_line 95 = .ok (.bipush 35, 2) := by decide +kernel
theorem dX11_line_97 : decode cX11_line 97 = .ok (.aload_n 0, 1) := by decide +kernel
theorem dX11_line_98 : decode cX11_line 98 = .ok (.iload_n 1, 1) := by decide +kernel
theorem dX11_line_99 : decode cX11_line 99 = .ok (.iconst 1, 1) := by decide +kernel
theorem dX11_line_100 : decode cX11_line 100 = .ok (.invokevirtual 83, 3) := by decide +kernel
theorem dX11_line_103 : decode cX11_line 103 = .ok (.invokevirtual 246, 3) := by decide +kernel
theorem dX11_line_106 : decode cX11_line 106 = .ok (.iconst 0, 1) := by decide +kernel
theorem dX11_line_107 : decode cX11_line 107 = .ok (.istore_n 2, 1) := by decide +kernel
theorem dX11_line_108 : decode cX11_line 108 = .ok (.iload_n 2, 1) := by decide +kernel
theorem dX11_line_109 : decode cX11_line 109 = .ok (.aload_n 0, 1) := by decide +kernel
theorem dX11_line_110 : decode cX11_line 110 = .ok (.getfield 9, 3) := by decide +kernel
theorem dX11_line_113 : decode cX11_line 113 = .ok (.iconst 0, 1) := by decide +kernel
theorem dX11_line_114 : decode cX11_line 114 = .ok (.iaload, 1) := by decide +kernel
theorem dX11_line_115 : decode cX11_line 115 = .ok (.if_icmp .ge 40, 3) := by decide +kernel
theorem dX11_line_118 : decode cX11_line 118 = .ok (.aload_n 0, 1) := by decide +kernel
theorem dX11_line_119 : decode cX11_line 119 = .ok (.iload_n 1, 1) := by decide +kernel
theorem dX11_line_120 : decode cX11_line 120 = .ok (.iload_n 2, 1) := by decide +kernel
theorem dX11_line_121 : decode cX11_line 121 = .ok (.invokevirtual 91, 3) := by decide +kernel
theorem dX11_line_124 : decode cX11_line 124 = .ok (.ifCond .ne 6, 3) := by decide +kernel
theorem dX11_line_127 : decode cX11_line 127 = .ok (.goto 22, 3) := by decide +kernel
theorem dX11_line_130 : decode cX11_line 130 = .ok (.aload_n 0, 1) := by decide +kernel
theorem dX11_line_131 : decode cX11_line 131 = .ok (.bipush 32, 2) := by decide +kernel
theorem dX11_line_133 : decode cX11_line 133 = .ok (.iload_n 2, 1) := by decide +kernel
theorem dX11_line_134 : decode cX11_line 134 = .ok (.invokevirtual 246, 3) := by decide +kernel
theorem dX11_line_137 : decode cX11_line 137 = .ok (.aload_n 0, 1) := by decide +kernel
theorem dX11_line_138 : decode cX11_line 138 = .ok (.bipush 42, 2) := by decide +kernel
theorem dX11_line_140 : decode cX11_line 140 = .ok (.aload_n 0, 1) := by decide +kernel
theorem dX11_line_141 : decode cX11_line 141 = .ok (.iload_n 1, 1) := by decide +kernel
theorem dX11_line_142 : decode cX11_line 142 = .ok (.iload_n 2, 1) := by decide +kernel
theorem dX11_line_143 : decode cX11_line 143 = .ok (.invokevirtual 91, 3) := by decide +kernel
theorem dX11_line_146 : decode cX11_line 146 = .ok (.invokevirtual 246, 3) := by decide +kernel
theorem dX11_line_149 : decode cX11_line 149 = .ok (.iinc 2 1, 3) := by decide +kernel
theorem dX11_line_152 : decode cX11_line 152 = .ok (.goto (-44), 3) := by decide +kernel
theorem dX11_line_155 : decode cX11_line 155 = .ok (.aload_n 0, 1) := by decide +kernel
theorem dX11_line_156 : decode cX11_line 156 = .ok (.getfield 236, 3) := by decide +kernel
theorem dX11_line_159 : decode cX11_line 159 = .ok (.ireturn, 1) := by decide +kernel
theorem dX11_beams_0 : decode cX11_beams 0 = .ok (.aload_n 0, 1) := by decide +kernel
theorem dX11_beams_1 : decode cX11_beams 1 = .ok (.iconst 0, 1) := by decide +kernel
theorem dX11_beams_2 : decode cX11_beams 2 = .ok (.putfield 42, 3) := by decide +kernel
theorem dX11_beams_5 : decode cX11_beams 5 = .ok (.aload_n 0, 1) := by decide +kernel
theorem dX11_beams_6 : decode cX11_beams 6 = .ok (.iconst 0, 1) := by decide +kernel
theorem dX11_beams_7 : decode cX11_beams 7 = .ok (.putfield 236, 3) := by decide +kernel
theorem dX11_beams_10 : decode cX11_beams 10 = .ok (.iconst 0, 1) := by decide +kernel
theorem dX11_beams_11 : decode cX11_beams 11 = .ok (.istore_n 1, 1) := by decide +kernel
theorem dX11_beams_12 : decode cX11_beams 12 = .ok (.iload_n 1, 1) := by decide +kernel
theorem dX11_beams_13 : decode cX11_beams 13 = .ok (.aload_n 0, 1) := by decide +kernel
theorem dX11_beams_14 : decode cX11_beams 14 = .ok (.getfield 9, 3) := by decide +kernel
theorem dX11_beams_17 : decode cX11_beams 17 = .ok (.iconst 1, 1) := by decide +kernel
theorem dX11_beams_18 : decode cX11_beams 18 = .ok (.iaload, 1) := by decide +kernel
theorem dX11_beams_19 : decode cX11_beams 19 = .ok (.if_icmp .ge 77, 3) := by decide +kernel
theorem dX11_beams_22 : decode cX11_beams 22 = .ok (.iload_n 1, 1) := by decide +kernel
theorem dX11_beams_23 : decode cX11_beams 23 = .ok (.ifCond .le 9, 3) := by decide +kernel
theorem dX11_beams_26 : decode cX11_beams 26 = .ok (.aload_n 0, 1) := by decide +kernel
theorem dX11_beams_27 : decode cX11_beams 27 = .ok (.bipush 32, 2) := by decide +kernel
theorem dX11_beams_29 : decode cX11_beams 29 = .ok (.invokevirtual 242, 3) := by decide +kernel
theorem dX11_beams_32 : decode cX11_beams 32 = .ok (.aload_n 0, 1) := by decide +kernel
theorem dX11_beams_33 : decode cX11_beams 33 = .ok (.aload_n 0, 1) := by decide +kernel
theorem dX11_beams_34 : decode cX11_beams 34 = .ok (.iload_n 1, 1) := by decide +kernel
theorem dX11_beams_35 : decode cX11_beams 35 = .ok (.iconst 0, 1) := by decide +kernel
theorem dX11_beams_36 : decode cX11_beams 36 = .ok (.invokevirtual 79, 3) := by decide +kernel
theorem dX11_beams_39 : decode cX11_beams 39 = .ok (.invokevirtual 239, 3) := by decide +kernel
theorem dX11_beams_42 : decode cX11_beams 42 = .ok (.aload_n 0, 1) := by decide +kernel
theorem dX11_beams_43 : decode cX11_beams 43 = .ok (.bipush 45, 2) := by decide +kernel
theorem dX11_beams_45 : decode cX11_beams 45 = .ok (.aload_n 0, 1) := by decide +kernel
theorem dX11_beams_46 : decode cX11_beams 46 = .ok (.iload_n 1, 1) := by decide +kernel
theorem dX11_beams_47 : decode cX11_beams 47 = .ok (.iconst 1, 1) := by decide +kernel
theorem dX11_beams_48 : decode cX11_beams 48 = .ok (.invokevirtual 79, 3) := by decide +kernel
theorem dX11_beams_51 : decode cX11_beams 51 = .ok (.invokevirtual 246, 3) := by decide +kernel
theorem dX11_beams_54 : decode cX11_beams 54 = .ok (.aload_n 0, 1) := by decide +kernel
theorem dX11_beams_55 : decode cX11_beams 55 = .ok (.bipush 60, 2) := by decide +kernel
theorem dX11_beams_57 : decode cX11_beams 57 = .ok (.aload_n 0, 1) := by decide +kernel
theorem dX11_beams_58 : decode cX11_beams 58 = .ok (.iload_n 1, 1) := by decide +kernel
theorem dX11_beams_59 : decode cX11_beams 59 = .ok (.iconst 2, 1) := by decide +kernel
theorem dX11_beams_60 : decode cX11_beams 60 = .ok (.invokevirtual 79, 3) := by decide +kernel
theorem dX11_beams_63 : decode cX11_beams 63 = .ok (.invokevirtual 246, 3) := by decide +kernel
theorem dX11_beams_66 : decode cX11_beams 66 = .ok (.iconst 0, 1) := by decide +kernel
theorem dX11_beams_67 : decode cX11_beams 67 = .ok (.istore_n 2, 1) := by decide +kernel
theorem dX11_beams_68 : decode cX11_beams 68 = .ok (.iload_n 2, 1) := by decide +kernel
theorem dX11_beams_69 : decode cX11_beams 69 = .ok (.aload_n 0, 1) := by decide +kernel
theorem dX11_beams_70 : decode cX11_beams 70 = .ok (.iload_n 1, 1) := by decide +kernel
theorem dX11_beams_71 : decode cX11_beams 71 = .ok (.iconst 3, 1) := by decide +kernel
theorem dX11_beams_72 : decode cX11_beams 72 = .ok (.invokevirtual 79, 3) := by decide +kernel
theorem dX11_beams_75 : decode cX11_beams 75 = .ok (.if_icmp .ge 15, 3) := by decide +kernel
theorem dX11_beams_78 : decode cX11_beams 78 = .ok (.aload_n 0, 1) := by decide +kernel
theorem dX11_beams_79 : decode cX11_beams 79 = .ok (.bipush 33, 2) := by decide +kernel
theorem dX11_beams_81 : decode cX11_beams 81 = .ok (.invokevirtual 242, 3) := by decide +kernel
theorem dX11_beams_84 : decode cX11_beams 84 = .ok (.iinc 2 1, 3) := by decide +kernel
theorem dX11_beams_87 : decode cX11_beams 87 = .ok (.goto (-19), 3) := by decide +kernel
theorem dX11_beams_90 : decode cX11_beams 90 = .ok (.iinc 1 1, 3) := by decide +kernel
theorem dX11_beams_93 : decode cX11_beams 93 = .ok (.goto (-81), 3) := by decide +kernel
theorem dX11_beams_96 : decode cX11_beams 96 = .ok (.aload_n 0, 1) := by decide +kernel
theorem dX11_beams_97 : decode cX11_beams 97 = .ok (.getfield 236, 3) := by decide +kernel
theorem dX11_beams_100 : decode cX11_beams 100 = .ok (.ireturn, 1) := by decide +kernel
theorem dX11_character_0 : decode cX11_character 0 = .ok (.aload_n 0, 1) := by decide +kernel
theorem dX11_character_1 : decode cX11_character 1 = .ok (.iload_n 1, 1) := by decide +kernel
theorem dX11_character_2 : decode cX11_character 2 = .ok (.iconst 0, 1) := by decide +kernel
theorem dX11_character_3 : decode cX11_character 3 = .ok (.aload_n 0, 1) := by decide +kernel
theorem dX11_character_4 : decode cX11_character 4 = .ok (.getfield 236, 3) := by decide +kernel
theorem dX11_character_7 : decode cX11_character 7 = .ok (.iconst 1, 1) := by decide +kernel
theorem dX11_character_8 : decode cX11_character 8 = .ok (.isub, 1) := by decide +kernel
theorem dX11_character_9 : decode cX11_character 9 = .ok (.invokestatic 67, 3) := by decide +kernel
theorem dX11_character_12 : decode cX11_character 12 = .ok (.ifCond .eq 7, 3) := by decide +kernel
theorem dX11_character_15 : decode cX11_character 15 = .ok (.iconst 0, 1) := by decide +kernel
theorem dX11_character_16 : decode cX11_character 16 = .ok (.goto 4, 3) := by decide +kernel
theorem dX11_character_19 : decode cX11_character 19 = .ok (.iconst 1, 1) := by decide +kernel
theorem dX11_character_20 : decode cX11_character 20 = .ok (.putfield 42, 3) := by decide +kernel
theorem dX11_character_23 : decode cX11_character 23 = .ok (.aload_n 0, 1) := by decide +kernel
theorem dX11_character_24 : decode cX11_character 24 = .ok (.getfield 42, 3) := by decide +kernel
theorem dX11_character_27 : decode cX11_character 27 = .ok (.ifCond .ne 12, 3) := by decide +kernel
theorem dX11_character_30 : decode cX11_character 30 = .ok (.aload_n 0, 1) := by decide +kernel
theorem dX11_character_31 : decode cX11_character 31 = .ok (.getfield 28, 3) := by decide +kernel
theorem dX11_character_34 : decode cX11_character 34 = .ok (.iload_n 1, 1) := by decide +kernel
theorem dX11_character_35 : decode cX11_character 35 = .ok (.caload, 1) := by decide +kernel
theorem dX11_character_36 : decode cX11_character 36 = .ok (.goto 5, 3) := by decide +kernel
theorem dX11_character_39 : decode cX11_character 39 = .ok (.bipush 97, 2) := by decide +kernel
theorem dX11_character_41 : decode cX11_character 41 = .ok (.ireturn, 1) := by decide +kernel
theorem dX11_tilts_0 : decode cX11_tilts 0 = .ok (.iconst 0, 1) := by decide +kernel
theorem dX11_tilts_1 : decode cX11_tilts 1 = .ok (.istore_n 1, 1) := by decide +kernel
theorem dX11_tilts_2 : decode cX11_tilts 2 = .ok (.iconst 0, 1) := by decide +kernel
theorem dX11_tilts_3 : decode cX11_tilts 3 = .ok (.istore_n 2, 1) := by decide +kernel
theorem dX11_tilts_4 : decode cX11_tilts 4 = .ok (.iload_n 2, 1) := by decide +kernel
theorem dX11_tilts_5 : decode cX11_tilts 5 = .ok (.aload_n 0, 1) := by decide +kernel
theorem dX11_tilts_6 : decode cX11_tilts 6 = .ok (.getfield 9, 3) := by decide +kernel
theorem dX11_tilts_9 : decode cX11_tilts 9 = .ok (.iconst 0, 1) := by decide +kernel
theorem dX11_tilts_10 : decode cX11_tilts 10 = .ok (.iaload, 1) := by decide +kernel
theorem dX11_tilts_11 : decode cX11_tilts 11 = .ok (.if_icmp .ge 18, 3) := by decide +kernel
theorem dX11_tilts_14 : decode cX11_tilts 14 = .ok (.iload_n 1, 1) := by decide +kernel
theorem dX11_tilts_15 : decode cX11_tilts 15 = .ok (.aload_n 0, 1) := by decide +kernel
theorem dX11_tilts_16 : decode cX11_tilts 16 = .ok (.iload_n 2, 1) := by decide +kernel
theorem dX11_tilts_17 : decode cX11_tilts 17 = .ok (.iconst 0, 1) := by decide +kernel
theorem dX11_tilts_18 : decode cX11_tilts 18 = .ok (.invokevirtual 83, 3) := by decide +kernel
theorem dX11_tilts_21 : decode cX11_tilts 21 = .ok (.iadd, 1) := by decide +kernel
theorem dX11_tilts_22 : decode cX11_tilts 22 = .ok (.istore_n 1, 1) := by decide +kernel
theorem dX11_tilts_23 : decode cX11_tilts 23 = .ok (.iinc 2 1, 3) := by decide +kernel
theorem dX11_tilts_26 : decode cX11_tilts 26 = .ok (.goto (-22), 3) := by decide +kernel
theorem dX11_tilts_29 : decode cX11_tilts 29 = .ok (.iload_n 1, 1) := by decide +kernel
theorem dX11_tilts_30 : decode cX11_tilts 30 = .ok (.ireturn, 1) := by decide +kernel
theorem dX11_plumb_0 : decode cX11_plumb 0 = .ok (.iconst 0, 1) := by decide +kernel
theorem dX11_plumb_1 : decode cX11_plumb 1 = .ok (.istore_n 1, 1) := by decide +kernel
theorem dX11_plumb_2 : decode cX11_plumb 2 = .ok (.iconst 0, 1) := by decide +kernel
theorem dX11_plumb_3 : decode cX11_plumb 3 = .ok (.istore_n 2, 1) := by decide +kernel
theorem dX11_plumb_4 : decode cX11_plumb 4 = .ok (.iload_n 2, 1) := by decide +kernel
theorem dX11_plumb_5 : decode cX11_plumb 5 = .ok (.aload_n 0, 1) := by decide +kernel
theorem dX11_plumb_6 : decode cX11_plumb 6 = .ok (.getfield 9, 3) := by decide +kernel
theorem dX11_plumb_9 : decode cX11_plumb 9 = .ok (.iconst 0, 1) := by decide +kernel
theorem dX11_plumb_10 : decode cX11_plumb 10 = .ok (.iaload, 1) := by decide +kernel
theorem dX11_plumb_11 : decode cX11_plumb 11 = .ok (.if_icmp .ge 21, 3) := by decide +kernel
theorem dX11_plumb_14 : decode cX11_plumb 14 = .ok (.aload_n 0, 1) := by decide +kernel
theorem dX11_plumb_15 : decode cX11_plumb 15 = .ok (.iload_n 2, 1) := by decide +kernel
theorem dX11_plumb_16 : decode cX11_plumb 16 = .ok (.iconst 0, 1) := by decide +kernel
theorem dX11_plumb_17 : decode cX11_plumb 17 = .ok (.invokevirtual 83, 3) := by decide +kernel
theorem dX11_plumb_20 : decode cX11_plumb 20 = .ok (.ifCond .ne 6, 3) := by decide +kernel
theorem dX11_plumb_23 : decode cX11_plumb 23 = .ok (.iinc 1 1, 3) := by decide +kernel
theorem dX11_plumb_26 : decode cX11_plumb 26 = .ok (.iinc 2 1, 3) := by decide +kernel
theorem dX11_plumb_29 : decode cX11_plumb 29 = .ok (.goto (-25), 3) := by decide +kernel
theorem dX11_plumb_32 : decode cX11_plumb 32 = .ok (.iload_n 1, 1) := by decide +kernel
theorem dX11_plumb_33 : decode cX11_plumb 33 = .ok (.ireturn, 1) := by decide +kernel
theorem dX11_meanTilt_0 : decode cX11_meanTilt 0 = .ok (.aload_n 0, 1) := by decide +kernel
theorem dX11_meanTilt_1 : decode cX11_meanTilt 1 = .ok (.iconst 0, 1) := by decide +kernel
theorem dX11_meanTilt_2 : decode cX11_meanTilt 2 = .ok (.putfield 42, 3) := by decide +kernel
theorem dX11_meanTilt_5 : decode cX11_meanTilt 5 = .ok (.aload_n 0, 1) := by decide +kernel
theorem dX11_meanTilt_6 : decode cX11_meanTilt 6 = .ok (.getfield 9, 3) := by decide +kernel
theorem dX11_meanTilt_9 : decode cX11_meanTilt 9 = .ok (.iconst 0, 1) := by decide +kernel
theorem dX11_meanTilt_10 : decode cX11_meanTilt 10 = .ok (.iaload, 1) := by decide +kernel
theorem dX11_meanTilt_11 : decode cX11_meanTilt 11 = .ok (.ifCond .ne 12, 3) := by decide +kernel
theorem dX11_meanTilt_14 : decode cX11_meanTilt 14 = .ok (.aload_n 0, 1) := by decide +kernel
theorem dX11_meanTilt_15 : decode cX11_meanTilt 15 = .ok (.iconst 1, 1) := by decide +kernel
theorem dX11_meanTilt_16 : decode cX11_meanTilt 16 = .ok (.invokevirtual 64, 3) := by decide +kernel
theorem dX11_meanTilt_19 : decode cX11_meanTilt 19 = .ok (.i2d, 1) := by decide +kernel
theorem dX11_meanTilt_20 : decode cX11_meanTilt 20 = .ok (.goto 16, 3) := by decide +kernel
theorem dX11_meanTilt_23 : decode cX11_meanTilt 23 = .ok (.aload_n 0, 1) := by decide +kernel
theorem dX11_meanTilt_24 : decode cX11_meanTilt 24 = .ok (.invokevirtual 249, 3) := by decide +kernel
theorem dX11_meanTilt_27 : decode cX11_meanTilt 27 = .ok (.i2d, 1) := by decide +kernel
theorem dX11_meanTilt_28 : decode cX11_meanTilt 28 = .ok (.aload_n 0, 1) := by decide +kernel
theorem dX11_meanTilt_29 : decode cX11_meanTilt 29 = .ok (.getfield 9, 3) := by decide +kernel
theorem dX11_meanTilt_32 : decode cX11_meanTilt 32 = .ok (.iconst 0, 1) := by decide +kernel
theorem dX11_meanTilt_33 : decode cX11_meanTilt 33 = .ok (.iaload, 1) := by decide +kernel
theorem dX11_meanTilt_34 : decode cX11_meanTilt 34 = .ok (.i2d, 1) := by decide +kernel
theorem dX11_meanTilt_35 : decode cX11_meanTilt 35 = .ok (.ddiv, 1) := by decide +kernel
theorem dX11_meanTilt_36 : decode cX11_meanTilt 36 = .ok (.dreturn, 1) := by decide +kernel
theorem dX11_plumbShare_0 : decode cX11_plumbShare 0 = .ok (.aload_n 0, 1) := by decide +kernel
theorem dX11_plumbShare_1 : decode cX11_plumbShare 1 = .ok (.iconst 0, 1) := by decide +kernel
theorem dX11_plumbShare_2 : decode cX11_plumbShare 2 = .ok (.putfield 42, 3) := by decide +kernel
theorem dX11_plumbShare_5 : decode cX11_plumbShare 5 = .ok (.aload_n 0, 1) := by decide +kernel
theorem dX11_plumbShare_6 : decode cX11_plumbShare 6 = .ok (.getfield 9, 3) := by decide +kernel
theorem dX11_plumbShare_9 : decode cX11_plumbShare 9 = .ok (.iconst 0, 1) := by decide +kernel
theorem dX11_plumbShare_10 : decode cX11_plumbShare 10 = .ok (.iaload, 1) := by decide +kernel
theorem dX11_plumbShare_11 : decode cX11_plumbShare 11 = .ok (.ifCond .ne 12, 3) := by decide +kernel
theorem dX11_plumbShare_14 : decode cX11_plumbShare 14 = .ok (.aload_n 0, 1) := by decide +kernel
theorem dX11_plumbShare_15 : decode cX11_plumbShare 15 = .ok (.iconst 1, 1) := by decide +kernel
theorem dX11_plumbShare_16 : decode cX11_plumbShare 16 = .ok (.invokevirtual 64, 3) := by decide +kernel
theorem dX11_plumbShare_19 : decode cX11_plumbShare 19 = .ok (.i2f, 1) := by decide +kernel
theorem dX11_plumbShare_20 : decode cX11_plumbShare 20 = .ok (.goto 16, 3) := by decide +kernel
theorem dX11_plumbShare_23 : decode cX11_plumbShare 23 = .ok (.aload_n 0, 1) := by decide +kernel
theorem dX11_plumbShare_24 : decode cX11_plumbShare 24 = .ok (.invokevirtual 252, 3) := by decide +kernel
theorem dX11_plumbShare_27 : decode cX11_plumbShare 27 = .ok (.i2f, 1) := by decide +kernel
theorem dX11_plumbShare_28 : decode cX11_plumbShare 28 = .ok (.aload_n 0, 1) := by decide +kernel
theorem dX11_plumbShare_29 : decode cX11_plumbShare 29 = .ok (.getfield 9, 3) := by decide +kernel
theorem dX11_plumbShare_32 : decode cX11_plumbShare 32 = .ok (.iconst 0, 1) := by decide +kernel
theorem dX11_plumbShare_33 : decode cX11_plumbShare 33 = .ok (.iaload, 1) := by decide +kernel
theorem dX11_plumbShare_34 : decode cX11_plumbShare 34 = .ok (.i2f, 1) := by decide +kernel
theorem dX11_plumbShare_35 : decode cX11_plumbShare 35 = .ok (.fdiv, 1) := by decide +kernel
theorem dX11_plumbShare_36 : decode cX11_plumbShare 36 = .ok (.freturn, 1) := by decide +kernel
theorem dX11_account_0 : decode cX11_account 0 = .ok (.aload_n 0, 1) := by decide +kernel
theorem dX11_account_1 : decode cX11_account 1 = .ok (.iconst 0, 1) := by decide +kernel
theorem dX11_account_2 : decode cX11_account 2 = .ok (.putfield 42, 3) := by decide +kernel
theorem dX11_account_5 : decode cX11_account 5 = .ok (.iconst 0, 1) := by decide +kernel
theorem dX11_account_6 : decode cX11_account 6 = .ok (.istore_n 2, 1) := by decide +kernel
theorem dX11_account_7 : decode cX11_account 7 = .ok (.iload_n 1, 1) := by decide +kernel
theorem dX11_account_8 : decode cX11_account 8 = .ok (.tableswitch 135 0 10 #[60, 67, 97, 104, 109, 109, 109, 109, 120, 125, 130], 60) := by decide +kernel
theorem dX11_account_68 : decode cX11_account 68 = .ok (.aload_n 0, 1) := by decide +kernel
theorem dX11_account_69 : decode cX11_account 69 = .ok (.getfield 9, 3) := by decide +kernel
theorem dX11_account_72 : decode cX11_account 72 = .ok (.iconst 0, 1) := by decide +kernel
theorem dX11_account_73 : decode cX11_account 73 = .ok (.iaload, 1) := by decide +kernel
theorem dX11_account_74 : decode cX11_account 74 = .ok (.ireturn, 1) := by decide +kernel
theorem dX11_account_75 : decode cX11_account 75 = .ok (.iconst 0, 1) := by decide +kernel
theorem dX11_account_76 : decode cX11_account 76 = .ok (.istore_n 3, 1) := by decide +kernel
theorem dX11_account_77 : decode cX11_account 77 = .ok (.iload_n 3, 1) := by decide +kernel
theorem dX11_account_78 : decode cX11_account 78 = .ok (.aload_n 0, 1) := by decide +kernel
theorem dX11_account_79 : decode cX11_account 79 = .ok (.getfield 9, 3) := by decide +kernel
theorem dX11_account_82 : decode cX11_account 82 = .ok (.iconst 0, 1) := by decide +kernel
theorem dX11_account_83 : decode cX11_account 83 = .ok (.iaload, 1) := by decide +kernel
theorem dX11_account_84 : decode cX11_account 84 = .ok (.if_icmp .ge 17, 3) := by decide +kernel
theorem dX11_account_87 : decode cX11_account 87 = .ok (.iload_n 2, 1) := by decide +kernel
theorem dX11_account_88 : decode cX11_account 88 = .ok (.aload_n 0, 1) := by decide +kernel
theorem dX11_account_89 : decode cX11_account 89 = .ok (.iload_n 3, 1) := by decide +kernel
theorem dX11_account_90 : decode cX11_account 90 = .ok (.invokevirtual 165, 3) := by decide +kernel
theorem dX11_account_93 : decode cX11_account 93 = .ok (.iadd, 1) := by decide +kernel
theorem dX11_account_94 : decode cX11_account 94 = .ok (.istore_n 2, 1) := by decide +kernel
theorem dX11_account_95 : decode cX11_account 95 = .ok (.iinc 3 1, 3) := by decide +kernel
theorem dX11_account_98 : decode cX11_account 98 = .ok (.goto (-21), 3) := by decide +kernel
theorem dX11_account_101 : decode cX11_account 101 = .ok (.iload_n 2, 1) := by decide +kernel
theorem dX11_account_102 : decode cX11_account 102 = .ok (.iconst 2, 1) := by decide +kernel
theorem dX11_account_103 : decode cX11_account 103 = .ok (.idiv, 1) := by decide +kernel
theorem dX11_account_104 : decode cX11_account 104 = .ok (.ireturn, 1) := by decide +kernel
theorem dX11_account_105 : decode cX11_account 105 = .ok (.aload_n 0, 1) := by decide +kernel
theorem dX11_account_106 : decode cX11_account 106 = .ok (.getfield 9, 3) := by decide +kernel
theorem dX11_account_109 : decode cX11_account 109 = .ok (.iconst 1, 1) := by decide +kernel
theorem dX11_account_110 : decode cX11_account 110 = .ok (.iaload, 1) := by decide +kernel
theorem dX11_account_111 : decode cX11_account 111 = .ok (.ireturn, 1) := by decide +kernel
theorem dX11_account_112 : decode cX11_account 112 = .ok (.aload_n 0, 1) := by decide +kernel
theorem dX11_account_113 : decode cX11_account 113 = .ok (.invokevirtual 252, 3) := by decide +kernel
theorem dX11_account_116 : decode cX11_account 116 = .ok (.ireturn, 1) := by decide +kernel
theorem dX11_account_117 : decode cX11_account 117 = .ok (.aload_n 0, 1) := by decide +kernel
theorem dX11_account_118 : decode cX11_account 118 = .ok (.getfield 9, 3) := by decide +kernel
theorem dX11_account_121 : decode cX11_account 121 = .ok (.iconst 2, 1) := by decide +kernel
theorem dX11_account_122 : decode cX11_account 122 = .ok (.iload_n 1, 1) := by decide +kernel
theorem dX11_account_123 : decode cX11_account 123 = .ok (.iadd, 1) := by decide +kernel
theorem dX11_account_124 : decode cX11_account 124 = .ok (.iconst 4, 1) := by decide +kernel
theorem dX11_account_125 : decode cX11_account 125 = .ok (.isub, 1) := by decide +kernel
theorem dX11_account_126 : decode cX11_account 126 = .ok (.iaload, 1) := by decide +kernel
theorem dX11_account_127 : decode cX11_account 127 = .ok (.ireturn, 1) := by decide +kernel
theorem dX11_account_128 : decode cX11_account 128 = .ok (.aload_n 0, 1) := by decide +kernel
theorem dX11_account_129 : decode cX11_account 129 = .ok (.invokevirtual 249, 3) := by decide +kernel
theorem dX11_account_132 : decode cX11_account 132 = .ok (.ireturn, 1) := by decide +kernel
theorem dX11_account_133 : decode cX11_account 133 = .ok (.aload_n 0, 1) := by decide +kernel
theorem dX11_account_134 : decode cX11_account 134 = .ok (.getfield 45, 3) := by decide +kernel
theorem dX11_account_137 : decode cX11_account 137 = .ok (.ireturn, 1) := by decide +kernel
theorem dX11_account_138 : decode cX11_account 138 = .ok (.aload_n 0, 1) := by decide +kernel
theorem dX11_account_139 : decode cX11_account 139 = .ok (.getfield 203, 3) := by decide +kernel
theorem dX11_account_142 : decode cX11_account 142 = .ok (.ireturn, 1) := by decide +kernel
theorem dX11_account_143 : decode cX11_account 143 = .ok (.aload_n 0, 1) := by decide +kernel
theorem dX11_account_144 : decode cX11_account 144 = .ok (.iconst 1, 1) := by decide +kernel
theorem dX11_account_145 : decode cX11_account 145 = .ok (.invokevirtual 64, 3) := by decide +kernel
theorem dX11_account_148 : decode cX11_account 148 = .ok (.ireturn, 1) := by decide +kernel
theorem dX11_undo_0 : decode cX11_undo 0 = .ok (.aload_n 0, 1) := by decide +kernel
theorem dX11_undo_1 : decode cX11_undo 1 = .ok (.iconst 0, 1) := by decide +kernel
theorem dX11_undo_2 : decode cX11_undo 2 = .ok (.putfield 42, 3) := by decide +kernel
theorem dX11_undo_5 : decode cX11_undo 5 = .ok (.aload_n 0, 1) := by decide +kernel
theorem dX11_undo_6 : decode cX11_undo 6 = .ok (.getfield 45, 3) := by decide +kernel
theorem dX11_undo_9 : decode cX11_undo 9 = .ok (.ifCond .ne 9, 3) := by decide +kernel
theorem dX11_undo_12 : decode cX11_undo 12 = .ok (.aload_n 0, 1) := by decide +kernel
theorem dX11_undo_13 : decode cX11_undo 13 = .ok (.iconst 1, 1) := by decide +kernel
theorem dX11_undo_14 : decode cX11_undo 14 = .ok (.invokevirtual 64, 3) := by decide +kernel
theorem dX11_undo_17 : decode cX11_undo 17 = .ok (.ireturn, 1) := by decide +kernel
theorem dX11_undo_18 : decode cX11_undo 18 = .ok (.aload_n 0, 1) := by decide +kernel
theorem dX11_undo_19 : decode cX11_undo 19 = .ok (.dup, 1) := by decide +kernel
theorem dX11_undo_20 : decode cX11_undo 20 = .ok (.getfield 45, 3) := by decide +kernel
theorem dX11_undo_23 : decode cX11_undo 23 = .ok (.iconst 1, 1) := by decide +kernel
theorem dX11_undo_24 : decode cX11_undo 24 = .ok (.isub, 1) := by decide +kernel
theorem dX11_undo_25 : decode cX11_undo 25 = .ok (.putfield 45, 3) := by decide +kernel
theorem dX11_undo_28 : decode cX11_undo 28 = .ok (.iconst 0, 1) := by decide +kernel
theorem dX11_undo_29 : decode cX11_undo 29 = .ok (.istore_n 1, 1) := by decide +kernel
theorem dX11_undo_30 : decode cX11_undo 30 = .ok (.iload_n 1, 1) := by decide +kernel
theorem dX11_undo_31 : decode cX11_undo 31 = .ok (.bipush 96, 2) := by decide +kernel
theorem dX11_undo_33 : decode cX11_undo 33 = .ok (.if_icmp .ge 29, 3) := by decide +kernel
theorem dX11_undo_36 : decode cX11_undo 36 = .ok (.aload_n 0, 1) := by decide +kernel
theorem dX11_undo_37 : decode cX11_undo 37 = .ok (.getfield 9, 3) := by decide +kernel
theorem dX11_undo_40 : decode cX11_undo 40 = .ok (.iload_n 1, 1) := by decide +kernel
theorem dX11_undo_41 : decode cX11_undo 41 = .ok (.aload_n 0, 1) := by decide +kernel
theorem dX11_undo_42 : decode cX11_undo 42 = .ok (.getfield 19, 3) := by decide +kernel
theorem dX11_undo_45 : decode cX11_undo 45 = .ok (.bipush 96, 2) := by decide +kernel
theorem dX11_undo_47 : decode cX11_undo 47 = .ok (.aload_n 0, 1) := by decide +kernel
theorem dX11_undo_48 : decode cX11_undo 48 = .ok (.getfield 45, 3) := by decide +kernel
theorem dX11_undo_51 : decode cX11_undo 51 = .ok (.imul, 1) := by decide +kernel
theorem dX11_undo_52 : decode cX11_undo 52 = .ok (.iload_n 1, 1) := by decide +kernel
theorem dX11_undo_53 : decode cX11_undo 53 = .ok (.iadd, 1) := by decide +kernel
theorem dX11_undo_54 : decode cX11_undo 54 = .ok (.iaload, 1) := by decide +kernel
theorem dX11_undo_55 : decode cX11_undo 55 = .ok (.iastore, 1) := by decide +kernel
theorem dX11_undo_56 : decode cX11_undo 56 = .ok (.iinc 1 1, 3) := by decide +kernel
theorem dX11_undo_59 : decode cX11_undo 59 = .ok (.goto (-29), 3) := by decide +kernel
theorem dX11_undo_62 : decode cX11_undo 62 = .ok (.aload_n 0, 1) := by decide +kernel
theorem dX11_undo_63 : decode cX11_undo 63 = .ok (.getfield 45, 3) := by decide +kernel
theorem dX11_undo_66 : decode cX11_undo 66 = .ok (.ireturn, 1) := by decide +kernel
theorem dX11_save_0 : decode cX11_save 0 = .ok (.aload_n 0, 1) := by decide +kernel
theorem dX11_save_1 : decode cX11_save 1 = .ok (.iconst 0, 1) := by decide +kernel
theorem dX11_save_2 : decode cX11_save 2 = .ok (.putfield 42, 3) := by decide +kernel
theorem dX11_save_5 : decode cX11_save 5 = .ok (.aload_n 0, 1) := by decide +kernel
theorem dX11_save_6 : decode cX11_save 6 = .ok (.iconst 1, 1) := by decide +kernel
theorem dX11_save_7 : decode cX11_save 7 = .ok (.putfield 255, 3) := by decide +kernel
theorem dX11_save_10 : decode cX11_save 10 = .ok (.iconst 0, 1) := by decide +kernel
theorem dX11_save_11 : decode cX11_save 11 = .ok (.istore_n 1, 1) := by decide +kernel
theorem dX11_save_12 : decode cX11_save 12 = .ok (.iload_n 1, 1) := by decide +kernel
theorem dX11_save_13 : decode cX11_save 13 = .ok (.bipush 96, 2) := by decide +kernel
theorem dX11_save_15 : decode cX11_save 15 = .ok (.if_icmp .ge 21, 3) := by decide +kernel
theorem dX11_save_18 : decode cX11_save 18 = .ok (.aload_n 0, 1) := by decide +kernel
theorem dX11_save_19 : decode cX11_save 19 = .ok (.getfield 22, 3) := by decide +kernel
theorem dX11_save_22 : decode cX11_save 22 = .ok (.iload_n 1, 1) := by decide +kernel
theorem dX11_save_23 : decode cX11_save 23 = .ok (.aload_n 0, 1) := by decide +kernel
theorem dX11_save_24 : decode cX11_save 24 = .ok (.getfield 9, 3) := by decide +kernel
theorem dX11_save_27 : decode cX11_save 27 = .ok (.iload_n 1, 1) := by decide +kernel
theorem dX11_save_28 : decode cX11_save 28 = .ok (.iaload, 1) := by decide +kernel
theorem dX11_save_29 : decode cX11_save 29 = .ok (.iastore, 1) := by decide +kernel
theorem dX11_save_30 : decode cX11_save 30 = .ok (.iinc 1 1, 3) := by decide +kernel
theorem dX11_save_33 : decode cX11_save 33 = .ok (.goto (-21), 3) := by decide +kernel
theorem dX11_save_36 : decode cX11_save 36 = .ok (.aload_n 0, 1) := by decide +kernel
theorem dX11_save_37 : decode cX11_save 37 = .ok (.getfield 9, 3) := by decide +kernel
theorem dX11_save_40 : decode cX11_save 40 = .ok (.iconst 0, 1) := by decide +kernel
theorem dX11_save_41 : decode cX11_save 41 = .ok (.iaload, 1) := by decide +kernel
theorem dX11_save_42 : decode cX11_save 42 = .ok (.ireturn, 1) := by decide +kernel
theorem dX11_restore_0 : decode cX11_restore 0 = .ok (.aload_n 0, 1) := by decide +kernel
theorem dX11_restore_1 : decode cX11_restore 1 = .ok (.iconst 0, 1) := by decide +kernel
theorem dX11_restore_2 : decode cX11_restore 2 = .ok (.putfield 42, 3) := by decide +kernel
theorem dX11_restore_5 : decode cX11_restore 5 = .ok (.aload_n 0, 1) := by decide +kernel
theorem dX11_restore_6 : decode cX11_restore 6 = .ok (.getfield 255, 3) := by decide +kernel
theorem dX11_restore_9 : decode cX11_restore 9 = .ok (.ifCond .ne 9, 3) := by decide +kernel
theorem dX11_restore_12 : decode cX11_restore 12 = .ok (.aload_n 0, 1) := by decide +kernel
theorem dX11_restore_13 : decode cX11_restore 13 = .ok (.iconst 1, 1) := by decide +kernel
theorem dX11_restore_14 : decode cX11_restore 14 = .ok (.invokevirtual 64, 3) := by decide +kernel
theorem dX11_restore_17 : decode cX11_restore 17 = .ok (.ireturn, 1) := by decide +kernel
theorem dX11_restore_18 : decode cX11_restore 18 = .ok (.iconst 0, 1) := by decide +kernel
theorem dX11_restore_19 : decode cX11_restore 19 = .ok (.istore_n 1, 1) := by decide +kernel
theorem dX11_restore_20 : decode cX11_restore 20 = .ok (.iload_n 1, 1) := by decide +kernel
theorem dX11_restore_21 : decode cX11_restore 21 = .ok (.bipush 96, 2) := by decide +kernel
theorem dX11_restore_23 : decode cX11_restore 23 = .ok (.if_icmp .ge 21, 3) := by decide +kernel
theorem dX11_restore_26 : decode cX11_restore 26 = .ok (.aload_n 0, 1) := by decide +kernel
theorem dX11_restore_27 : decode cX11_restore 27 = .ok (.getfield 9, 3) := by decide +kernel
theorem dX11_restore_30 : decode cX11_restore 30 = .ok (.iload_n 1, 1) := by decide +kernel
theorem dX11_restore_31 : decode cX11_restore 31 = .ok (.aload_n 0, 1) := by decide +kernel
theorem dX11_restore_32 : decode cX11_restore 32 = .ok (.getfield 22, 3) := by decide +kernel
theorem dX11_restore_35 : decode cX11_restore 35 = .ok (.iload_n 1, 1) := by decide +kernel
theorem dX11_restore_36 : decode cX11_restore 36 = .ok (.iaload, 1) := by decide +kernel
theorem dX11_restore_37 : decode cX11_restore 37 = .ok (.iastore, 1) := by decide +kernel
theorem dX11_restore_38 : decode cX11_restore 38 = .ok (.iinc 1 1, 3) := by decide +kernel
theorem dX11_restore_41 : decode cX11_restore 41 = .ok (.goto (-21), 3) := by decide +kernel
theorem dX11_restore_44 : decode cX11_restore 44 = .ok (.aload_n 0, 1) := by decide +kernel
theorem dX11_restore_45 : decode cX11_restore 45 = .ok (.iconst 0, 1) := by decide +kernel
theorem dX11_restore_46 : decode cX11_restore 46 = .ok (.putfield 45, 3) := by decide +kernel
theorem dX11_restore_49 : decode cX11_restore 49 = .ok (.aload_n 0, 1) := by decide +kernel
theorem dX11_restore_50 : decode cX11_restore 50 = .ok (.getfield 9, 3) := by decide +kernel
theorem dX11_restore_53 : decode cX11_restore 53 = .ok (.iconst 0, 1) := by decide +kernel
theorem dX11_restore_54 : decode cX11_restore 54 = .ok (.iaload, 1) := by decide +kernel
theorem dX11_restore_55 : decode cX11_restore 55 = .ok (.ireturn, 1) := by decide +kernel
