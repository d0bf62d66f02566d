/-! decode rows, cut out of the printed names -/
theorem dL_at_0 : decode cL_at 0 = .ok (.iload_n 1, 1) := by decide +kernel
theorem dL_at_1 : decode cL_at 1 = .ok (.aload_n 0, 1) := by decide +kernel
theorem dL_at_2 : decode cL_at 2 = .ok (.arraylength, 1) := by decide +kernel
theorem dL_at_3 : decode cL_at 3 = .ok (.if_icmp .ge 9, 3) := by decide +kernel
theorem dL_at_6 : decode cL_at 6 = .ok (.aload_n 0, 1) := by decide +kernel
theorem dL_at_7 : decode cL_at 7 = .ok (.iload_n 1, 1) := by decide +kernel
theorem dL_at_8 : decode cL_at 8 = .ok (.iaload, 1) := by decide +kernel
theorem dL_at_9 : decode cL_at 9 = .ok (.goto 4, 3) := by decide +kernel
theorem dL_at_12 : decode cL_at 12 = .ok (.iconst 0, 1) := by decide +kernel
theorem dL_at_13 : decode cL_at 13 = .ok (.ireturn, 1) := by decide +kernel
theorem dL_some_0 : decode cL_some 0 = .ok (.iload_n 0, 1) := by decide +kernel
theorem dL_some_1 : decode cL_some 1 = .ok (.iload_n 1, 1) := by decide +kernel
theorem dL_some_2 : decode cL_some 2 = .ok (.irem, 1) := by decide +kernel
theorem dL_some_3 : decode cL_some 3 = .ok (.istore_n 2, 1) := by decide +kernel
theorem dL_some_4 : decode cL_some 4 = .ok (.iload_n 2, 1) := by decide +kernel
theorem dL_some_5 : decode cL_some 5 = .ok (.ifCond .ge 9, 3) := by decide +kernel
theorem dL_some_8 : decode cL_some 8 = .ok (.iload_n 2, 1) := by decide +kernel
theorem dL_some_9 : decode cL_some 9 = .ok (.iload_n 1, 1) := by decide +kernel
theorem dL_some_10 : decode cL_some 10 = .ok (.iadd, 1) := by decide +kernel
theorem dL_some_11 : decode cL_some 11 = .ok (.goto 4, 3) := by decide +kernel
theorem dL_some_14 : decode cL_some 14 = .ok (.iload_n 2, 1) := by decide +kernel
theorem dL_some_15 : decode cL_some 15 = .ok (.ireturn, 1) := by decide +kernel
theorem dL_person_0 : decode cL_person 0 = .ok (.aload_n 0, 1) := by decide +kernel
theorem dL_person_1 : decode cL_person 1 = .ok (.iload_n 1, 1) := by decide +kernel
theorem dL_person_2 : decode cL_person 2 = .ok (.iload_n 2, 1) := by decide +kernel
theorem dL_person_3 : decode cL_person 3 = .ok (.invokevirtual 7, 3) := by decide +kernel
theorem dL_person_6 : decode cL_person 6 = .ok (.ireturn, 1) := by decide +kernel
theorem dL_person_7 : decode cL_person 7 = .ok (.astore_n 3, 1) := by decide +kernel
theorem dL_person_8 : decode cL_person 8 = .ok (.sipush (-1001), 3) := by decide +kernel
theorem dL_person_11 : decode cL_person 11 = .ok (.ireturn, 1) := by decide +kernel
theorem dL_friends_0 : decode cL_friends 0 = .ok (.aload_n 0, 1) := by decide +kernel
theorem dL_friends_1 : decode cL_friends 1 = .ok (.iload_n 1, 1) := by decide +kernel
theorem dL_friends_2 : decode cL_friends 2 = .ok (.iload_n 2, 1) := by decide +kernel
theorem dL_friends_3 : decode cL_friends 3 = .ok (.iload_n 3, 1) := by decide +kernel
theorem dL_friends_4 : decode cL_friends 4 = .ok (.invokevirtual 15, 3) := by decide +kernel
theorem dL_friends_7 : decode cL_friends 7 = .ok (.ireturn, 1) := by decide +kernel
theorem dL_friends_8 : decode cL_friends 8 = .ok (.astore 4, 2) := by decide +kernel
theorem dL_friends_10 : decode cL_friends 10 = .ok (.sipush (-1001), 3) := by decide +kernel
theorem dL_friends_13 : decode cL_friends 13 = .ok (.ireturn, 1) := by decide +kernel
theorem dL_round_0 : decode cL_round 0 = .ok (.aload_n 0, 1) := by decide +kernel
theorem dL_round_1 : decode cL_round 1 = .ok (.invokevirtual 19, 3) := by decide +kernel
theorem dL_round_4 : decode cL_round 4 = .ok (.ireturn, 1) := by decide +kernel
theorem dL_round_5 : decode cL_round 5 = .ok (.astore_n 1, 1) := by decide +kernel
theorem dL_round_6 : decode cL_round 6 = .ok (.sipush (-1001), 3) := by decide +kernel
theorem dL_round_9 : decode cL_round 9 = .ok (.ireturn, 1) := by decide +kernel
theorem dL_fact_0 : decode cL_fact 0 = .ok (.aload_n 0, 1) := by decide +kernel
theorem dL_fact_1 : decode cL_fact 1 = .ok (.iload_n 1, 1) := by decide +kernel
theorem dL_fact_2 : decode cL_fact 2 = .ok (.iload_n 2, 1) := by decide +kernel
theorem dL_fact_3 : decode cL_fact 3 = .ok (.invokevirtual 23, 3) := by decide +kernel
theorem dL_fact_6 : decode cL_fact 6 = .ok (.ireturn, 1) := by decide +kernel
theorem dL_fact_7 : decode cL_fact 7 = .ok (.astore_n 3, 1) := by decide +kernel
theorem dL_fact_8 : decode cL_fact 8 = .ok (.sipush (-1001), 3) := by decide +kernel
theorem dL_fact_11 : decode cL_fact 11 = .ok (.ireturn, 1) := by decide +kernel
theorem dL_beam_0 : decode cL_beam 0 = .ok (.aload_n 0, 1) := by decide +kernel
theorem dL_beam_1 : decode cL_beam 1 = .ok (.iload_n 1, 1) := by decide +kernel
theorem dL_beam_2 : decode cL_beam 2 = .ok (.iload_n 2, 1) := by decide +kernel
theorem dL_beam_3 : decode cL_beam 3 = .ok (.iload_n 3, 1) := by decide +kernel
theorem dL_beam_4 : decode cL_beam 4 = .ok (.invokevirtual 27, 3) := by decide +kernel
theorem dL_beam_7 : decode cL_beam 7 = .ok (.ireturn, 1) := by decide +kernel
theorem dL_beam_8 : decode cL_beam 8 = .ok (.astore 4, 2) := by decide +kernel
theorem dL_beam_10 : decode cL_beam 10 = .ok (.sipush (-1001), 3) := by decide +kernel
theorem dL_beam_13 : decode cL_beam 13 = .ok (.ireturn, 1) := by decide +kernel
theorem dL_remove_0 : decode cL_remove 0 = .ok (.aload_n 0, 1) := by decide +kernel
theorem dL_remove_1 : decode cL_remove 1 = .ok (.iload_n 1, 1) := by decide +kernel
theorem dL_remove_2 : decode cL_remove 2 = .ok (.invokevirtual 30, 3) := by decide +kernel
theorem dL_remove_5 : decode cL_remove 5 = .ok (.ireturn, 1) := by decide +kernel
theorem dL_remove_6 : decode cL_remove 6 = .ok (.astore_n 2, 1) := by decide +kernel
theorem dL_remove_7 : decode cL_remove 7 = .ok (.sipush (-1001), 3) := by decide +kernel
theorem dL_remove_10 : decode cL_remove 10 = .ok (.ireturn, 1) := by decide +kernel
theorem dL_habit_0 : decode cL_habit 0 = .ok (.aload_n 0, 1) := by decide +kernel
theorem dL_habit_1 : decode cL_habit 1 = .ok (.iload_n 1, 1) := by decide +kernel
theorem dL_habit_2 : decode cL_habit 2 = .ok (.iload_n 2, 1) := by decide +kernel
theorem dL_habit_3 : decode cL_habit 3 = .ok (.invokevirtual 34, 3) := by decide +kernel
theorem dL_habit_6 : decode cL_habit 6 = .ok (.ireturn, 1) := by decide +kernel
theorem dL_habit_7 : decode cL_habit 7 = .ok (.astore_n 3, 1) := by decide +kernel
theorem dL_habit_8 : decode cL_habit 8 = .ok (.sipush (-1001), 3) := by decide +kernel
theorem dL_habit_11 : decode cL_habit 11 = .ok (.ireturn, 1) := by decide +kernel
theorem dL_of_0 : decode cL_of 0 = .ok (.aload_n 0, 1) := by decide +kernel
theorem dL_of_1 : decode cL_of 1 = .ok (.iload_n 1, 1) := by decide +kernel
theorem dL_of_2 : decode cL_of 2 = .ok (.iload_n 2, 1) := by decide +kernel
theorem dL_of_3 : decode cL_of 3 = .ok (.invokevirtual 37, 3) := by decide +kernel
theorem dL_of_6 : decode cL_of 6 = .ok (.ireturn, 1) := by decide +kernel
theorem dL_of_7 : decode cL_of 7 = .ok (.astore_n 3, 1) := by decide +kernel
theorem dL_of_8 : decode cL_of 8 = .ok (.sipush (-1001), 3) := by decide +kernel
theorem dL_of_11 : decode cL_of 11 = .ok (.ireturn, 1) := by decide +kernel
theorem dL_of_12 : decode cL_of 12 = .ok (.astore_n 3, 1) := by decide +kernel
theorem dL_of_13 : decode cL_of 13 = .ok (.sipush (-1002), 3) := by decide +kernel
theorem dL_of_16 : decode cL_of 16 = .ok (.ireturn, 1) := by decide +kernel
theorem dL_weight_0 : decode cL_weight 0 = .ok (.aload_n 0, 1) := by decide +kernel
theorem dL_weight_1 : decode cL_weight 1 = .ok (.iload_n 1, 1) := by decide +kernel
theorem dL_weight_2 : decode cL_weight 2 = .ok (.iload_n 2, 1) := by decide +kernel
theorem dL_weight_3 : decode cL_weight 3 = .ok (.invokevirtual 44, 3) := by decide +kernel
theorem dL_weight_6 : decode cL_weight 6 = .ok (.ireturn, 1) := by decide +kernel
theorem dL_weight_7 : decode cL_weight 7 = .ok (.astore_n 3, 1) := by decide +kernel
theorem dL_weight_8 : decode cL_weight 8 = .ok (.sipush (-1001), 3) := by decide +kernel
theorem dL_weight_11 : decode cL_weight 11 = .ok (.ireturn, 1) := by decide +kernel
theorem dL_beamOf_0 : decode cL_beamOf 0 = .ok (.aload_n 0, 1) := by decide +kernel
theorem dL_beamOf_1 : decode cL_beamOf 1 = .ok (.iload_n 1, 1) := by decide +kernel
theorem dL_beamOf_2 : decode cL_beamOf 2 = .ok (.iload_n 2, 1) := by decide +kernel
theorem dL_beamOf_3 : decode cL_beamOf 3 = .ok (.invokevirtual 47, 3) := by decide +kernel
theorem dL_beamOf_6 : decode cL_beamOf 6 = .ok (.ireturn, 1) := by decide +kernel
theorem dL_beamOf_7 : decode cL_beamOf 7 = .ok (.astore_n 3, 1) := by decide +kernel
theorem dL_beamOf_8 : decode cL_beamOf 8 = .ok (.sipush (-1001), 3) := by decide +kernel
theorem dL_beamOf_11 : decode cL_beamOf 11 = .ok (.ireturn, 1) := by decide +kernel
theorem dL_beamOf_12 : decode cL_beamOf 12 = .ok (.astore_n 3, 1) := by decide +kernel
theorem dL_beamOf_13 : decode cL_beamOf 13 = .ok (.sipush (-1002), 3) := by decide +kernel
theorem dL_beamOf_16 : decode cL_beamOf 16 = .ok (.ireturn, 1) := by decide +kernel
theorem dL_lean_0 : decode cL_lean 0 = .ok (.aload_n 0, 1) := by decide +kernel
theorem dL_lean_1 : decode cL_lean 1 = .ok (.iload_n 1, 1) := by decide +kernel
theorem dL_lean_2 : decode cL_lean 2 = .ok (.invokevirtual 50, 3) := by decide +kernel
theorem dL_lean_5 : decode cL_lean 5 = .ok (.ireturn, 1) := by decide +kernel
theorem dL_lean_6 : decode cL_lean 6 = .ok (.astore_n 2, 1) := by decide +kernel
theorem dL_lean_7 : decode cL_lean 7 = .ok (.sipush (-1001), 3) := by decide +kernel
theorem dL_lean_10 : decode cL_lean 10 = .ok (.ireturn, 1) := by decide +kernel
theorem dL_mean_0 : decode cL_mean 0 = .ok (.aload_n 0, 1) := by decide +kernel
theorem dL_mean_1 : decode cL_mean 1 = .ok (.iload_n 1, 1) := by decide +kernel
theorem dL_mean_2 : decode cL_mean 2 = .ok (.invokevirtual 53, 3) := by decide +kernel
theorem dL_mean_5 : decode cL_mean 5 = .ok (.ireturn, 1) := by decide +kernel
theorem dL_mean_6 : decode cL_mean 6 = .ok (.astore_n 2, 1) := by decide +kernel
theorem dL_mean_7 : decode cL_mean 7 = .ok (.sipush (-1001), 3) := by decide +kernel
theorem dL_mean_10 : decode cL_mean 10 = .ok (.ireturn, 1) := by decide +kernel
theorem dL_meanAgain_0 : decode cL_meanAgain 0 = .ok (.aload_n 0, 1) := by decide +kernel
theorem dL_meanAgain_1 : decode cL_meanAgain 1 = .ok (.iload_n 1, 1) := by decide +kernel
theorem dL_meanAgain_2 : decode cL_meanAgain 2 = .ok (.invokevirtual 56, 3) := by decide +kernel
theorem dL_meanAgain_5 : decode cL_meanAgain 5 = .ok (.ireturn, 1) := by decide +kernel
theorem dL_meanAgain_6 : decode cL_meanAgain 6 = .ok (.astore_n 2, 1) := by decide +kernel
theorem dL_meanAgain_7 : decode cL_meanAgain 7 = .ok (.sipush (-1001), 3) := by decide +kernel
theorem dL_meanAgain_10 : decode cL_meanAgain 10 = .ok (.ireturn, 1) := by decide +kernel
theorem dL_wouldMove_0 : decode cL_wouldMove 0 = .ok (.aload_n 0, 1) := by decide +kernel
theorem dL_wouldMove_1 : decode cL_wouldMove 1 = .ok (.iload_n 1, 1) := by decide +kernel
theorem dL_wouldMove_2 : decode cL_wouldMove 2 = .ok (.invokevirtual 59, 3) := by decide +kernel
theorem dL_wouldMove_5 : decode cL_wouldMove 5 = .ok (.ireturn, 1) := by decide +kernel
theorem dL_wouldMove_6 : decode cL_wouldMove 6 = .ok (.astore_n 2, 1) := by decide +kernel
theorem dL_wouldMove_7 : decode cL_wouldMove 7 = .ok (.sipush (-1001), 3) := by decide +kernel
theorem dL_wouldMove_10 : decode cL_wouldMove 10 = .ok (.ireturn, 1) := by decide +kernel
theorem dL_puller_0 : decode cL_puller 0 = .ok (.aload_n 0, 1) := by decide +kernel
theorem dL_puller_1 : decode cL_puller 1 = .ok (.iload_n 1, 1) := by decide +kernel
theorem dL_puller_2 : decode cL_puller 2 = .ok (.invokevirtual 62, 3) := by decide +kernel
theorem dL_puller_5 : decode cL_puller 5 = .ok (.ireturn, 1) := by decide +kernel
theorem dL_puller_6 : decode cL_puller 6 = .ok (.astore_n 2, 1) := by decide +kernel
theorem dL_puller_7 : decode cL_puller 7 = .ok (.sipush (-1001), 3) := by decide +kernel
theorem dL_puller_10 : decode cL_puller 10 = .ok (.ireturn, 1) := by decide +kernel
theorem dL_puller_11 : decode cL_puller 11 = .ok (.astore_n 2, 1) := by decide +kernel
theorem dL_puller_12 : decode cL_puller 12 = .ok (.sipush (-1002), 3) := by decide +kernel
theorem dL_puller_15 : decode cL_puller 15 = .ok (.ireturn, 1) := by decide +kernel
theorem dL_force_0 : decode cL_force 0 = .ok (.aload_n 0, 1) := by decide +kernel
theorem dL_force_1 : decode cL_force 1 = .ok (.iload_n 1, 1) := by decide +kernel
theorem dL_force_2 : decode cL_force 2 = .ok (.iload_n 2, 1) := by decide +kernel
theorem dL_force_3 : decode cL_force 3 = .ok (.invokevirtual 67, 3) := by decide +kernel
theorem dL_force_6 : decode cL_force 6 = .ok (.ireturn, 1) := by decide +kernel
theorem dL_force_7 : decode cL_force 7 = .ok (.astore_n 3, 1) := by decide +kernel
theorem dL_force_8 : decode cL_force 8 = .ok (.sipush (-1001), 3) := by decide +kernel
theorem dL_force_11 : decode cL_force 11 = .ok (.ireturn, 1) := by decide +kernel
theorem dL_force_12 : decode cL_force 12 = .ok (.astore_n 3, 1) := by decide +kernel
theorem dL_force_13 : decode cL_force 13 = .ok (.sipush (-1002), 3) := by decide +kernel
theorem dL_force_16 : decode cL_force 16 = .ok (.ireturn, 1) := by decide +kernel
theorem dL_factsFor_0 : decode cL_factsFor 0 = .ok (.aload_n 0, 1) := by decide +kernel
theorem dL_factsFor_1 : decode cL_factsFor 1 = .ok (.iload_n 1, 1) := by decide +kernel
theorem dL_factsFor_2 : decode cL_factsFor 2 = .ok (.iload_n 2, 1) := by decide +kernel
theorem dL_factsFor_3 : decode cL_factsFor 3 = .ok (.invokevirtual 70, 3) := by decide +kernel
theorem dL_factsFor_6 : decode cL_factsFor 6 = .ok (.ireturn, 1) := by decide +kernel
theorem dL_factsFor_7 : decode cL_factsFor 7 = .ok (.astore_n 3, 1) := by decide +kernel
theorem dL_factsFor_8 : decode cL_factsFor 8 = .ok (.sipush (-1001), 3) := by decide +kernel
theorem dL_factsFor_11 : decode cL_factsFor 11 = .ok (.ireturn, 1) := by decide +kernel
theorem dL_factsFor_12 : decode cL_factsFor 12 = .ok (.astore_n 3, 1) := by decide +kernel
theorem dL_factsFor_13 : decode cL_factsFor 13 = .ok (.sipush (-1002), 3) := by decide +kernel
theorem dL_factsFor_16 : decode cL_factsFor 16 = .ok (.ireturn, 1) := by decide +kernel
theorem dL_factsFor_17 : decode cL_factsFor 17 = .ok (.astore_n 3, 1) := by decide +kernel
theorem dL_factsFor_18 : decode cL_factsFor 18 = .ok (.sipush (-1003), 3) := by decide +kernel
theorem dL_factsFor_21 : decode cL_factsFor 21 = .ok (.ireturn, 1) := by decide +kernel
theorem dL_tiltIn_0 : decode cL_tiltIn 0 = .ok (.aload_n 0, 1) := by decide +kernel
theorem dL_tiltIn_1 : decode cL_tiltIn 1 = .ok (.iload_n 1, 1) := by decide +kernel
theorem dL_tiltIn_2 : decode cL_tiltIn 2 = .ok (.iload_n 2, 1) := by decide +kernel
theorem dL_tiltIn_3 : decode cL_tiltIn 3 = .ok (.invokevirtual 73, 3) := by decide +kernel
theorem dL_tiltIn_6 : decode cL_tiltIn 6 = .ok (.ireturn, 1) := by decide +kernel
theorem dL_tiltIn_7 : decode cL_tiltIn 7 = .ok (.astore_n 3, 1) := by decide +kernel
theorem dL_tiltIn_8 : decode cL_tiltIn 8 = .ok (.sipush (-1001), 3) := by decide +kernel
theorem dL_tiltIn_11 : decode cL_tiltIn 11 = .ok (.ireturn, 1) := by decide +kernel
theorem dL_tiltIn_12 : decode cL_tiltIn 12 = .ok (.astore_n 3, 1) := by decide +kernel
theorem dL_tiltIn_13 : decode cL_tiltIn 13 = .ok (.sipush (-1002), 3) := by decide +kernel
theorem dL_tiltIn_16 : decode cL_tiltIn 16 = .ok (.ireturn, 1) := by decide +kernel
theorem dL_restsIn_0 : decode cL_restsIn 0 = .ok (.aload_n 0, 1) := by decide +kernel
theorem dL_restsIn_1 : decode cL_restsIn 1 = .ok (.invokevirtual 76, 3) := by decide +kernel
theorem dL_restsIn_4 : decode cL_restsIn 4 = .ok (.ireturn, 1) := by decide +kernel
theorem dL_restsIn_5 : decode cL_restsIn 5 = .ok (.astore_n 1, 1) := by decide +kernel
theorem dL_restsIn_6 : decode cL_restsIn 6 = .ok (.sipush (-1001), 3) := by decide +kernel
theorem dL_restsIn_9 : decode cL_restsIn 9 = .ok (.ireturn, 1) := by decide +kernel
theorem dL_breaksIn_0 : decode cL_breaksIn 0 = .ok (.aload_n 0, 1) := by decide +kernel
theorem dL_breaksIn_1 : decode cL_breaksIn 1 = .ok (.iload_n 1, 1) := by decide +kernel
theorem dL_breaksIn_2 : decode cL_breaksIn 2 = .ok (.invokevirtual 79, 3) := by decide +kernel
theorem dL_breaksIn_5 : decode cL_breaksIn 5 = .ok (.ireturn, 1) := by decide +kernel
theorem dL_breaksIn_6 : decode cL_breaksIn 6 = .ok (.astore_n 2, 1) := by decide +kernel
theorem dL_breaksIn_7 : decode cL_breaksIn 7 = .ok (.sipush (-1001), 3) := by decide +kernel
theorem dL_breaksIn_10 : decode cL_breaksIn 10 = .ok (.ireturn, 1) := by decide +kernel
theorem dL_breaksIn_11 : decode cL_breaksIn 11 = .ok (.astore_n 2, 1) := by decide +kernel
theorem dL_breaksIn_12 : decode cL_breaksIn 12 = .ok (.sipush (-1002), 3) := by decide +kernel
theorem dL_breaksIn_15 : decode cL_breaksIn 15 = .ok (.ireturn, 1) := by decide +kernel
theorem dL_camp_0 : decode cL_camp 0 = .ok (.aload_n 0, 1) := by decide +kernel
theorem dL_camp_1 : decode cL_camp 1 = .ok (.iload_n 1, 1) := by decide +kernel
theorem dL_camp_2 : decode cL_camp 2 = .ok (.invokevirtual 82, 3) := by decide +kernel
theorem dL_camp_5 : decode cL_camp 5 = .ok (.ireturn, 1) := by decide +kernel
theorem dL_camp_6 : decode cL_camp 6 = .ok (.astore_n 2, 1) := by decide +kernel
theorem dL_camp_7 : decode cL_camp 7 = .ok (.sipush (-1001), 3) := by decide +kernel
theorem dL_camp_10 : decode cL_camp 10 = .ok (.ireturn, 1) := by decide +kernel
theorem dL_greatest_0 : decode cL_greatest 0 = .ok (.aload_n 0, 1) := by decide +kernel
theorem dL_greatest_1 : decode cL_greatest 1 = .ok (.iload_n 1, 1) := by decide +kernel
theorem dL_greatest_2 : decode cL_greatest 2 = .ok (.invokevirtual 85, 3) := by decide +kernel
theorem dL_greatest_5 : decode cL_greatest 5 = .ok (.ireturn, 1) := by decide +kernel
theorem dL_greatest_6 : decode cL_greatest 6 = .ok (.astore_n 2, 1) := by decide +kernel
theorem dL_greatest_7 : decode cL_greatest 7 = .ok (.sipush (-1001), 3) := by decide +kernel
theorem dL_greatest_10 : decode cL_greatest 10 = .ok (.ireturn, 1) := by decide +kernel
theorem dL_ranked_0 : decode cL_ranked 0 = .ok (.aload_n 0, 1) := by decide +kernel
theorem dL_ranked_1 : decode cL_ranked 1 = .ok (.iload_n 1, 1) := by decide +kernel
theorem dL_ranked_2 : decode cL_ranked 2 = .ok (.iload_n 2, 1) := by decide +kernel
theorem dL_ranked_3 : decode cL_ranked 3 = .ok (.invokevirtual 89, 3) := by decide +kernel
theorem dL_ranked_6 : decode cL_ranked 6 = .ok (.ireturn, 1) := by decide +kernel
theorem dL_ranked_7 : decode cL_ranked 7 = .ok (.astore_n 3, 1) := by decide +kernel
theorem dL_ranked_8 : decode cL_ranked 8 = .ok (.sipush (-1001), 3) := by decide +kernel
theorem dL_ranked_11 : decode cL_ranked 11 = .ok (.ireturn, 1) := by decide +kernel
theorem dL_ranked_12 : decode cL_ranked 12 = .ok (.astore_n 3, 1) := by decide +kernel
theorem dL_ranked_13 : decode cL_ranked 13 = .ok (.sipush (-1002), 3) := by decide +kernel
theorem dL_ranked_16 : decode cL_ranked 16 = .ok (.ireturn, 1) := by decide +kernel
theorem dL_weakest_0 : decode cL_weakest 0 = .ok (.aload_n 0, 1) := by decide +kernel
theorem dL_weakest_1 : decode cL_weakest 1 = .ok (.iload_n 1, 1) := by decide +kernel
theorem dL_weakest_2 : decode cL_weakest 2 = .ok (.invokevirtual 92, 3) := by decide +kernel
theorem dL_weakest_5 : decode cL_weakest 5 = .ok (.ireturn, 1) := by decide +kernel
theorem dL_weakest_6 : decode cL_weakest 6 = .ok (.astore_n 2, 1) := by decide +kernel
theorem dL_weakest_7 : decode cL_weakest 7 = .ok (.sipush (-1001), 3) := by decide +kernel
theorem dL_weakest_10 : decode cL_weakest 10 = .ok (.ireturn, 1) := by decide +kernel
theorem dL_append_0 : decode cL_append 0 = .ok (.aload_n 0, 1) := by decide +kernel
theorem dL_append_1 : decode cL_append 1 = .ok (.iload_n 1, 1) := by decide +kernel
theorem dL_append_2 : decode cL_append 2 = .ok (.invokevirtual 95, 3) := by decide +kernel
theorem dL_append_5 : decode cL_append 5 = .ok (.ireturn, 1) := by decide +kernel
theorem dL_append_6 : decode cL_append 6 = .ok (.astore_n 2, 1) := by decide +kernel
theorem dL_append_7 : decode cL_append 7 = .ok (.sipush (-1001), 3) := by decide +kernel
theorem dL_append_10 : decode cL_append 10 = .ok (.ireturn, 1) := by decide +kernel
theorem dL_commands_0 : decode cL_commands 0 = .ok (.aload_n 0, 1) := by decide +kernel
theorem dL_commands_1 : decode cL_commands 1 = .ok (.invokevirtual 101, 3) := by decide +kernel
theorem dL_commands_4 : decode cL_commands 4 = .ok (.ireturn, 1) := by decide +kernel
theorem dL_commands_5 : decode cL_commands 5 = .ok (.astore_n 1, 1) := by decide +kernel
theorem dL_commands_6 : decode cL_commands 6 = .ok (.sipush (-1001), 3) := by decide +kernel
theorem dL_commands_9 : decode cL_commands 9 = .ok (.ireturn, 1) := by decide +kernel
theorem dL_commands_10 : decode cL_commands 10 = .ok (.astore_n 1, 1) := by decide +kernel
theorem dL_commands_11 : decode cL_commands 11 = .ok (.sipush (-1002), 3) := by decide +kernel
theorem dL_commands_14 : decode cL_commands 14 = .ok (.ireturn, 1) := by decide +kernel
theorem dL_reason_0 : decode cL_reason 0 = .ok (.aload_n 0, 1) := by decide +kernel
theorem dL_reason_1 : decode cL_reason 1 = .ok (.iload_n 1, 1) := by decide +kernel
theorem dL_reason_2 : decode cL_reason 2 = .ok (.invokevirtual 104, 3) := by decide +kernel
theorem dL_reason_5 : decode cL_reason 5 = .ok (.ireturn, 1) := by decide +kernel
theorem dL_reason_6 : decode cL_reason 6 = .ok (.astore_n 2, 1) := by decide +kernel
theorem dL_reason_7 : decode cL_reason 7 = .ok (.sipush (-1001), 3) := by decide +kernel
theorem dL_reason_10 : decode cL_reason 10 = .ok (.ireturn, 1) := by decide +kernel
theorem dL_reason_11 : decode cL_reason 11 = .ok (.astore_n 2, 1) := by decide +kernel
theorem dL_reason_12 : decode cL_reason 12 = .ok (.sipush (-1002), 3) := by decide +kernel
theorem dL_reason_15 : decode cL_reason 15 = .ok (.ireturn, 1) := by decide +kernel
theorem dL_line_0 : decode cL_line 0 = .ok (.aload_n 0, 1) := by decide +kernel
theorem dL_line_1 : decode cL_line 1 = .ok (.iload_n 1, 1) := by decide +kernel
theorem dL_line_2 : decode cL_line 2 = .ok (.invokevirtual 107, 3) := by decide +kernel
theorem dL_line_5 : decode cL_line 5 = .ok (.ireturn, 1) := by decide +kernel
theorem dL_line_6 : decode cL_line 6 = .ok (.astore_n 2, 1) := by decide +kernel
theorem dL_line_7 : decode cL_line 7 = .ok (.sipush (-1001), 3) := by decide +kernel
theorem dL_line_10 : decode cL_line 10 = .ok (.ireturn, 1) := by decide +kernel
theorem dL_character_0 : decode cL_character 0 = .ok (.aload_n 0, 1) := by decide +kernel
theorem dL_character_1 : decode cL_character 1 = .ok (.iload_n 1, 1) := by decide +kernel
theorem dL_character_2 : decode cL_character 2 = .ok (.invokevirtual 110, 3) := by decide +kernel
theorem dL_character_5 : decode cL_character 5 = .ok (.ireturn, 1) := by decide +kernel
theorem dL_character_6 : decode cL_character 6 = .ok (.astore_n 2, 1) := by decide +kernel
theorem dL_character_7 : decode cL_character 7 = .ok (.sipush (-1001), 3) := by decide +kernel
theorem dL_character_10 : decode cL_character 10 = .ok (.ireturn, 1) := by decide +kernel
theorem dL_meanTilt_0 : decode cL_meanTilt 0 = .ok (.aload_n 0, 1) := by decide +kernel
theorem dL_meanTilt_1 : decode cL_meanTilt 1 = .ok (.invokevirtual 114, 3) := by decide +kernel
theorem dL_meanTilt_4 : decode cL_meanTilt 4 = .ok (.dreturn, 1) := by decide +kernel
theorem dL_meanTilt_5 : decode cL_meanTilt 5 = .ok (.astore_n 1, 1) := by decide +kernel
theorem dL_meanTilt_6 : decode cL_meanTilt 6 = .ok (.ldc2_w 120, 3) := by decide +kernel
theorem dL_meanTilt_9 : decode cL_meanTilt 9 = .ok (.dreturn, 1) := by decide +kernel
theorem dL_plumbShare_0 : decode cL_plumbShare 0 = .ok (.aload_n 0, 1) := by decide +kernel
theorem dL_plumbShare_1 : decode cL_plumbShare 1 = .ok (.invokevirtual 122, 3) := by decide +kernel
theorem dL_plumbShare_4 : decode cL_plumbShare 4 = .ok (.freturn, 1) := by decide +kernel
theorem dL_plumbShare_5 : decode cL_plumbShare 5 = .ok (.astore_n 1, 1) := by decide +kernel
theorem dL_plumbShare_6 : decode cL_plumbShare 6 = .ok (.ldc 126, 2) := by decide +kernel
theorem dL_plumbShare_8 : decode cL_plumbShare 8 = .ok (.freturn, 1) := by decide +kernel
theorem dL_account_0 : decode cL_account 0 = .ok (.aload_n 0, 1) := by decide +kernel
theorem dL_account_1 : decode cL_account 1 = .ok (.iload_n 1, 1) := by decide +kernel
theorem dL_account_2 : decode cL_account 2 = .ok (.invokevirtual 127, 3) := by decide +kernel
theorem dL_account_5 : decode cL_account 5 = .ok (.ireturn, 1) := by decide +kernel
theorem dL_account_6 : decode cL_account 6 = .ok (.astore_n 2, 1) := by decide +kernel
theorem dL_account_7 : decode cL_account 7 = .ok (.sipush (-1001), 3) := by decide +kernel
theorem dL_account_10 : decode cL_account 10 = .ok (.ireturn, 1) := by decide +kernel
theorem dL_undo_0 : decode cL_undo 0 = .ok (.aload_n 0, 1) := by decide +kernel
theorem dL_undo_1 : decode cL_undo 1 = .ok (.invokevirtual 130, 3) := by decide +kernel
theorem dL_undo_4 : decode cL_undo 4 = .ok (.ireturn, 1) := by decide +kernel
theorem dL_undo_5 : decode cL_undo 5 = .ok (.astore_n 1, 1) := by decide +kernel
theorem dL_undo_6 : decode cL_undo 6 = .ok (.sipush (-1001), 3) := by decide +kernel
theorem dL_undo_9 : decode cL_undo 9 = .ok (.ireturn, 1) := by decide +kernel
theorem dL_restore_0 : decode cL_restore 0 = .ok (.aload_n 0, 1) := by decide +kernel
theorem dL_restore_1 : decode cL_restore 1 = .ok (.invokevirtual 133, 3) := by decide +kernel
theorem dL_restore_4 : decode cL_restore 4 = .ok (.ireturn, 1) := by decide +kernel
theorem dL_restore_5 : decode cL_restore 5 = .ok (.astore_n 1, 1) := by decide +kernel
theorem dL_restore_6 : decode cL_restore 6 = .ok (.sipush (-1001), 3) := by decide +kernel
theorem dL_restore_9 : decode cL_restore 9 = .ok (.ireturn, 1) := by decide +kernel
theorem dL_runs_0 : decode cL_runs 0 = .ok (.iconst 0, 1) := by decide +kernel
theorem dL_runs_1 : decode cL_runs 1 = .ok (.istore_n 2, 1) := by decide +kernel
theorem dL_runs_2 : decode cL_runs 2 = .ok (.iload_n 2, 1) := by decide +kernel
theorem dL_runs_3 : decode cL_runs 3 = .ok (.aload_n 1, 1) := by decide +kernel
theorem dL_runs_4 : decode cL_runs 4 = .ok (.invokevirtual 136, 3) := by decide +kernel
theorem dL_runs_7 : decode cL_runs 7 = .ok (.if_icmp .ge 28, 3) := by decide +kernel
theorem dL_runs_10 : decode cL_runs 10 = .ok (.aload_n 0, 1) := by decide +kernel
theorem dL_runs_11 : decode cL_runs 11 = .ok (.aload_n 1, 1) := by decide +kernel
theorem dL_runs_12 : decode cL_runs 12 = .ok (.iload_n 2, 1) := by decide +kernel
theorem dL_runs_13 : decode cL_runs 13 = .ok (.invokevirtual 141, 3) := by decide +kernel
theorem dL_runs_16 : decode cL_runs 16 = .ok (.invokestatic 144, 3) := by decide +kernel
theorem dL_runs_19 : decode cL_runs 19 = .ok (.iload_n 2, 1) := by decide +kernel
theorem dL_runs_20 : decode cL_runs 20 = .ok (.iconst 1, 1) := by decide +kernel
theorem dL_runs_21 : decode cL_runs 21 = .ok (.iadd, 1) := by decide +kernel
theorem dL_runs_22 : decode cL_runs 22 = .ok (.if_icmp .eq 7, 3) := by decide +kernel
theorem dL_runs_25 : decode cL_runs 25 = .ok (.sipush (-9999), 3) := by decide +kernel
theorem dL_runs_28 : decode cL_runs 28 = .ok (.ireturn, 1) := by decide +kernel
theorem dL_runs_29 : decode cL_runs 29 = .ok (.iinc 2 1, 3) := by decide +kernel
theorem dL_runs_32 : decode cL_runs 32 = .ok (.goto (-30), 3) := by decide +kernel
theorem dL_runs_35 : decode cL_runs 35 = .ok (.aload_n 0, 1) := by decide +kernel
theorem dL_runs_36 : decode cL_runs 36 = .ok (.invokestatic 149, 3) := by decide +kernel
theorem dL_runs_39 : decode cL_runs 39 = .ok (.ireturn, 1) := by decide +kernel
theorem dL_is_0 : decode cL_is 0 = .ok (.aload_n 0, 1) := by decide +kernel
theorem dL_is_1 : decode cL_is 1 = .ok (.iconst 0, 1) := by decide +kernel
theorem dL_is_2 : decode cL_is 2 = .ok (.iload_n 1, 1) := by decide +kernel
theorem dL_is_3 : decode cL_is 3 = .ok (.iload_n 2, 1) := by decide +kernel
theorem dL_is_4 : decode cL_is 4 = .ok (.invokestatic 152, 3) := by decide +kernel
theorem dL_is_7 : decode cL_is 7 = .ok (.ireturn, 1) := by decide +kernel
theorem dL_isAt_0 : decode cL_isAt 0 = .ok (.aload_n 0, 1) := by decide +kernel
theorem dL_isAt_1 : decode cL_isAt 1 = .ok (.iconst 0, 1) := by decide +kernel
theorem dL_isAt_2 : decode cL_isAt 2 = .ok (.invokestatic 156, 3) := by decide +kernel
theorem dL_isAt_5 : decode cL_isAt 5 = .ok (.iload_n 2, 1) := by decide +kernel
theorem dL_isAt_6 : decode cL_isAt 6 = .ok (.if_icmp .ne 36, 3) := by decide +kernel
theorem dL_isAt_9 : decode cL_isAt 9 = .ok (.aload_n 0, 1) := by decide +kernel
theorem dL_isAt_10 : decode cL_isAt 10 = .ok (.iconst 1, 1) := by decide +kernel
theorem dL_isAt_11 : decode cL_isAt 11 = .ok (.invokestatic 156, 3) := by decide +kernel
theorem dL_isAt_14 : decode cL_isAt 14 = .ok (.iload_n 3, 1) := by decide +kernel
theorem dL_isAt_15 : decode cL_isAt 15 = .ok (.if_icmp .ne 27, 3) := by decide +kernel
theorem dL_isAt_18 : decode cL_isAt 18 = .ok (.aload_n 0, 1) := by decide +kernel
theorem dL_isAt_19 : decode cL_isAt 19 = .ok (.iconst 2, 1) := by decide +kernel
theorem dL_isAt_20 : decode cL_isAt 20 = .ok (.invokestatic 156, 3) := by decide +kernel
theorem dL_isAt_23 : decode cL_isAt 23 = .ok (.iload_n 1, 1) := by decide +kernel
theorem dL_isAt_24 : decode cL_isAt 24 = .ok (.if_icmp .ne 18, 3) := by decide +kernel
theorem dL_isAt_27 : decode cL_isAt 27 = .ok (.aload_n 0, 1) := by decide +kernel
theorem dL_isAt_28 : decode cL_isAt 28 = .ok (.iconst 3, 1) := by decide +kernel
theorem dL_isAt_29 : decode cL_isAt 29 = .ok (.invokestatic 156, 3) := by decide +kernel
theorem dL_isAt_32 : decode cL_isAt 32 = .ok (.sipush (-1001), 3) := by decide +kernel
theorem dL_isAt_35 : decode cL_isAt 35 = .ok (.if_icmp .ne 7, 3) := by decide +kernel
theorem dL_isAt_38 : decode cL_isAt 38 = .ok (.iconst 1, 1) := by decide +kernel
theorem dL_isAt_39 : decode cL_isAt 39 = .ok (.goto 4, 3) := by decide +kernel
theorem dL_isAt_42 : decode cL_isAt 42 = .ok (.iconst 0, 1) := by decide +kernel
theorem dL_isAt_43 : decode cL_isAt 43 = .ok (.ireturn, 1) := by decide +kernel
theorem dL_makes_0 : decode cL_makes 0 = .ok (.iconst 2, 1) := by decide +kernel
theorem dL_makes_1 : decode cL_makes 1 = .ok (.aload_n 1, 1) := by decide +kernel
theorem dL_makes_2 : decode cL_makes 2 = .ok (.iconst 0, 1) := by decide +kernel
theorem dL_makes_3 : decode cL_makes 3 = .ok (.invokestatic 161, 3) := by decide +kernel
theorem dL_makes_6 : decode cL_makes 6 = .ok (.iconst 5, 1) := by decide +kernel
theorem dL_makes_7 : decode cL_makes 7 = .ok (.invokestatic 165, 3) := by decide +kernel
theorem dL_makes_10 : decode cL_makes 10 = .ok (.iadd, 1) := by decide +kernel
theorem dL_makes_11 : decode cL_makes 11 = .ok (.istore_n 2, 1) := by decide +kernel
theorem dL_makes_12 : decode cL_makes 12 = .ok (.iconst 0, 1) := by decide +kernel
theorem dL_makes_13 : decode cL_makes 13 = .ok (.istore_n 3, 1) := by decide +kernel
theorem dL_makes_14 : decode cL_makes 14 = .ok (.iload_n 3, 1) := by decide +kernel
theorem dL_makes_15 : decode cL_makes 15 = .ok (.iload_n 2, 1) := by decide +kernel
theorem dL_makes_16 : decode cL_makes 16 = .ok (.if_icmp .ge 55, 3) := by decide +kernel
theorem dL_makes_19 : decode cL_makes 19 = .ok (.aload_n 0, 1) := by decide +kernel
theorem dL_makes_20 : decode cL_makes 20 = .ok (.aload_n 1, 1) := by decide +kernel
theorem dL_makes_21 : decode cL_makes 21 = .ok (.iconst 1, 1) := by decide +kernel
theorem dL_makes_22 : decode cL_makes 22 = .ok (.iload_n 3, 1) := by decide +kernel
theorem dL_makes_23 : decode cL_makes 23 = .ok (.iadd, 1) := by decide +kernel
theorem dL_makes_24 : decode cL_makes 24 = .ok (.invokestatic 161, 3) := by decide +kernel
theorem dL_makes_27 : decode cL_makes 27 = .ok (.bipush 41, 2) := by decide +kernel
theorem dL_makes_29 : decode cL_makes 29 = .ok (.invokestatic 165, 3) := by decide +kernel
theorem dL_makes_32 : decode cL_makes 32 = .ok (.bipush 20, 2) := by decide +kernel
theorem dL_makes_34 : decode cL_makes 34 = .ok (.isub, 1) := by decide +kernel
theorem dL_makes_35 : decode cL_makes 35 = .ok (.aload_n 1, 1) := by decide +kernel
theorem dL_makes_36 : decode cL_makes 36 = .ok (.iconst 1, 1) := by decide +kernel
theorem dL_makes_37 : decode cL_makes 37 = .ok (.iload_n 3, 1) := by decide +kernel
theorem dL_makes_38 : decode cL_makes 38 = .ok (.iadd, 1) := by decide +kernel
theorem dL_makes_39 : decode cL_makes 39 = .ok (.invokestatic 161, 3) := by decide +kernel
theorem dL_makes_42 : decode cL_makes 42 = .ok (.bipush 7, 2) := by decide +kernel
theorem dL_makes_44 : decode cL_makes 44 = .ok (.ishr, 1) := by decide +kernel
theorem dL_makes_45 : decode cL_makes 45 = .ok (.iconst 1, 1) := by decide +kernel
theorem dL_makes_46 : decode cL_makes 46 = .ok (.iand, 1) := by decide +kernel
theorem dL_makes_47 : decode cL_makes 47 = .ok (.iconst 1, 1) := by decide +kernel
theorem dL_makes_48 : decode cL_makes 48 = .ok (.if_icmp .ne 7, 3) := by decide +kernel
theorem dL_makes_51 : decode cL_makes 51 = .ok (.iconst 1, 1) := by decide +kernel
theorem dL_makes_52 : decode cL_makes 52 = .ok (.goto 4, 3) := by decide +kernel
theorem dL_makes_55 : decode cL_makes 55 = .ok (.iconst 0, 1) := by decide +kernel
theorem dL_makes_56 : decode cL_makes 56 = .ok (.invokestatic 168, 3) := by decide +kernel
theorem dL_makes_59 : decode cL_makes 59 = .ok (.iload_n 3, 1) := by decide +kernel
theorem dL_makes_60 : decode cL_makes 60 = .ok (.if_icmp .eq 5, 3) := by decide +kernel
theorem dL_makes_63 : decode cL_makes 63 = .ok (.iconst 0, 1) := by decide +kernel
theorem dL_makes_64 : decode cL_makes 64 = .ok (.ireturn, 1) := by decide +kernel
theorem dL_makes_65 : decode cL_makes 65 = .ok (.iinc 3 1, 3) := by decide +kernel
theorem dL_makes_68 : decode cL_makes 68 = .ok (.goto (-54), 3) := by decide +kernel
theorem dL_makes_71 : decode cL_makes 71 = .ok (.iconst 0, 1) := by decide +kernel
theorem dL_makes_72 : decode cL_makes 72 = .ok (.istore_n 3, 1) := by decide +kernel
theorem dL_makes_73 : decode cL_makes 73 = .ok (.iload_n 3, 1) := by decide +kernel
theorem dL_makes_74 : decode cL_makes 74 = .ok (.bipush 7, 2) := by decide +kernel
theorem dL_makes_76 : decode cL_makes 76 = .ok (.if_icmp .ge 81, 3) := by decide +kernel
theorem dL_makes_79 : decode cL_makes 79 = .ok (.aload_n 1, 1) := by decide +kernel
theorem dL_makes_80 : decode cL_makes 80 = .ok (.bipush 7, 2) := by decide +kernel
theorem dL_makes_82 : decode cL_makes 82 = .ok (.iload_n 3, 1) := by decide +kernel
theorem dL_makes_83 : decode cL_makes 83 = .ok (.iadd, 1) := by decide +kernel
theorem dL_makes_84 : decode cL_makes 84 = .ok (.invokestatic 161, 3) := by decide +kernel
theorem dL_makes_87 : decode cL_makes 87 = .ok (.istore 4, 2) := by decide +kernel
theorem dL_makes_89 : decode cL_makes 89 = .ok (.iload 4, 2) := by decide +kernel
theorem dL_makes_91 : decode cL_makes 91 = .ok (.iload_n 2, 1) := by decide +kernel
theorem dL_makes_92 : decode cL_makes 92 = .ok (.invokestatic 165, 3) := by decide +kernel
theorem dL_makes_95 : decode cL_makes 95 = .ok (.istore 5, 2) := by decide +kernel
theorem dL_makes_97 : decode cL_makes 97 = .ok (.aload_n 0, 1) := by decide +kernel
theorem dL_makes_98 : decode cL_makes 98 = .ok (.iload 5, 2) := by decide +kernel
theorem dL_makes_100 : decode cL_makes 100 = .ok (.iload 5, 2) := by decide +kernel
theorem dL_makes_102 : decode cL_makes 102 = .ok (.iconst 1, 1) := by decide +kernel
theorem dL_makes_103 : decode cL_makes 103 = .ok (.iadd, 1) := by decide +kernel
theorem dL_makes_104 : decode cL_makes 104 = .ok (.iload 4, 2) := by decide +kernel
theorem dL_makes_106 : decode cL_makes 106 = .ok (.iconst 3, 1) := by decide +kernel
theorem dL_makes_107 : decode cL_makes 107 = .ok (.ishr, 1) := by decide +kernel
theorem dL_makes_108 : decode cL_makes 108 = .ok (.iload_n 2, 1) := by decide +kernel
theorem dL_makes_109 : decode cL_makes 109 = .ok (.iconst 1, 1) := by decide +kernel
theorem dL_makes_110 : decode cL_makes 110 = .ok (.isub, 1) := by decide +kernel
theorem dL_makes_111 : decode cL_makes 111 = .ok (.invokestatic 165, 3) := by decide +kernel
theorem dL_makes_114 : decode cL_makes 114 = .ok (.iadd, 1) := by decide +kernel
theorem dL_makes_115 : decode cL_makes 115 = .ok (.iload_n 2, 1) := by decide +kernel
theorem dL_makes_116 : decode cL_makes 116 = .ok (.irem, 1) := by decide +kernel
theorem dL_makes_117 : decode cL_makes 117 = .ok (.iload 4, 2) := by decide +kernel
theorem dL_makes_119 : decode cL_makes 119 = .ok (.bipush 6, 2) := by decide +kernel
theorem dL_makes_121 : decode cL_makes 121 = .ok (.ishr, 1) := by decide +kernel
theorem dL_makes_122 : decode cL_makes 122 = .ok (.bipush 10, 2) := by decide +kernel
theorem dL_makes_124 : decode cL_makes 124 = .ok (.invokestatic 165, 3) := by decide +kernel
theorem dL_makes_127 : decode cL_makes 127 = .ok (.invokestatic 171, 3) := by decide +kernel
theorem dL_makes_130 : decode cL_makes 130 = .ok (.istore 6, 2) := by decide +kernel
theorem dL_makes_132 : decode cL_makes 132 = .ok (.iload 6, 2) := by decide +kernel
theorem dL_makes_134 : decode cL_makes 134 = .ok (.sipush (-1001), 3) := by decide +kernel
theorem dL_makes_137 : decode cL_makes 137 = .ok (.if_icmp .ne 14, 3) := by decide +kernel
theorem dL_makes_140 : decode cL_makes 140 = .ok (.aload_n 0, 1) := by decide +kernel
theorem dL_makes_141 : decode cL_makes 141 = .ok (.iconst 0, 1) := by decide +kernel
theorem dL_makes_142 : decode cL_makes 142 = .ok (.invokestatic 156, 3) := by decide +kernel
theorem dL_makes_145 : decode cL_makes 145 = .ok (.iconst 5, 1) := by decide +kernel
theorem dL_makes_146 : decode cL_makes 146 = .ok (.if_icmp .eq 5, 3) := by decide +kernel
theorem dL_makes_149 : decode cL_makes 149 = .ok (.iconst 0, 1) := by decide +kernel
theorem dL_makes_150 : decode cL_makes 150 = .ok (.ireturn, 1) := by decide +kernel
theorem dL_makes_151 : decode cL_makes 151 = .ok (.iinc 3 1, 3) := by decide +kernel
theorem dL_makes_154 : decode cL_makes 154 = .ok (.goto (-81), 3) := by decide +kernel
theorem dL_makes_157 : decode cL_makes 157 = .ok (.iconst 0, 1) := by decide +kernel
theorem dL_makes_158 : decode cL_makes 158 = .ok (.istore_n 3, 1) := by decide +kernel
theorem dL_makes_159 : decode cL_makes 159 = .ok (.iload_n 3, 1) := by decide +kernel
theorem dL_makes_160 : decode cL_makes 160 = .ok (.iconst 3, 1) := by decide +kernel
theorem dL_makes_161 : decode cL_makes 161 = .ok (.if_icmp .ge 82, 3) := by decide +kernel
theorem dL_makes_164 : decode cL_makes 164 = .ok (.aload_n 1, 1) := by decide +kernel
theorem dL_makes_165 : decode cL_makes 165 = .ok (.bipush 14, 2) := by decide +kernel
theorem dL_makes_167 : decode cL_makes 167 = .ok (.iload_n 3, 1) := by decide +kernel
theorem dL_makes_168 : decode cL_makes 168 = .ok (.iadd, 1) := by decide +kernel
theorem dL_makes_169 : decode cL_makes 169 = .ok (.invokestatic 161, 3) := by decide +kernel
theorem dL_makes_172 : decode cL_makes 172 = .ok (.istore 4, 2) := by decide +kernel
theorem dL_makes_174 : decode cL_makes 174 = .ok (.iload 4, 2) := by decide +kernel
theorem dL_makes_176 : decode cL_makes 176 = .ok (.iload_n 2, 1) := by decide +kernel
theorem dL_makes_177 : decode cL_makes 177 = .ok (.invokestatic 165, 3) := by decide +kernel
theorem dL_makes_180 : decode cL_makes 180 = .ok (.istore 5, 2) := by decide +kernel
theorem dL_makes_182 : decode cL_makes 182 = .ok (.aload_n 0, 1) := by decide +kernel
theorem dL_makes_183 : decode cL_makes 183 = .ok (.iload 5, 2) := by decide +kernel
theorem dL_makes_185 : decode cL_makes 185 = .ok (.iload 5, 2) := by decide +kernel
theorem dL_makes_187 : decode cL_makes 187 = .ok (.iconst 1, 1) := by decide +kernel
theorem dL_makes_188 : decode cL_makes 188 = .ok (.iadd, 1) := by decide +kernel
theorem dL_makes_189 : decode cL_makes 189 = .ok (.iload 4, 2) := by decide +kernel
theorem dL_makes_191 : decode cL_makes 191 = .ok (.iconst 3, 1) := by decide +kernel
theorem dL_makes_192 : decode cL_makes 192 = .ok (.ishr, 1) := by decide +kernel
theorem dL_makes_193 : decode cL_makes 193 = .ok (.iload_n 2, 1) := by decide +kernel
theorem dL_makes_194 : decode cL_makes 194 = .ok (.iconst 1, 1) := by decide +kernel
theorem dL_makes_195 : decode cL_makes 195 = .ok (.isub, 1) := by decide +kernel
theorem dL_makes_196 : decode cL_makes 196 = .ok (.invokestatic 165, 3) := by decide +kernel
theorem dL_makes_199 : decode cL_makes 199 = .ok (.iadd, 1) := by decide +kernel
theorem dL_makes_200 : decode cL_makes 200 = .ok (.iload_n 2, 1) := by decide +kernel
theorem dL_makes_201 : decode cL_makes 201 = .ok (.irem, 1) := by decide +kernel
theorem dL_makes_202 : decode cL_makes 202 = .ok (.iload 4, 2) := by decide +kernel
theorem dL_makes_204 : decode cL_makes 204 = .ok (.bipush 6, 2) := by decide +kernel
theorem dL_makes_206 : decode cL_makes 206 = .ok (.ishr, 1) := by decide +kernel
theorem dL_makes_207 : decode cL_makes 207 = .ok (.bipush 41, 2) := by decide +kernel
theorem dL_makes_209 : decode cL_makes 209 = .ok (.invokestatic 165, 3) := by decide +kernel
theorem dL_makes_212 : decode cL_makes 212 = .ok (.invokestatic 174, 3) := by decide +kernel
theorem dL_makes_215 : decode cL_makes 215 = .ok (.istore 6, 2) := by decide +kernel
theorem dL_makes_217 : decode cL_makes 217 = .ok (.iload 6, 2) := by decide +kernel
theorem dL_makes_219 : decode cL_makes 219 = .ok (.sipush (-1001), 3) := by decide +kernel
theorem dL_makes_222 : decode cL_makes 222 = .ok (.if_icmp .ne 15, 3) := by decide +kernel
theorem dL_makes_225 : decode cL_makes 225 = .ok (.aload_n 0, 1) := by decide +kernel
theorem dL_makes_226 : decode cL_makes 226 = .ok (.iconst 0, 1) := by decide +kernel
theorem dL_makes_227 : decode cL_makes 227 = .ok (.invokestatic 156, 3) := by decide +kernel
theorem dL_makes_230 : decode cL_makes 230 = .ok (.bipush 9, 2) := by decide +kernel
theorem dL_makes_232 : decode cL_makes 232 = .ok (.if_icmp .eq 5, 3) := by decide +kernel
theorem dL_makes_235 : decode cL_makes 235 = .ok (.iconst 0, 1) := by decide +kernel
theorem dL_makes_236 : decode cL_makes 236 = .ok (.ireturn, 1) := by decide +kernel
theorem dL_makes_237 : decode cL_makes 237 = .ok (.iinc 3 1, 3) := by decide +kernel
theorem dL_makes_240 : decode cL_makes 240 = .ok (.goto (-81), 3) := by decide +kernel
theorem dL_makes_243 : decode cL_makes 243 = .ok (.aload_n 0, 1) := by decide +kernel
theorem dL_makes_244 : decode cL_makes 244 = .ok (.aload_n 1, 1) := by decide +kernel
theorem dL_makes_245 : decode cL_makes 245 = .ok (.bipush 17, 2) := by decide +kernel
theorem dL_makes_247 : decode cL_makes 247 = .ok (.invokestatic 161, 3) := by decide +kernel
theorem dL_makes_250 : decode cL_makes 250 = .ok (.iload_n 2, 1) := by decide +kernel
theorem dL_makes_251 : decode cL_makes 251 = .ok (.invokestatic 165, 3) := by decide +kernel
theorem dL_makes_254 : decode cL_makes 254 = .ok (.aload_n 1, 1) := by decide +kernel
theorem dL_makes_255 : decode cL_makes 255 = .ok (.bipush 17, 2) := by decide +kernel
theorem dL_makes_257 : decode cL_makes 257 = .ok (.invokestatic 161, 3) := by decide +kernel
theorem dL_makes_260 : decode cL_makes 260 = .ok (.iconst 4, 1) := by decide +kernel
theorem dL_makes_261 : decode cL_makes 261 = .ok (.ishr, 1) := by decide +kernel
theorem dL_makes_262 : decode cL_makes 262 = .ok (.bipush 10, 2) := by decide +kernel
theorem dL_makes_264 : decode cL_makes 264 = .ok (.invokestatic 165, 3) := by decide +kernel
theorem dL_makes_267 : decode cL_makes 267 = .ok (.invokestatic 176, 3) := by decide +kernel
theorem dL_makes_270 : decode cL_makes 270 = .ok (.istore_n 3, 1) := by decide +kernel
theorem dL_makes_271 : decode cL_makes 271 = .ok (.iload_n 3, 1) := by decide +kernel
theorem dL_makes_272 : decode cL_makes 272 = .ok (.sipush (-1001), 3) := by decide +kernel
theorem dL_makes_275 : decode cL_makes 275 = .ok (.if_icmp .ne 14, 3) := by decide +kernel
theorem dL_makes_278 : decode cL_makes 278 = .ok (.aload_n 0, 1) := by decide +kernel
theorem dL_makes_279 : decode cL_makes 279 = .ok (.iconst 0, 1) := by decide +kernel
theorem dL_makes_280 : decode cL_makes 280 = .ok (.invokestatic 156, 3) := by decide +kernel
theorem dL_makes_283 : decode cL_makes 283 = .ok (.iconst 5, 1) := by decide +kernel
theorem dL_makes_284 : decode cL_makes 284 = .ok (.if_icmp .eq 5, 3) := by decide +kernel
theorem dL_makes_287 : decode cL_makes 287 = .ok (.iconst 0, 1) := by decide +kernel
theorem dL_makes_288 : decode cL_makes 288 = .ok (.ireturn, 1) := by decide +kernel
theorem dL_makes_289 : decode cL_makes 289 = .ok (.aload_n 1, 1) := by decide +kernel
theorem dL_makes_290 : decode cL_makes 290 = .ok (.bipush 18, 2) := by decide +kernel
theorem dL_makes_292 : decode cL_makes 292 = .ok (.invokestatic 161, 3) := by decide +kernel
theorem dL_makes_295 : decode cL_makes 295 = .ok (.iconst 1, 1) := by decide +kernel
theorem dL_makes_296 : decode cL_makes 296 = .ok (.iand, 1) := by decide +kernel
theorem dL_makes_297 : decode cL_makes 297 = .ok (.ifCond .eq 10, 3) := by decide +kernel
theorem dL_makes_300 : decode cL_makes 300 = .ok (.aload_n 0, 1) := by decide +kernel
theorem dL_makes_301 : decode cL_makes 301 = .ok (.invokestatic 179, 3) := by decide +kernel
theorem dL_makes_304 : decode cL_makes 304 = .ok (.ifCond .lt 7, 3) := by decide +kernel
theorem dL_makes_307 : decode cL_makes 307 = .ok (.iconst 1, 1) := by decide +kernel
theorem dL_makes_308 : decode cL_makes 308 = .ok (.goto 4, 3) := by decide +kernel
theorem dL_makes_311 : decode cL_makes 311 = .ok (.iconst 0, 1) := by decide +kernel
theorem dL_makes_312 : decode cL_makes 312 = .ok (.ireturn, 1) := by decide +kernel
theorem dL_asks_0 : decode cL_asks 0 = .ok (.ldc2_w 181, 3) := by decide +kernel
theorem dL_asks_3 : decode cL_asks 3 = .ok (.aload_n 0, 1) := by decide +kernel
theorem dL_asks_4 : decode cL_asks 4 = .ok (.invokestatic 183, 3) := by decide +kernel
theorem dL_asks_7 : decode cL_asks 7 = .ok (.invokestatic 186, 3) := by decide +kernel
theorem dL_asks_10 : decode cL_asks 10 = .ok (.lmul, 1) := by decide +kernel
theorem dL_asks_11 : decode cL_asks 11 = .ok (.aload_n 0, 1) := by decide +kernel
theorem dL_asks_12 : decode cL_asks 12 = .ok (.invokestatic 192, 3) := by decide +kernel
theorem dL_asks_15 : decode cL_asks 15 = .ok (.invokestatic 195, 3) := by decide +kernel
theorem dL_asks_18 : decode cL_asks 18 = .ok (.i2l, 1) := by decide +kernel
theorem dL_asks_19 : decode cL_asks 19 = .ok (.ladd, 1) := by decide +kernel
theorem dL_asks_20 : decode cL_asks 20 = .ok (.lstore_n 1, 1) := by decide +kernel
theorem dL_asks_21 : decode cL_asks 21 = .ok (.aload_n 0, 1) := by decide +kernel
theorem dL_asks_22 : decode cL_asks 22 = .ok (.iconst 0, 1) := by decide +kernel
theorem dL_asks_23 : decode cL_asks 23 = .ok (.invokestatic 201, 3) := by decide +kernel
theorem dL_asks_26 : decode cL_asks 26 = .ok (.istore_n 3, 1) := by decide +kernel
theorem dL_asks_27 : decode cL_asks 27 = .ok (.iconst 0, 1) := by decide +kernel
theorem dL_asks_28 : decode cL_asks 28 = .ok (.istore 4, 2) := by decide +kernel
theorem dL_asks_30 : decode cL_asks 30 = .ok (.iload 4, 2) := by decide +kernel
theorem dL_asks_32 : decode cL_asks 32 = .ok (.bipush 9, 2) := by decide +kernel
theorem dL_asks_34 : decode cL_asks 34 = .ok (.if_icmp .ge 23, 3) := by decide +kernel
theorem dL_asks_37 : decode cL_asks 37 = .ok (.ldc2_w 181, 3) := by decide +kernel
theorem dL_asks_40 : decode cL_asks 40 = .ok (.lload_n 1, 1) := by decide +kernel
theorem dL_asks_41 : decode cL_asks 41 = .ok (.lmul, 1) := by decide +kernel
theorem dL_asks_42 : decode cL_asks 42 = .ok (.aload_n 0, 1) := by decide +kernel
theorem dL_asks_43 : decode cL_asks 43 = .ok (.iload 4, 2) := by decide +kernel
theorem dL_asks_45 : decode cL_asks 45 = .ok (.invokestatic 201, 3) := by decide +kernel
theorem dL_asks_48 : decode cL_asks 48 = .ok (.i2l, 1) := by decide +kernel
theorem dL_asks_49 : decode cL_asks 49 = .ok (.ladd, 1) := by decide +kernel
theorem dL_asks_50 : decode cL_asks 50 = .ok (.lstore_n 1, 1) := by decide +kernel
theorem dL_asks_51 : decode cL_asks 51 = .ok (.iinc 4 1, 3) := by decide +kernel
theorem dL_asks_54 : decode cL_asks 54 = .ok (.goto (-24), 3) := by decide +kernel
theorem dL_asks_57 : decode cL_asks 57 = .ok (.iconst 0, 1) := by decide +kernel
theorem dL_asks_58 : decode cL_asks 58 = .ok (.istore 4, 2) := by decide +kernel
theorem dL_asks_60 : decode cL_asks 60 = .ok (.iload 4, 2) := by decide +kernel
theorem dL_asks_62 : decode cL_asks 62 = .ok (.iload_n 3, 1) := by decide +kernel
theorem dL_asks_63 : decode cL_asks 63 = .ok (.if_icmp .ge 190, 3) := by decide +kernel
theorem dL_asks_66 : decode cL_asks 66 = .ok (.iconst 0, 1) := by decide +kernel
theorem dL_asks_67 : decode cL_asks 67 = .ok (.istore 5, 2) := by decide +kernel
theorem dL_asks_69 : decode cL_asks 69 = .ok (.iload 5, 2) := by decide +kernel
theorem dL_asks_71 : decode cL_asks 71 = .ok (.bipush 8, 2) := by decide +kernel
theorem dL_asks_73 : decode cL_asks 73 = .ok (.if_icmp .ge 25, 3) := by decide +kernel
theorem dL_asks_76 : decode cL_asks 76 = .ok (.ldc2_w 181, 3) := by decide +kernel
theorem dL_asks_79 : decode cL_asks 79 = .ok (.lload_n 1, 1) := by decide +kernel
theorem dL_asks_80 : decode cL_asks 80 = .ok (.lmul, 1) := by decide +kernel
theorem dL_asks_81 : decode cL_asks 81 = .ok (.aload_n 0, 1) := by decide +kernel
theorem dL_asks_82 : decode cL_asks 82 = .ok (.iload 4, 2) := by decide +kernel
theorem dL_asks_84 : decode cL_asks 84 = .ok (.iload 5, 2) := by decide +kernel
theorem dL_asks_86 : decode cL_asks 86 = .ok (.invokestatic 203, 3) := by decide +kernel
theorem dL_asks_89 : decode cL_asks 89 = .ok (.i2l, 1) := by decide +kernel
theorem dL_asks_90 : decode cL_asks 90 = .ok (.ladd, 1) := by decide +kernel
theorem dL_asks_91 : decode cL_asks 91 = .ok (.lstore_n 1, 1) := by decide +kernel
theorem dL_asks_92 : decode cL_asks 92 = .ok (.iinc 5 1, 3) := by decide +kernel
theorem dL_asks_95 : decode cL_asks 95 = .ok (.goto (-26), 3) := by decide +kernel
theorem dL_asks_98 : decode cL_asks 98 = .ok (.iconst 0, 1) := by decide +kernel
theorem dL_asks_99 : decode cL_asks 99 = .ok (.istore 5, 2) := by decide +kernel
theorem dL_asks_101 : decode cL_asks 101 = .ok (.iload 5, 2) := by decide +kernel
theorem dL_asks_103 : decode cL_asks 103 = .ok (.iload_n 3, 1) := by decide +kernel
theorem dL_asks_104 : decode cL_asks 104 = .ok (.if_icmp .ge 25, 3) := by decide +kernel
theorem dL_asks_107 : decode cL_asks 107 = .ok (.ldc2_w 181, 3) := by decide +kernel
theorem dL_asks_110 : decode cL_asks 110 = .ok (.lload_n 1, 1) := by decide +kernel
theorem dL_asks_111 : decode cL_asks 111 = .ok (.lmul, 1) := by decide +kernel
theorem dL_asks_112 : decode cL_asks 112 = .ok (.aload_n 0, 1) := by decide +kernel
theorem dL_asks_113 : decode cL_asks 113 = .ok (.iload 4, 2) := by decide +kernel
theorem dL_asks_115 : decode cL_asks 115 = .ok (.iload 5, 2) := by decide +kernel
theorem dL_asks_117 : decode cL_asks 117 = .ok (.invokestatic 206, 3) := by decide +kernel
theorem dL_asks_120 : decode cL_asks 120 = .ok (.i2l, 1) := by decide +kernel
theorem dL_asks_121 : decode cL_asks 121 = .ok (.ladd, 1) := by decide +kernel
theorem dL_asks_122 : decode cL_asks 122 = .ok (.lstore_n 1, 1) := by decide +kernel
theorem dL_asks_123 : decode cL_asks 123 = .ok (.iinc 5 1, 3) := by decide +kernel
theorem dL_asks_126 : decode cL_asks 126 = .ok (.goto (-25), 3) := by decide +kernel
theorem dL_asks_129 : decode cL_asks 129 = .ok (.ldc2_w 181, 3) := by decide +kernel
theorem dL_asks_132 : decode cL_asks 132 = .ok (.ldc2_w 181, 3) := by decide +kernel
theorem dL_asks_135 : decode cL_asks 135 = .ok (.ldc2_w 181, 3) := by decide +kernel
theorem dL_asks_138 : decode cL_asks 138 = .ok (.ldc2_w 181, 3) := by decide +kernel
theorem dL_asks_141 : decode cL_asks 141 = .ok (.lload_n 1, 1) := by decide +kernel
theorem dL_asks_142 : decode cL_asks 142 = .ok (.lmul, 1) := by decide +kernel
theorem dL_asks_143 : decode cL_asks 143 = .ok (.aload_n 0, 1) := by decide +kernel
theorem dL_asks_144 : decode cL_asks 144 = .ok (.iload 4, 2) := by decide +kernel
theorem dL_asks_146 : decode cL_asks 146 = .ok (.invokestatic 208, 3) := by decide +kernel
theorem dL_asks_149 : decode cL_asks 149 = .ok (.i2l, 1) := by decide +kernel
theorem dL_asks_150 : decode cL_asks 150 = .ok (.ladd, 1) := by decide +kernel
theorem dL_asks_151 : decode cL_asks 151 = .ok (.lmul, 1) := by decide +kernel
theorem dL_asks_152 : decode cL_asks 152 = .ok (.aload_n 0, 1) := by decide +kernel
theorem dL_asks_153 : decode cL_asks 153 = .ok (.iload 4, 2) := by decide +kernel
theorem dL_asks_155 : decode cL_asks 155 = .ok (.invokestatic 210, 3) := by decide +kernel
theorem dL_asks_158 : decode cL_asks 158 = .ok (.i2l, 1) := by decide +kernel
theorem dL_asks_159 : decode cL_asks 159 = .ok (.ladd, 1) := by decide +kernel
theorem dL_asks_160 : decode cL_asks 160 = .ok (.lmul, 1) := by decide +kernel
theorem dL_asks_161 : decode cL_asks 161 = .ok (.aload_n 0, 1) := by decide +kernel
theorem dL_asks_162 : decode cL_asks 162 = .ok (.iload 4, 2) := by decide +kernel
theorem dL_asks_164 : decode cL_asks 164 = .ok (.bipush 7, 2) := by decide +kernel
theorem dL_asks_166 : decode cL_asks 166 = .ok (.invokestatic 212, 3) := by decide +kernel
theorem dL_asks_169 : decode cL_asks 169 = .ok (.i2l, 1) := by decide +kernel
theorem dL_asks_170 : decode cL_asks 170 = .ok (.ladd, 1) := by decide +kernel
theorem dL_asks_171 : decode cL_asks 171 = .ok (.lmul, 1) := by decide +kernel
theorem dL_asks_172 : decode cL_asks 172 = .ok (.aload_n 0, 1) := by decide +kernel
theorem dL_asks_173 : decode cL_asks 173 = .ok (.iconst 1, 1) := by decide +kernel
theorem dL_asks_174 : decode cL_asks 174 = .ok (.iload 4, 2) := by decide +kernel
theorem dL_asks_176 : decode cL_asks 176 = .ok (.invokestatic 214, 3) := by decide +kernel
theorem dL_asks_179 : decode cL_asks 179 = .ok (.i2l, 1) := by decide +kernel
theorem dL_asks_180 : decode cL_asks 180 = .ok (.ladd, 1) := by decide +kernel
theorem dL_asks_181 : decode cL_asks 181 = .ok (.lstore_n 1, 1) := by decide +kernel
theorem dL_asks_182 : decode cL_asks 182 = .ok (.ldc2_w 181, 3) := by decide +kernel
theorem dL_asks_185 : decode cL_asks 185 = .ok (.ldc2_w 181, 3) := by decide +kernel
theorem dL_asks_188 : decode cL_asks 188 = .ok (.lload_n 1, 1) := by decide +kernel
theorem dL_asks_189 : decode cL_asks 189 = .ok (.lmul, 1) := by decide +kernel
theorem dL_asks_190 : decode cL_asks 190 = .ok (.aload_n 0, 1) := by decide +kernel
theorem dL_asks_191 : decode cL_asks 191 = .ok (.iload 4, 2) := by decide +kernel
theorem dL_asks_193 : decode cL_asks 193 = .ok (.invokestatic 216, 3) := by decide +kernel
theorem dL_asks_196 : decode cL_asks 196 = .ok (.i2l, 1) := by decide +kernel
theorem dL_asks_197 : decode cL_asks 197 = .ok (.ladd, 1) := by decide +kernel
theorem dL_asks_198 : decode cL_asks 198 = .ok (.lmul, 1) := by decide +kernel
theorem dL_asks_199 : decode cL_asks 199 = .ok (.aload_n 0, 1) := by decide +kernel
theorem dL_asks_200 : decode cL_asks 200 = .ok (.iload 4, 2) := by decide +kernel
theorem dL_asks_202 : decode cL_asks 202 = .ok (.iconst 4, 1) := by decide +kernel
theorem dL_asks_203 : decode cL_asks 203 = .ok (.invokestatic 218, 3) := by decide +kernel
theorem dL_asks_206 : decode cL_asks 206 = .ok (.i2l, 1) := by decide +kernel
theorem dL_asks_207 : decode cL_asks 207 = .ok (.ladd, 1) := by decide +kernel
theorem dL_asks_208 : decode cL_asks 208 = .ok (.lstore_n 1, 1) := by decide +kernel
theorem dL_asks_209 : decode cL_asks 209 = .ok (.aload_n 0, 1) := by decide +kernel
theorem dL_asks_210 : decode cL_asks 210 = .ok (.iload 4, 2) := by decide +kernel
theorem dL_asks_212 : decode cL_asks 212 = .ok (.invokestatic 220, 3) := by decide +kernel
theorem dL_asks_215 : decode cL_asks 215 = .ok (.istore 5, 2) := by decide +kernel
theorem dL_asks_217 : decode cL_asks 217 = .ok (.iconst 0, 1) := by decide +kernel
theorem dL_asks_218 : decode cL_asks 218 = .ok (.istore 6, 2) := by decide +kernel
theorem dL_asks_220 : decode cL_asks 220 = .ok (.iload 6, 2) := by decide +kernel
theorem dL_asks_222 : decode cL_asks 222 = .ok (.iload 5, 2) := by decide +kernel
theorem dL_asks_224 : decode cL_asks 224 = .ok (.if_icmp .ge 23, 3) := by decide +kernel
theorem dL_asks_227 : decode cL_asks 227 = .ok (.ldc2_w 181, 3) := by decide +kernel
theorem dL_asks_230 : decode cL_asks 230 = .ok (.lload_n 1, 1) := by decide +kernel
theorem dL_asks_231 : decode cL_asks 231 = .ok (.lmul, 1) := by decide +kernel
theorem dL_asks_232 : decode cL_asks 232 = .ok (.aload_n 0, 1) := by decide +kernel
theorem dL_asks_233 : decode cL_asks 233 = .ok (.iload 6, 2) := by decide +kernel
theorem dL_asks_235 : decode cL_asks 235 = .ok (.invokestatic 159, 3) := by decide +kernel
theorem dL_asks_238 : decode cL_asks 238 = .ok (.i2l, 1) := by decide +kernel
theorem dL_asks_239 : decode cL_asks 239 = .ok (.ladd, 1) := by decide +kernel
theorem dL_asks_240 : decode cL_asks 240 = .ok (.lstore_n 1, 1) := by decide +kernel
theorem dL_asks_241 : decode cL_asks 241 = .ok (.iinc 6 1, 3) := by decide +kernel
theorem dL_asks_244 : decode cL_asks 244 = .ok (.goto (-24), 3) := by decide +kernel
theorem dL_asks_247 : decode cL_asks 247 = .ok (.iinc 4 1, 3) := by decide +kernel
theorem dL_asks_250 : decode cL_asks 250 = .ok (.goto (-190), 3) := by decide +kernel
theorem dL_asks_253 : decode cL_asks 253 = .ok (.iconst 0, 1) := by decide +kernel
theorem dL_asks_254 : decode cL_asks 254 = .ok (.istore 4, 2) := by decide +kernel
theorem dL_asks_256 : decode cL_asks 256 = .ok (.iload 4, 2) := by decide +kernel
theorem dL_asks_258 : decode cL_asks 258 = .ok (.aload_n 0, 1) := by decide +kernel
theorem dL_asks_259 : decode cL_asks 259 = .ok (.iconst 2, 1) := by decide +kernel
theorem dL_asks_260 : decode cL_asks 260 = .ok (.invokestatic 201, 3) := by decide +kernel
theorem dL_asks_263 : decode cL_asks 263 = .ok (.if_icmp .ge 66, 3) := by decide +kernel
theorem dL_asks_266 : decode cL_asks 266 = .ok (.iconst 0, 1) := by decide +kernel
theorem dL_asks_267 : decode cL_asks 267 = .ok (.istore 5, 2) := by decide +kernel
theorem dL_asks_269 : decode cL_asks 269 = .ok (.iload 5, 2) := by decide +kernel
theorem dL_asks_271 : decode cL_asks 271 = .ok (.iconst 5, 1) := by decide +kernel
theorem dL_asks_272 : decode cL_asks 272 = .ok (.if_icmp .ge 25, 3) := by decide +kernel
theorem dL_asks_275 : decode cL_asks 275 = .ok (.ldc2_w 181, 3) := by decide +kernel
theorem dL_asks_278 : decode cL_asks 278 = .ok (.lload_n 1, 1) := by decide +kernel
theorem dL_asks_279 : decode cL_asks 279 = .ok (.lmul, 1) := by decide +kernel
theorem dL_asks_280 : decode cL_asks 280 = .ok (.aload_n 0, 1) := by decide +kernel
theorem dL_asks_281 : decode cL_asks 281 = .ok (.iload 4, 2) := by decide +kernel
theorem dL_asks_283 : decode cL_asks 283 = .ok (.iload 5, 2) := by decide +kernel
theorem dL_asks_285 : decode cL_asks 285 = .ok (.invokestatic 222, 3) := by decide +kernel
theorem dL_asks_288 : decode cL_asks 288 = .ok (.i2l, 1) := by decide +kernel
theorem dL_asks_289 : decode cL_asks 289 = .ok (.ladd, 1) := by decide +kernel
theorem dL_asks_290 : decode cL_asks 290 = .ok (.lstore_n 1, 1) := by decide +kernel
theorem dL_asks_291 : decode cL_asks 291 = .ok (.iinc 5 1, 3) := by decide +kernel
theorem dL_asks_294 : decode cL_asks 294 = .ok (.goto (-25), 3) := by decide +kernel
theorem dL_asks_297 : decode cL_asks 297 = .ok (.ldc2_w 181, 3) := by decide +kernel
theorem dL_asks_300 : decode cL_asks 300 = .ok (.ldc2_w 181, 3) := by decide +kernel
theorem dL_asks_303 : decode cL_asks 303 = .ok (.lload_n 1, 1) := by decide +kernel
theorem dL_asks_304 : decode cL_asks 304 = .ok (.lmul, 1) := by decide +kernel
theorem dL_asks_305 : decode cL_asks 305 = .ok (.aload_n 0, 1) := by decide +kernel
theorem dL_asks_306 : decode cL_asks 306 = .ok (.iload 4, 2) := by decide +kernel
theorem dL_asks_308 : decode cL_asks 308 = .ok (.invokestatic 224, 3) := by decide +kernel
theorem dL_asks_311 : decode cL_asks 311 = .ok (.i2l, 1) := by decide +kernel
theorem dL_asks_312 : decode cL_asks 312 = .ok (.ladd, 1) := by decide +kernel
theorem dL_asks_313 : decode cL_asks 313 = .ok (.lmul, 1) := by decide +kernel
theorem dL_asks_314 : decode cL_asks 314 = .ok (.aload_n 0, 1) := by decide +kernel
theorem dL_asks_315 : decode cL_asks 315 = .ok (.iload 4, 2) := by decide +kernel
theorem dL_asks_317 : decode cL_asks 317 = .ok (.invokestatic 226, 3) := by decide +kernel
theorem dL_asks_320 : decode cL_asks 320 = .ok (.i2l, 1) := by decide +kernel
theorem dL_asks_321 : decode cL_asks 321 = .ok (.ladd, 1) := by decide +kernel
theorem dL_asks_322 : decode cL_asks 322 = .ok (.lstore_n 1, 1) := by decide +kernel
theorem dL_asks_323 : decode cL_asks 323 = .ok (.iinc 4 1, 3) := by decide +kernel
theorem dL_asks_326 : decode cL_asks 326 = .ok (.goto (-70), 3) := by decide +kernel
theorem dL_asks_329 : decode cL_asks 329 = .ok (.aload_n 0, 1) := by decide +kernel
theorem dL_asks_330 : decode cL_asks 330 = .ok (.invokevirtual 228, 3) := by decide +kernel
theorem dL_asks_333 : decode cL_asks 333 = .ok (.istore 4, 2) := by decide +kernel
theorem dL_asks_335 : decode cL_asks 335 = .ok (.iconst 0, 1) := by decide +kernel
theorem dL_asks_336 : decode cL_asks 336 = .ok (.istore 5, 2) := by decide +kernel
theorem dL_asks_338 : decode cL_asks 338 = .ok (.iload 5, 2) := by decide +kernel
theorem dL_asks_340 : decode cL_asks 340 = .ok (.iload 4, 2) := by decide +kernel
theorem dL_asks_342 : decode cL_asks 342 = .ok (.if_icmp .ge 23, 3) := by decide +kernel
theorem dL_asks_345 : decode cL_asks 345 = .ok (.ldc2_w 181, 3) := by decide +kernel
theorem dL_asks_348 : decode cL_asks 348 = .ok (.lload_n 1, 1) := by decide +kernel
theorem dL_asks_349 : decode cL_asks 349 = .ok (.lmul, 1) := by decide +kernel
theorem dL_asks_350 : decode cL_asks 350 = .ok (.aload_n 0, 1) := by decide +kernel
theorem dL_asks_351 : decode cL_asks 351 = .ok (.iload 5, 2) := by decide +kernel
theorem dL_asks_353 : decode cL_asks 353 = .ok (.invokestatic 159, 3) := by decide +kernel
theorem dL_asks_356 : decode cL_asks 356 = .ok (.i2l, 1) := by decide +kernel
theorem dL_asks_357 : decode cL_asks 357 = .ok (.ladd, 1) := by decide +kernel
theorem dL_asks_358 : decode cL_asks 358 = .ok (.lstore_n 1, 1) := by decide +kernel
theorem dL_asks_359 : decode cL_asks 359 = .ok (.iinc 5 1, 3) := by decide +kernel
theorem dL_asks_362 : decode cL_asks 362 = .ok (.goto (-24), 3) := by decide +kernel
theorem dL_asks_365 : decode cL_asks 365 = .ok (.ldc2_w 181, 3) := by decide +kernel
theorem dL_asks_368 : decode cL_asks 368 = .ok (.ldc2_w 181, 3) := by decide +kernel
theorem dL_asks_371 : decode cL_asks 371 = .ok (.ldc2_w 181, 3) := by decide +kernel
theorem dL_asks_374 : decode cL_asks 374 = .ok (.lload_n 1, 1) := by decide +kernel
theorem dL_asks_375 : decode cL_asks 375 = .ok (.lmul, 1) := by decide +kernel
theorem dL_asks_376 : decode cL_asks 376 = .ok (.aload_n 0, 1) := by decide +kernel
theorem dL_asks_377 : decode cL_asks 377 = .ok (.invokestatic 231, 3) := by decide +kernel
theorem dL_asks_380 : decode cL_asks 380 = .ok (.i2l, 1) := by decide +kernel
theorem dL_asks_381 : decode cL_asks 381 = .ok (.ladd, 1) := by decide +kernel
theorem dL_asks_382 : decode cL_asks 382 = .ok (.lmul, 1) := by decide +kernel
theorem dL_asks_383 : decode cL_asks 383 = .ok (.aload_n 0, 1) := by decide +kernel
theorem dL_asks_384 : decode cL_asks 384 = .ok (.invokevirtual 233, 3) := by decide +kernel
theorem dL_asks_387 : decode cL_asks 387 = .ok (.i2l, 1) := by decide +kernel
theorem dL_asks_388 : decode cL_asks 388 = .ok (.ladd, 1) := by decide +kernel
theorem dL_asks_389 : decode cL_asks 389 = .ok (.lmul, 1) := by decide +kernel
theorem dL_asks_390 : decode cL_asks 390 = .ok (.aload_n 0, 1) := by decide +kernel
theorem dL_asks_391 : decode cL_asks 391 = .ok (.iconst 1, 1) := by decide +kernel
theorem dL_asks_392 : decode cL_asks 392 = .ok (.invokestatic 236, 3) := by decide +kernel
theorem dL_asks_395 : decode cL_asks 395 = .ok (.i2l, 1) := by decide +kernel
theorem dL_asks_396 : decode cL_asks 396 = .ok (.ladd, 1) := by decide +kernel
theorem dL_asks_397 : decode cL_asks 397 = .ok (.lreturn, 1) := by decide +kernel
theorem dL_changes_0 : decode cL_changes 0 = .ok (.aload_n 0, 1) := by decide +kernel
theorem dL_changes_1 : decode cL_changes 1 = .ok (.iconst 0, 1) := by decide +kernel
theorem dL_changes_2 : decode cL_changes 2 = .ok (.invokestatic 201, 3) := by decide +kernel
theorem dL_changes_5 : decode cL_changes 5 = .ok (.istore_n 2, 1) := by decide +kernel
theorem dL_changes_6 : decode cL_changes 6 = .ok (.iload_n 1, 1) := by decide +kernel
theorem dL_changes_7 : decode cL_changes 7 = .ok (.iconst 4, 1) := by decide +kernel
theorem dL_changes_8 : decode cL_changes 8 = .ok (.ishr, 1) := by decide +kernel
theorem dL_changes_9 : decode cL_changes 9 = .ok (.iload_n 2, 1) := by decide +kernel
theorem dL_changes_10 : decode cL_changes 10 = .ok (.iconst 1, 1) := by decide +kernel
theorem dL_changes_11 : decode cL_changes 11 = .ok (.iadd, 1) := by decide +kernel
theorem dL_changes_12 : decode cL_changes 12 = .ok (.invokestatic 165, 3) := by decide +kernel
theorem dL_changes_15 : decode cL_changes 15 = .ok (.istore_n 3, 1) := by decide +kernel
theorem dL_changes_16 : decode cL_changes 16 = .ok (.iload_n 1, 1) := by decide +kernel
theorem dL_changes_17 : decode cL_changes 17 = .ok (.bipush 7, 2) := by decide +kernel
theorem dL_changes_19 : decode cL_changes 19 = .ok (.ishr, 1) := by decide +kernel
theorem dL_changes_20 : decode cL_changes 20 = .ok (.iload_n 2, 1) := by decide +kernel
theorem dL_changes_21 : decode cL_changes 21 = .ok (.iconst 1, 1) := by decide +kernel
theorem dL_changes_22 : decode cL_changes 22 = .ok (.iadd, 1) := by decide +kernel
theorem dL_changes_23 : decode cL_changes 23 = .ok (.invokestatic 165, 3) := by decide +kernel
theorem dL_changes_26 : decode cL_changes 26 = .ok (.istore 4, 2) := by decide +kernel
theorem dL_changes_28 : decode cL_changes 28 = .ok (.iload_n 1, 1) := by decide +kernel
theorem dL_changes_29 : decode cL_changes 29 = .ok (.bipush 22, 2) := by decide +kernel
theorem dL_changes_31 : decode cL_changes 31 = .ok (.invokestatic 165, 3) := by decide +kernel
theorem dL_changes_34 : decode cL_changes 34 = .ok (.tableswitch 340 0 16 #[82, 121, 121, 121, 121, 149, 149, 149, 175, 175, 175, 203, 203, 232, 232, 258, 258], 82) := by decide +kernel
theorem dL_changes_116 : decode cL_changes 116 = .ok (.aload_n 0, 1) := by decide +kernel
theorem dL_changes_117 : decode cL_changes 117 = .ok (.iload_n 1, 1) := by decide +kernel
theorem dL_changes_118 : decode cL_changes 118 = .ok (.iconst 4, 1) := by decide +kernel
theorem dL_changes_119 : decode cL_changes 119 = .ok (.ishr, 1) := by decide +kernel
theorem dL_changes_120 : decode cL_changes 120 = .ok (.bipush 43, 2) := by decide +kernel
theorem dL_changes_122 : decode cL_changes 122 = .ok (.invokestatic 165, 3) := by decide +kernel
theorem dL_changes_125 : decode cL_changes 125 = .ok (.bipush 21, 2) := by decide +kernel
theorem dL_changes_127 : decode cL_changes 127 = .ok (.isub, 1) := by decide +kernel
theorem dL_changes_128 : decode cL_changes 128 = .ok (.iload_n 1, 1) := by decide +kernel
theorem dL_changes_129 : decode cL_changes 129 = .ok (.bipush 64, 2) := by decide +kernel
theorem dL_changes_131 : decode cL_changes 131 = .ok (.iand, 1) := by decide +kernel
theorem dL_changes_132 : decode cL_changes 132 = .ok (.ifCond .ne 7, 3) := by decide +kernel
theorem dL_changes_135 : decode cL_changes 135 = .ok (.iconst 1, 1) := by decide +kernel
theorem dL_changes_136 : decode cL_changes 136 = .ok (.goto 4, 3) := by decide +kernel
theorem dL_changes_139 : decode cL_changes 139 = .ok (.iconst 0, 1) := by decide +kernel
theorem dL_changes_140 : decode cL_changes 140 = .ok (.invokestatic 168, 3) := by decide +kernel
theorem dL_changes_143 : decode cL_changes 143 = .ok (.sipush (-1001), 3) := by decide +kernel
theorem dL_changes_146 : decode cL_changes 146 = .ok (.if_icmp .eq 7, 3) := by decide +kernel
theorem dL_changes_149 : decode cL_changes 149 = .ok (.iconst 1, 1) := by decide +kernel
theorem dL_changes_150 : decode cL_changes 150 = .ok (.goto 4, 3) := by decide +kernel
theorem dL_changes_153 : decode cL_changes 153 = .ok (.iconst 0, 1) := by decide +kernel
theorem dL_changes_154 : decode cL_changes 154 = .ok (.ireturn, 1) := by decide +kernel
theorem dL_changes_155 : decode cL_changes 155 = .ok (.aload_n 0, 1) := by decide +kernel
theorem dL_changes_156 : decode cL_changes 156 = .ok (.iload_n 3, 1) := by decide +kernel
theorem dL_changes_157 : decode cL_changes 157 = .ok (.iload 4, 2) := by decide +kernel
theorem dL_changes_159 : decode cL_changes 159 = .ok (.iload_n 1, 1) := by decide +kernel
theorem dL_changes_160 : decode cL_changes 160 = .ok (.bipush 10, 2) := by decide +kernel
theorem dL_changes_162 : decode cL_changes 162 = .ok (.ishr, 1) := by decide +kernel
theorem dL_changes_163 : decode cL_changes 163 = .ok (.bipush 11, 2) := by decide +kernel
theorem dL_changes_165 : decode cL_changes 165 = .ok (.invokestatic 165, 3) := by decide +kernel
theorem dL_changes_168 : decode cL_changes 168 = .ok (.invokestatic 171, 3) := by decide +kernel
theorem dL_changes_171 : decode cL_changes 171 = .ok (.sipush (-1001), 3) := by decide +kernel
theorem dL_changes_174 : decode cL_changes 174 = .ok (.if_icmp .eq 7, 3) := by decide +kernel
theorem dL_changes_177 : decode cL_changes 177 = .ok (.iconst 1, 1) := by decide +kernel
theorem dL_changes_178 : decode cL_changes 178 = .ok (.goto 4, 3) := by decide +kernel
theorem dL_changes_181 : decode cL_changes 181 = .ok (.iconst 0, 1) := by decide +kernel
theorem dL_changes_182 : decode cL_changes 182 = .ok (.ireturn, 1) := by decide +kernel
theorem dL_changes_183 : decode cL_changes 183 = .ok (.aload_n 0, 1) := by decide +kernel
theorem dL_changes_184 : decode cL_changes 184 = .ok (.iload_n 3, 1) := by decide +kernel
theorem dL_changes_185 : decode cL_changes 185 = .ok (.iload_n 1, 1) := by decide +kernel
theorem dL_changes_186 : decode cL_changes 186 = .ok (.bipush 10, 2) := by decide +kernel
theorem dL_changes_188 : decode cL_changes 188 = .ok (.ishr, 1) := by decide +kernel
theorem dL_changes_189 : decode cL_changes 189 = .ok (.bipush 11, 2) := by decide +kernel
theorem dL_changes_191 : decode cL_changes 191 = .ok (.invokestatic 165, 3) := by decide +kernel
theorem dL_changes_194 : decode cL_changes 194 = .ok (.invokestatic 239, 3) := by decide +kernel
theorem dL_changes_197 : decode cL_changes 197 = .ok (.sipush (-1001), 3) := by decide +kernel
theorem dL_changes_200 : decode cL_changes 200 = .ok (.if_icmp .eq 7, 3) := by decide +kernel
theorem dL_changes_203 : decode cL_changes 203 = .ok (.iconst 1, 1) := by decide +kernel
theorem dL_changes_204 : decode cL_changes 204 = .ok (.goto 4, 3) := by decide +kernel
theorem dL_changes_207 : decode cL_changes 207 = .ok (.iconst 0, 1) := by decide +kernel
theorem dL_changes_208 : decode cL_changes 208 = .ok (.ireturn, 1) := by decide +kernel
theorem dL_changes_209 : decode cL_changes 209 = .ok (.aload_n 0, 1) := by decide +kernel
theorem dL_changes_210 : decode cL_changes 210 = .ok (.iload_n 3, 1) := by decide +kernel
theorem dL_changes_211 : decode cL_changes 211 = .ok (.iload 4, 2) := by decide +kernel
theorem dL_changes_213 : decode cL_changes 213 = .ok (.iload_n 1, 1) := by decide +kernel
theorem dL_changes_214 : decode cL_changes 214 = .ok (.bipush 10, 2) := by decide +kernel
theorem dL_changes_216 : decode cL_changes 216 = .ok (.ishr, 1) := by decide +kernel
theorem dL_changes_217 : decode cL_changes 217 = .ok (.bipush 43, 2) := by decide +kernel
theorem dL_changes_219 : decode cL_changes 219 = .ok (.invokestatic 165, 3) := by decide +kernel
theorem dL_changes_222 : decode cL_changes 222 = .ok (.invokestatic 174, 3) := by decide +kernel
theorem dL_changes_225 : decode cL_changes 225 = .ok (.sipush (-1001), 3) := by decide +kernel
theorem dL_changes_228 : decode cL_changes 228 = .ok (.if_icmp .eq 7, 3) := by decide +kernel
theorem dL_changes_231 : decode cL_changes 231 = .ok (.iconst 1, 1) := by decide +kernel
theorem dL_changes_232 : decode cL_changes 232 = .ok (.goto 4, 3) := by decide +kernel
theorem dL_changes_235 : decode cL_changes 235 = .ok (.iconst 0, 1) := by decide +kernel
theorem dL_changes_236 : decode cL_changes 236 = .ok (.ireturn, 1) := by decide +kernel
theorem dL_changes_237 : decode cL_changes 237 = .ok (.aload_n 0, 1) := by decide +kernel
theorem dL_changes_238 : decode cL_changes 238 = .ok (.iload_n 1, 1) := by decide +kernel
theorem dL_changes_239 : decode cL_changes 239 = .ok (.iconst 4, 1) := by decide +kernel
theorem dL_changes_240 : decode cL_changes 240 = .ok (.ishr, 1) := by decide +kernel
theorem dL_changes_241 : decode cL_changes 241 = .ok (.aload_n 0, 1) := by decide +kernel
theorem dL_changes_242 : decode cL_changes 242 = .ok (.iconst 2, 1) := by decide +kernel
theorem dL_changes_243 : decode cL_changes 243 = .ok (.invokestatic 201, 3) := by decide +kernel
theorem dL_changes_246 : decode cL_changes 246 = .ok (.iconst 1, 1) := by decide +kernel
theorem dL_changes_247 : decode cL_changes 247 = .ok (.iadd, 1) := by decide +kernel
theorem dL_changes_248 : decode cL_changes 248 = .ok (.invokestatic 165, 3) := by decide +kernel
theorem dL_changes_251 : decode cL_changes 251 = .ok (.invokestatic 241, 3) := by decide +kernel
theorem dL_changes_254 : decode cL_changes 254 = .ok (.sipush (-1001), 3) := by decide +kernel
theorem dL_changes_257 : decode cL_changes 257 = .ok (.if_icmp .eq 7, 3) := by decide +kernel
theorem dL_changes_260 : decode cL_changes 260 = .ok (.iconst 1, 1) := by decide +kernel
theorem dL_changes_261 : decode cL_changes 261 = .ok (.goto 4, 3) := by decide +kernel
theorem dL_changes_264 : decode cL_changes 264 = .ok (.iconst 0, 1) := by decide +kernel
theorem dL_changes_265 : decode cL_changes 265 = .ok (.ireturn, 1) := by decide +kernel
theorem dL_changes_266 : decode cL_changes 266 = .ok (.aload_n 0, 1) := by decide +kernel
theorem dL_changes_267 : decode cL_changes 267 = .ok (.iload_n 3, 1) := by decide +kernel
theorem dL_changes_268 : decode cL_changes 268 = .ok (.iload_n 1, 1) := by decide +kernel
theorem dL_changes_269 : decode cL_changes 269 = .ok (.bipush 10, 2) := by decide +kernel
theorem dL_changes_271 : decode cL_changes 271 = .ok (.ishr, 1) := by decide +kernel
theorem dL_changes_272 : decode cL_changes 272 = .ok (.bipush 11, 2) := by decide +kernel
theorem dL_changes_274 : decode cL_changes 274 = .ok (.invokestatic 165, 3) := by decide +kernel
theorem dL_changes_277 : decode cL_changes 277 = .ok (.invokestatic 176, 3) := by decide +kernel
theorem dL_changes_280 : decode cL_changes 280 = .ok (.sipush (-1001), 3) := by decide +kernel
theorem dL_changes_283 : decode cL_changes 283 = .ok (.if_icmp .eq 7, 3) := by decide +kernel
theorem dL_changes_286 : decode cL_changes 286 = .ok (.iconst 1, 1) := by decide +kernel
theorem dL_changes_287 : decode cL_changes 287 = .ok (.goto 4, 3) := by decide +kernel
theorem dL_changes_290 : decode cL_changes 290 = .ok (.iconst 0, 1) := by decide +kernel
theorem dL_changes_291 : decode cL_changes 291 = .ok (.ireturn, 1) := by decide +kernel
theorem dL_changes_292 : decode cL_changes 292 = .ok (.aload_n 0, 1) := by decide +kernel
theorem dL_changes_293 : decode cL_changes 293 = .ok (.iload_n 1, 1) := by decide +kernel
theorem dL_changes_294 : decode cL_changes 294 = .ok (.bipush 6, 2) := by decide +kernel
theorem dL_changes_296 : decode cL_changes 296 = .ok (.ishr, 1) := by decide +kernel
theorem dL_changes_297 : decode cL_changes 297 = .ok (.iconst 1, 1) := by decide +kernel
theorem dL_changes_298 : decode cL_changes 298 = .ok (.iand, 1) := by decide +kernel
theorem dL_changes_299 : decode cL_changes 299 = .ok (.ifCond .ne 37, 3) := by decide +kernel
theorem dL_changes_302 : decode cL_changes 302 = .ok (.new 243, 3) := by decide +kernel
theorem dL_changes_305 : decode cL_changes 305 = .ok (.dup, 1) := by decide +kernel
theorem dL_changes_306 : decode cL_changes 306 = .ok (.invokespecial 245, 3) := by decide +kernel
theorem dL_changes_309 : decode cL_changes 309 = .ok (.ldc 246, 2) := by decide +kernel
theorem dL_changes_311 : decode cL_changes 311 = .ok (.invokevirtual 248, 3) := by decide +kernel
theorem dL_changes_314 : decode cL_changes 314 = .ok (.iload_n 1, 1) := by decide +kernel
theorem dL_changes_315 : decode cL_changes 315 = .ok (.iconst 4, 1) := by decide +kernel
theorem dL_changes_316 : decode cL_changes 316 = .ok (.ishr, 1) := by decide +kernel
theorem dL_changes_317 : decode cL_changes 317 = .ok (.bipush 7, 2) := by decide +kernel
theorem dL_changes_319 : decode cL_changes 319 = .ok (.invokestatic 165, 3) := by decide +kernel
theorem dL_changes_322 : decode cL_changes 322 = .ok (.invokevirtual 251, 3) := by decide +kernel
theorem dL_changes_325 : decode cL_changes 325 = .ok (.ldc 254, 2) := by decide +kernel
theorem dL_changes_327 : decode cL_changes 327 = .ok (.invokevirtual 248, 3) := by decide +kernel
theorem dL_changes_330 : decode cL_changes 330 = .ok (.invokevirtual 256, 3) := by decide +kernel
theorem dL_changes_333 : decode cL_changes 333 = .ok (.goto 29, 3) := by decide +kernel
theorem dL_changes_336 : decode cL_changes 336 = .ok (.new 243, 3) := by decide +kernel
theorem dL_changes_339 : decode cL_changes 339 = .ok (.dup, 1) := by decide +kernel
theorem dL_changes_340 : decode cL_changes 340 = .ok (.invokespecial 245, 3) := by decide +kernel
theorem dL_changes_343 : decode cL_changes 343 = .ok (.ldc_w 260, 3) := by decide +kernel
theorem dL_changes_346 : decode cL_changes 346 = .ok (.invokevirtual 248, 3) := by decide +kernel
theorem dL_changes_349 : decode cL_changes 349 = .ok (.iload_n 1, 1) := by decide +kernel
theorem dL_changes_350 : decode cL_changes 350 = .ok (.iconst 4, 1) := by decide +kernel
theorem dL_changes_351 : decode cL_changes 351 = .ok (.ishr, 1) := by decide +kernel
theorem dL_changes_352 : decode cL_changes 352 = .ok (.iconst 4, 1) := by decide +kernel
theorem dL_changes_353 : decode cL_changes 353 = .ok (.invokestatic 165, 3) := by decide +kernel
theorem dL_changes_356 : decode cL_changes 356 = .ok (.invokevirtual 251, 3) := by decide +kernel
theorem dL_changes_359 : decode cL_changes 359 = .ok (.invokevirtual 256, 3) := by decide +kernel
theorem dL_changes_362 : decode cL_changes 362 = .ok (.invokestatic 262, 3) := by decide +kernel
theorem dL_changes_365 : decode cL_changes 365 = .ok (.ifCond .lt 7, 3) := by decide +kernel
theorem dL_changes_368 : decode cL_changes 368 = .ok (.iconst 1, 1) := by decide +kernel
theorem dL_changes_369 : decode cL_changes 369 = .ok (.goto 4, 3) := by decide +kernel
theorem dL_changes_372 : decode cL_changes 372 = .ok (.iconst 0, 1) := by decide +kernel
theorem dL_changes_373 : decode cL_changes 373 = .ok (.ireturn, 1) := by decide +kernel
theorem dL_changes_374 : decode cL_changes 374 = .ok (.aload_n 0, 1) := by decide +kernel
theorem dL_changes_375 : decode cL_changes 375 = .ok (.invokestatic 179, 3) := by decide +kernel
theorem dL_changes_378 : decode cL_changes 378 = .ok (.sipush (-1001), 3) := by decide +kernel
theorem dL_changes_381 : decode cL_changes 381 = .ok (.if_icmp .eq 7, 3) := by decide +kernel
theorem dL_changes_384 : decode cL_changes 384 = .ok (.iconst 1, 1) := by decide +kernel
theorem dL_changes_385 : decode cL_changes 385 = .ok (.goto 4, 3) := by decide +kernel
theorem dL_changes_388 : decode cL_changes 388 = .ok (.iconst 0, 1) := by decide +kernel
theorem dL_changes_389 : decode cL_changes 389 = .ok (.ireturn, 1) := by decide +kernel
theorem dL_refused_0 : decode cL_refused 0 = .ok (.aload_n 0, 1) := by decide +kernel
theorem dL_refused_1 : decode cL_refused 1 = .ok (.invokestatic 266, 3) := by decide +kernel
theorem dL_refused_4 : decode cL_refused 4 = .ok (.lstore_n 1, 1) := by decide +kernel
theorem dL_refused_5 : decode cL_refused 5 = .ok (.aload_n 0, 1) := by decide +kernel
theorem dL_refused_6 : decode cL_refused 6 = .ok (.iconst 0, 1) := by decide +kernel
theorem dL_refused_7 : decode cL_refused 7 = .ok (.invokestatic 201, 3) := by decide +kernel
theorem dL_refused_10 : decode cL_refused 10 = .ok (.istore_n 3, 1) := by decide +kernel
theorem dL_refused_11 : decode cL_refused 11 = .ok (.aload_n 0, 1) := by decide +kernel
theorem dL_refused_12 : decode cL_refused 12 = .ok (.iconst 2, 1) := by decide +kernel
theorem dL_refused_13 : decode cL_refused 13 = .ok (.invokestatic 201, 3) := by decide +kernel
theorem dL_refused_16 : decode cL_refused 16 = .ok (.istore 4, 2) := by decide +kernel
theorem dL_refused_18 : decode cL_refused 18 = .ok (.aload_n 0, 1) := by decide +kernel
theorem dL_refused_19 : decode cL_refused 19 = .ok (.bipush 21, 2) := by decide +kernel
theorem dL_refused_21 : decode cL_refused 21 = .ok (.iconst 1, 1) := by decide +kernel
theorem dL_refused_22 : decode cL_refused 22 = .ok (.invokestatic 168, 3) := by decide +kernel
theorem dL_refused_25 : decode cL_refused 25 = .ok (.sipush (-1001), 3) := by decide +kernel
theorem dL_refused_28 : decode cL_refused 28 = .ok (.if_icmp .ne 428, 3) := by decide +kernel
theorem dL_refused_31 : decode cL_refused 31 = .ok (.aload_n 0, 1) := by decide +kernel
theorem dL_refused_32 : decode cL_refused 32 = .ok (.iconst 1, 1) := by decide +kernel
theorem dL_refused_33 : decode cL_refused 33 = .ok (.iconst 0, 1) := by decide +kernel
theorem dL_refused_34 : decode cL_refused 34 = .ok (.invokestatic 270, 3) := by decide +kernel
theorem dL_refused_37 : decode cL_refused 37 = .ok (.ifCond .eq 419, 3) := by decide +kernel
theorem dL_refused_40 : decode cL_refused 40 = .ok (.aload_n 0, 1) := by decide +kernel
theorem dL_refused_41 : decode cL_refused 41 = .ok (.bipush (-21), 2) := by decide +kernel
theorem dL_refused_43 : decode cL_refused 43 = .ok (.iconst 0, 1) := by decide +kernel
theorem dL_refused_44 : decode cL_refused 44 = .ok (.invokestatic 168, 3) := by decide +kernel
theorem dL_refused_47 : decode cL_refused 47 = .ok (.sipush (-1001), 3) := by decide +kernel
theorem dL_refused_50 : decode cL_refused 50 = .ok (.if_icmp .ne 406, 3) := by decide +kernel
theorem dL_refused_53 : decode cL_refused 53 = .ok (.aload_n 0, 1) := by decide +kernel
theorem dL_refused_54 : decode cL_refused 54 = .ok (.iconst 1, 1) := by decide +kernel
theorem dL_refused_55 : decode cL_refused 55 = .ok (.iconst 0, 1) := by decide +kernel
theorem dL_refused_56 : decode cL_refused 56 = .ok (.invokestatic 270, 3) := by decide +kernel
theorem dL_refused_59 : decode cL_refused 59 = .ok (.ifCond .eq 397, 3) := by decide +kernel
theorem dL_refused_62 : decode cL_refused 62 = .ok (.iload_n 3, 1) := by decide +kernel
theorem dL_refused_63 : decode cL_refused 63 = .ok (.bipush 6, 2) := by decide +kernel
theorem dL_refused_65 : decode cL_refused 65 = .ok (.if_icmp .lt 25, 3) := by decide +kernel
theorem dL_refused_68 : decode cL_refused 68 = .ok (.aload_n 0, 1) := by decide +kernel
theorem dL_refused_69 : decode cL_refused 69 = .ok (.iconst 0, 1) := by decide +kernel
theorem dL_refused_70 : decode cL_refused 70 = .ok (.iconst 1, 1) := by decide +kernel
theorem dL_refused_71 : decode cL_refused 71 = .ok (.invokestatic 168, 3) := by decide +kernel
theorem dL_refused_74 : decode cL_refused 74 = .ok (.sipush (-1001), 3) := by decide +kernel
theorem dL_refused_77 : decode cL_refused 77 = .ok (.if_icmp .ne 379, 3) := by decide +kernel
theorem dL_refused_80 : decode cL_refused 80 = .ok (.aload_n 0, 1) := by decide +kernel
theorem dL_refused_81 : decode cL_refused 81 = .ok (.iconst 2, 1) := by decide +kernel
theorem dL_refused_82 : decode cL_refused 82 = .ok (.bipush 6, 2) := by decide +kernel
theorem dL_refused_84 : decode cL_refused 84 = .ok (.invokestatic 270, 3) := by decide +kernel
theorem dL_refused_87 : decode cL_refused 87 = .ok (.ifCond .eq 369, 3) := by decide +kernel
theorem dL_refused_90 : decode cL_refused 90 = .ok (.aload_n 0, 1) := by decide +kernel
theorem dL_refused_91 : decode cL_refused 91 = .ok (.iload_n 3, 1) := by decide +kernel
theorem dL_refused_92 : decode cL_refused 92 = .ok (.iconst 0, 1) := by decide +kernel
theorem dL_refused_93 : decode cL_refused 93 = .ok (.bipush 99, 2) := by decide +kernel
theorem dL_refused_95 : decode cL_refused 95 = .ok (.invokestatic 171, 3) := by decide +kernel
theorem dL_refused_98 : decode cL_refused 98 = .ok (.sipush (-1001), 3) := by decide +kernel
theorem dL_refused_101 : decode cL_refused 101 = .ok (.if_icmp .ne 355, 3) := by decide +kernel
theorem dL_refused_104 : decode cL_refused 104 = .ok (.aload_n 0, 1) := by decide +kernel
theorem dL_refused_105 : decode cL_refused 105 = .ok (.iconst 3, 1) := by decide +kernel
theorem dL_refused_106 : decode cL_refused 106 = .ok (.iload_n 3, 1) := by decide +kernel
theorem dL_refused_107 : decode cL_refused 107 = .ok (.invokestatic 270, 3) := by decide +kernel
theorem dL_refused_110 : decode cL_refused 110 = .ok (.ifCond .eq 346, 3) := by decide +kernel
theorem dL_refused_113 : decode cL_refused 113 = .ok (.aload_n 0, 1) := by decide +kernel
theorem dL_refused_114 : decode cL_refused 114 = .ok (.iconst 0, 1) := by decide +kernel
theorem dL_refused_115 : decode cL_refused 115 = .ok (.iconst (-1), 1) := by decide +kernel
theorem dL_refused_116 : decode cL_refused 116 = .ok (.iconst 1, 1) := by decide +kernel
theorem dL_refused_117 : decode cL_refused 117 = .ok (.invokestatic 171, 3) := by decide +kernel
theorem dL_refused_120 : decode cL_refused 120 = .ok (.sipush (-1001), 3) := by decide +kernel
theorem dL_refused_123 : decode cL_refused 123 = .ok (.if_icmp .ne 333, 3) := by decide +kernel
theorem dL_refused_126 : decode cL_refused 126 = .ok (.aload_n 0, 1) := by decide +kernel
theorem dL_refused_127 : decode cL_refused 127 = .ok (.iconst 3, 1) := by decide +kernel
theorem dL_refused_128 : decode cL_refused 128 = .ok (.iload_n 3, 1) := by decide +kernel
theorem dL_refused_129 : decode cL_refused 129 = .ok (.invokestatic 270, 3) := by decide +kernel
theorem dL_refused_132 : decode cL_refused 132 = .ok (.ifCond .eq 324, 3) := by decide +kernel
theorem dL_refused_135 : decode cL_refused 135 = .ok (.aload_n 0, 1) := by decide +kernel
theorem dL_refused_136 : decode cL_refused 136 = .ok (.iconst 1, 1) := by decide +kernel
theorem dL_refused_137 : decode cL_refused 137 = .ok (.iconst 1, 1) := by decide +kernel
theorem dL_refused_138 : decode cL_refused 138 = .ok (.bipush 99, 2) := by decide +kernel
theorem dL_refused_140 : decode cL_refused 140 = .ok (.invokestatic 171, 3) := by decide +kernel
theorem dL_refused_143 : decode cL_refused 143 = .ok (.sipush (-1001), 3) := by decide +kernel
theorem dL_refused_146 : decode cL_refused 146 = .ok (.if_icmp .ne 310, 3) := by decide +kernel
theorem dL_refused_149 : decode cL_refused 149 = .ok (.aload_n 0, 1) := by decide +kernel
theorem dL_refused_150 : decode cL_refused 150 = .ok (.iconst 4, 1) := by decide +kernel
theorem dL_refused_151 : decode cL_refused 151 = .ok (.iconst 1, 1) := by decide +kernel
theorem dL_refused_152 : decode cL_refused 152 = .ok (.invokestatic 270, 3) := by decide +kernel
theorem dL_refused_155 : decode cL_refused 155 = .ok (.ifCond .eq 301, 3) := by decide +kernel
theorem dL_refused_158 : decode cL_refused 158 = .ok (.aload_n 0, 1) := by decide +kernel
theorem dL_refused_159 : decode cL_refused 159 = .ok (.iconst 0, 1) := by decide +kernel
theorem dL_refused_160 : decode cL_refused 160 = .ok (.iconst 1, 1) := by decide +kernel
theorem dL_refused_161 : decode cL_refused 161 = .ok (.bipush 10, 2) := by decide +kernel
theorem dL_refused_163 : decode cL_refused 163 = .ok (.invokestatic 171, 3) := by decide +kernel
theorem dL_refused_166 : decode cL_refused 166 = .ok (.sipush (-1001), 3) := by decide +kernel
theorem dL_refused_169 : decode cL_refused 169 = .ok (.if_icmp .ne 287, 3) := by decide +kernel
theorem dL_refused_172 : decode cL_refused 172 = .ok (.aload_n 0, 1) := by decide +kernel
theorem dL_refused_173 : decode cL_refused 173 = .ok (.iconst 1, 1) := by decide +kernel
theorem dL_refused_174 : decode cL_refused 174 = .ok (.iconst 0, 1) := by decide +kernel
theorem dL_refused_175 : decode cL_refused 175 = .ok (.invokestatic 270, 3) := by decide +kernel
theorem dL_refused_178 : decode cL_refused 178 = .ok (.ifCond .eq 278, 3) := by decide +kernel
theorem dL_refused_181 : decode cL_refused 181 = .ok (.aload_n 0, 1) := by decide +kernel
theorem dL_refused_182 : decode cL_refused 182 = .ok (.iconst 0, 1) := by decide +kernel
theorem dL_refused_183 : decode cL_refused 183 = .ok (.iconst 1, 1) := by decide +kernel
theorem dL_refused_184 : decode cL_refused 184 = .ok (.iconst (-1), 1) := by decide +kernel
theorem dL_refused_185 : decode cL_refused 185 = .ok (.invokestatic 171, 3) := by decide +kernel
theorem dL_refused_188 : decode cL_refused 188 = .ok (.sipush (-1001), 3) := by decide +kernel
theorem dL_refused_191 : decode cL_refused 191 = .ok (.if_icmp .ne 265, 3) := by decide +kernel
theorem dL_refused_194 : decode cL_refused 194 = .ok (.aload_n 0, 1) := by decide +kernel
theorem dL_refused_195 : decode cL_refused 195 = .ok (.iconst 1, 1) := by decide +kernel
theorem dL_refused_196 : decode cL_refused 196 = .ok (.iconst 0, 1) := by decide +kernel
theorem dL_refused_197 : decode cL_refused 197 = .ok (.invokestatic 270, 3) := by decide +kernel
theorem dL_refused_200 : decode cL_refused 200 = .ok (.ifCond .eq 256, 3) := by decide +kernel
theorem dL_refused_203 : decode cL_refused 203 = .ok (.aload_n 0, 1) := by decide +kernel
theorem dL_refused_204 : decode cL_refused 204 = .ok (.iload_n 3, 1) := by decide +kernel
theorem dL_refused_205 : decode cL_refused 205 = .ok (.iconst 0, 1) := by decide +kernel
theorem dL_refused_206 : decode cL_refused 206 = .ok (.invokestatic 239, 3) := by decide +kernel
theorem dL_refused_209 : decode cL_refused 209 = .ok (.sipush (-1001), 3) := by decide +kernel
theorem dL_refused_212 : decode cL_refused 212 = .ok (.if_icmp .ne 244, 3) := by decide +kernel
theorem dL_refused_215 : decode cL_refused 215 = .ok (.aload_n 0, 1) := by decide +kernel
theorem dL_refused_216 : decode cL_refused 216 = .ok (.iconst 3, 1) := by decide +kernel
theorem dL_refused_217 : decode cL_refused 217 = .ok (.iload_n 3, 1) := by decide +kernel
theorem dL_refused_218 : decode cL_refused 218 = .ok (.invokestatic 270, 3) := by decide +kernel
theorem dL_refused_221 : decode cL_refused 221 = .ok (.ifCond .eq 235, 3) := by decide +kernel
theorem dL_refused_224 : decode cL_refused 224 = .ok (.aload_n 0, 1) := by decide +kernel
theorem dL_refused_225 : decode cL_refused 225 = .ok (.iconst 0, 1) := by decide +kernel
theorem dL_refused_226 : decode cL_refused 226 = .ok (.iconst 0, 1) := by decide +kernel
theorem dL_refused_227 : decode cL_refused 227 = .ok (.invokestatic 239, 3) := by decide +kernel
theorem dL_refused_230 : decode cL_refused 230 = .ok (.sipush (-1001), 3) := by decide +kernel
theorem dL_refused_233 : decode cL_refused 233 = .ok (.if_icmp .ne 223, 3) := by decide +kernel
theorem dL_refused_236 : decode cL_refused 236 = .ok (.aload_n 0, 1) := by decide +kernel
theorem dL_refused_237 : decode cL_refused 237 = .ok (.iconst 1, 1) := by decide +kernel
theorem dL_refused_238 : decode cL_refused 238 = .ok (.iconst 0, 1) := by decide +kernel
theorem dL_refused_239 : decode cL_refused 239 = .ok (.invokestatic 270, 3) := by decide +kernel
theorem dL_refused_242 : decode cL_refused 242 = .ok (.ifCond .eq 214, 3) := by decide +kernel
theorem dL_refused_245 : decode cL_refused 245 = .ok (.aload_n 0, 1) := by decide +kernel
theorem dL_refused_246 : decode cL_refused 246 = .ok (.iconst 0, 1) := by decide +kernel
theorem dL_refused_247 : decode cL_refused 247 = .ok (.bipush 10, 2) := by decide +kernel
theorem dL_refused_249 : decode cL_refused 249 = .ok (.invokestatic 239, 3) := by decide +kernel
theorem dL_refused_252 : decode cL_refused 252 = .ok (.sipush (-1001), 3) := by decide +kernel
theorem dL_refused_255 : decode cL_refused 255 = .ok (.if_icmp .ne 201, 3) := by decide +kernel
theorem dL_refused_258 : decode cL_refused 258 = .ok (.aload_n 0, 1) := by decide +kernel
theorem dL_refused_259 : decode cL_refused 259 = .ok (.iconst 1, 1) := by decide +kernel
theorem dL_refused_260 : decode cL_refused 260 = .ok (.iconst 0, 1) := by decide +kernel
theorem dL_refused_261 : decode cL_refused 261 = .ok (.invokestatic 270, 3) := by decide +kernel
theorem dL_refused_264 : decode cL_refused 264 = .ok (.ifCond .eq 192, 3) := by decide +kernel
theorem dL_refused_267 : decode cL_refused 267 = .ok (.aload_n 0, 1) := by decide +kernel
theorem dL_refused_268 : decode cL_refused 268 = .ok (.iload_n 3, 1) := by decide +kernel
theorem dL_refused_269 : decode cL_refused 269 = .ok (.iconst 0, 1) := by decide +kernel
theorem dL_refused_270 : decode cL_refused 270 = .ok (.bipush 99, 2) := by decide +kernel
theorem dL_refused_272 : decode cL_refused 272 = .ok (.invokestatic 174, 3) := by decide +kernel
theorem dL_refused_275 : decode cL_refused 275 = .ok (.sipush (-1001), 3) := by decide +kernel
theorem dL_refused_278 : decode cL_refused 278 = .ok (.if_icmp .ne 178, 3) := by decide +kernel
theorem dL_refused_281 : decode cL_refused 281 = .ok (.aload_n 0, 1) := by decide +kernel
theorem dL_refused_282 : decode cL_refused 282 = .ok (.iconst 3, 1) := by decide +kernel
theorem dL_refused_283 : decode cL_refused 283 = .ok (.iload_n 3, 1) := by decide +kernel
theorem dL_refused_284 : decode cL_refused 284 = .ok (.invokestatic 270, 3) := by decide +kernel
theorem dL_refused_287 : decode cL_refused 287 = .ok (.ifCond .eq 169, 3) := by decide +kernel
theorem dL_refused_290 : decode cL_refused 290 = .ok (.aload_n 0, 1) := by decide +kernel
theorem dL_refused_291 : decode cL_refused 291 = .ok (.iconst 0, 1) := by decide +kernel
theorem dL_refused_292 : decode cL_refused 292 = .ok (.iload_n 3, 1) := by decide +kernel
theorem dL_refused_293 : decode cL_refused 293 = .ok (.iconst 0, 1) := by decide +kernel
theorem dL_refused_294 : decode cL_refused 294 = .ok (.invokestatic 174, 3) := by decide +kernel
theorem dL_refused_297 : decode cL_refused 297 = .ok (.sipush (-1001), 3) := by decide +kernel
theorem dL_refused_300 : decode cL_refused 300 = .ok (.if_icmp .ne 156, 3) := by decide +kernel
theorem dL_refused_303 : decode cL_refused 303 = .ok (.aload_n 0, 1) := by decide +kernel
theorem dL_refused_304 : decode cL_refused 304 = .ok (.iconst 1, 1) := by decide +kernel
theorem dL_refused_305 : decode cL_refused 305 = .ok (.iconst 1, 1) := by decide +kernel
theorem dL_refused_306 : decode cL_refused 306 = .ok (.bipush 99, 2) := by decide +kernel
theorem dL_refused_308 : decode cL_refused 308 = .ok (.invokestatic 174, 3) := by decide +kernel
theorem dL_refused_311 : decode cL_refused 311 = .ok (.sipush (-1001), 3) := by decide +kernel
theorem dL_refused_314 : decode cL_refused 314 = .ok (.if_icmp .ne 142, 3) := by decide +kernel
theorem dL_refused_317 : decode cL_refused 317 = .ok (.aload_n 0, 1) := by decide +kernel
theorem dL_refused_318 : decode cL_refused 318 = .ok (.iconst 4, 1) := by decide +kernel
theorem dL_refused_319 : decode cL_refused 319 = .ok (.iconst 1, 1) := by decide +kernel
theorem dL_refused_320 : decode cL_refused 320 = .ok (.invokestatic 270, 3) := by decide +kernel
theorem dL_refused_323 : decode cL_refused 323 = .ok (.ifCond .eq 133, 3) := by decide +kernel
theorem dL_refused_326 : decode cL_refused 326 = .ok (.aload_n 0, 1) := by decide +kernel
theorem dL_refused_327 : decode cL_refused 327 = .ok (.iconst 0, 1) := by decide +kernel
theorem dL_refused_328 : decode cL_refused 328 = .ok (.iconst 1, 1) := by decide +kernel
theorem dL_refused_329 : decode cL_refused 329 = .ok (.bipush 41, 2) := by decide +kernel
theorem dL_refused_331 : decode cL_refused 331 = .ok (.invokestatic 174, 3) := by decide +kernel
theorem dL_refused_334 : decode cL_refused 334 = .ok (.sipush (-1001), 3) := by decide +kernel
theorem dL_refused_337 : decode cL_refused 337 = .ok (.if_icmp .ne 119, 3) := by decide +kernel
theorem dL_refused_340 : decode cL_refused 340 = .ok (.aload_n 0, 1) := by decide +kernel
theorem dL_refused_341 : decode cL_refused 341 = .ok (.iconst 1, 1) := by decide +kernel
theorem dL_refused_342 : decode cL_refused 342 = .ok (.iconst 0, 1) := by decide +kernel
theorem dL_refused_343 : decode cL_refused 343 = .ok (.invokestatic 270, 3) := by decide +kernel
theorem dL_refused_346 : decode cL_refused 346 = .ok (.ifCond .eq 110, 3) := by decide +kernel
theorem dL_refused_349 : decode cL_refused 349 = .ok (.aload_n 0, 1) := by decide +kernel
theorem dL_refused_350 : decode cL_refused 350 = .ok (.iconst 0, 1) := by decide +kernel
theorem dL_refused_351 : decode cL_refused 351 = .ok (.iconst 1, 1) := by decide +kernel
theorem dL_refused_352 : decode cL_refused 352 = .ok (.iconst (-1), 1) := by decide +kernel
theorem dL_refused_353 : decode cL_refused 353 = .ok (.invokestatic 174, 3) := by decide +kernel
theorem dL_refused_356 : decode cL_refused 356 = .ok (.sipush (-1001), 3) := by decide +kernel
theorem dL_refused_359 : decode cL_refused 359 = .ok (.if_icmp .ne 97, 3) := by decide +kernel
theorem dL_refused_362 : decode cL_refused 362 = .ok (.aload_n 0, 1) := by decide +kernel
theorem dL_refused_363 : decode cL_refused 363 = .ok (.iload 4, 2) := by decide +kernel
theorem dL_refused_365 : decode cL_refused 365 = .ok (.invokestatic 241, 3) := by decide +kernel
theorem dL_refused_368 : decode cL_refused 368 = .ok (.sipush (-1001), 3) := by decide +kernel
theorem dL_refused_371 : decode cL_refused 371 = .ok (.if_icmp .ne 85, 3) := by decide +kernel
theorem dL_refused_374 : decode cL_refused 374 = .ok (.aload_n 0, 1) := by decide +kernel
theorem dL_refused_375 : decode cL_refused 375 = .ok (.bipush 8, 2) := by decide +kernel
theorem dL_refused_377 : decode cL_refused 377 = .ok (.iload 4, 2) := by decide +kernel
theorem dL_refused_379 : decode cL_refused 379 = .ok (.invokestatic 270, 3) := by decide +kernel
theorem dL_refused_382 : decode cL_refused 382 = .ok (.ifCond .eq 74, 3) := by decide +kernel
theorem dL_refused_385 : decode cL_refused 385 = .ok (.aload_n 0, 1) := by decide +kernel
theorem dL_refused_386 : decode cL_refused 386 = .ok (.iconst (-1), 1) := by decide +kernel
theorem dL_refused_387 : decode cL_refused 387 = .ok (.invokestatic 241, 3) := by decide +kernel
theorem dL_refused_390 : decode cL_refused 390 = .ok (.sipush (-1001), 3) := by decide +kernel
theorem dL_refused_393 : decode cL_refused 393 = .ok (.if_icmp .ne 63, 3) := by decide +kernel
theorem dL_refused_396 : decode cL_refused 396 = .ok (.aload_n 0, 1) := by decide +kernel
theorem dL_refused_397 : decode cL_refused 397 = .ok (.iload_n 3, 1) := by decide +kernel
theorem dL_refused_398 : decode cL_refused 398 = .ok (.bipush 99, 2) := by decide +kernel
theorem dL_refused_400 : decode cL_refused 400 = .ok (.invokestatic 176, 3) := by decide +kernel
theorem dL_refused_403 : decode cL_refused 403 = .ok (.sipush (-1001), 3) := by decide +kernel
theorem dL_refused_406 : decode cL_refused 406 = .ok (.if_icmp .ne 50, 3) := by decide +kernel
theorem dL_refused_409 : decode cL_refused 409 = .ok (.aload_n 0, 1) := by decide +kernel
theorem dL_refused_410 : decode cL_refused 410 = .ok (.iconst 3, 1) := by decide +kernel
theorem dL_refused_411 : decode cL_refused 411 = .ok (.iload_n 3, 1) := by decide +kernel
theorem dL_refused_412 : decode cL_refused 412 = .ok (.invokestatic 270, 3) := by decide +kernel
theorem dL_refused_415 : decode cL_refused 415 = .ok (.ifCond .eq 41, 3) := by decide +kernel
theorem dL_refused_418 : decode cL_refused 418 = .ok (.aload_n 0, 1) := by decide +kernel
theorem dL_refused_419 : decode cL_refused 419 = .ok (.iconst 0, 1) := by decide +kernel
theorem dL_refused_420 : decode cL_refused 420 = .ok (.bipush 10, 2) := by decide +kernel
theorem dL_refused_422 : decode cL_refused 422 = .ok (.invokestatic 176, 3) := by decide +kernel
theorem dL_refused_425 : decode cL_refused 425 = .ok (.sipush (-1001), 3) := by decide +kernel
theorem dL_refused_428 : decode cL_refused 428 = .ok (.if_icmp .ne 28, 3) := by decide +kernel
theorem dL_refused_431 : decode cL_refused 431 = .ok (.aload_n 0, 1) := by decide +kernel
theorem dL_refused_432 : decode cL_refused 432 = .ok (.iconst 1, 1) := by decide +kernel
theorem dL_refused_433 : decode cL_refused 433 = .ok (.iconst 0, 1) := by decide +kernel
theorem dL_refused_434 : decode cL_refused 434 = .ok (.invokestatic 270, 3) := by decide +kernel
theorem dL_refused_437 : decode cL_refused 437 = .ok (.ifCond .eq 19, 3) := by decide +kernel
theorem dL_refused_440 : decode cL_refused 440 = .ok (.aload_n 0, 1) := by decide +kernel
theorem dL_refused_441 : decode cL_refused 441 = .ok (.iconst 0, 1) := by decide +kernel
theorem dL_refused_442 : decode cL_refused 442 = .ok (.iconst (-1), 1) := by decide +kernel
theorem dL_refused_443 : decode cL_refused 443 = .ok (.invokestatic 176, 3) := by decide +kernel
theorem dL_refused_446 : decode cL_refused 446 = .ok (.sipush (-1001), 3) := by decide +kernel
theorem dL_refused_449 : decode cL_refused 449 = .ok (.if_icmp .ne 7, 3) := by decide +kernel
theorem dL_refused_452 : decode cL_refused 452 = .ok (.iconst 1, 1) := by decide +kernel
theorem dL_refused_453 : decode cL_refused 453 = .ok (.goto 4, 3) := by decide +kernel
theorem dL_refused_456 : decode cL_refused 456 = .ok (.iconst 0, 1) := by decide +kernel
theorem dL_refused_457 : decode cL_refused 457 = .ok (.istore 5, 2) := by decide +kernel
theorem dL_refused_459 : decode cL_refused 459 = .ok (.iconst 0, 1) := by decide +kernel
theorem dL_refused_460 : decode cL_refused 460 = .ok (.istore 6, 2) := by decide +kernel
theorem dL_refused_462 : decode cL_refused 462 = .ok (.iload 6, 2) := by decide +kernel
theorem dL_refused_464 : decode cL_refused 464 = .ok (.iload_n 3, 1) := by decide +kernel
theorem dL_refused_465 : decode cL_refused 465 = .ok (.if_icmp .ge 228, 3) := by decide +kernel
theorem dL_refused_468 : decode cL_refused 468 = .ok (.iload 5, 2) := by decide +kernel
theorem dL_refused_470 : decode cL_refused 470 = .ok (.ifCond .eq 41, 3) := by decide +kernel
theorem dL_refused_473 : decode cL_refused 473 = .ok (.aload_n 0, 1) := by decide +kernel
theorem dL_refused_474 : decode cL_refused 474 = .ok (.iload 6, 2) := by decide +kernel
theorem dL_refused_476 : decode cL_refused 476 = .ok (.aload_n 0, 1) := by decide +kernel
theorem dL_refused_477 : decode cL_refused 477 = .ok (.iload 6, 2) := by decide +kernel
theorem dL_refused_479 : decode cL_refused 479 = .ok (.iconst 1, 1) := by decide +kernel
theorem dL_refused_480 : decode cL_refused 480 = .ok (.invokestatic 203, 3) := by decide +kernel
theorem dL_refused_483 : decode cL_refused 483 = .ok (.invokestatic 176, 3) := by decide +kernel
theorem dL_refused_486 : decode cL_refused 486 = .ok (.sipush (-1001), 3) := by decide +kernel
theorem dL_refused_489 : decode cL_refused 489 = .ok (.if_icmp .ne 22, 3) := by decide +kernel
theorem dL_refused_492 : decode cL_refused 492 = .ok (.aload_n 0, 1) := by decide +kernel
theorem dL_refused_493 : decode cL_refused 493 = .ok (.iconst 5, 1) := by decide +kernel
theorem dL_refused_494 : decode cL_refused 494 = .ok (.aload_n 0, 1) := by decide +kernel
theorem dL_refused_495 : decode cL_refused 495 = .ok (.iload 6, 2) := by decide +kernel
theorem dL_refused_497 : decode cL_refused 497 = .ok (.iconst 1, 1) := by decide +kernel
theorem dL_refused_498 : decode cL_refused 498 = .ok (.invokestatic 203, 3) := by decide +kernel
theorem dL_refused_501 : decode cL_refused 501 = .ok (.invokestatic 270, 3) := by decide +kernel
theorem dL_refused_504 : decode cL_refused 504 = .ok (.ifCond .eq 7, 3) := by decide +kernel
theorem dL_refused_507 : decode cL_refused 507 = .ok (.iconst 1, 1) := by decide +kernel
theorem dL_refused_508 : decode cL_refused 508 = .ok (.goto 4, 3) := by decide +kernel
theorem dL_refused_511 : decode cL_refused 511 = .ok (.iconst 0, 1) := by decide +kernel
theorem dL_refused_512 : decode cL_refused 512 = .ok (.istore 5, 2) := by decide +kernel
theorem dL_refused_514 : decode cL_refused 514 = .ok (.aload_n 0, 1) := by decide +kernel
theorem dL_refused_515 : decode cL_refused 515 = .ok (.iload 6, 2) := by decide +kernel
theorem dL_refused_517 : decode cL_refused 517 = .ok (.iconst 0, 1) := by decide +kernel
theorem dL_refused_518 : decode cL_refused 518 = .ok (.invokestatic 203, 3) := by decide +kernel
theorem dL_refused_521 : decode cL_refused 521 = .ok (.ifCond .ne 48, 3) := by decide +kernel
theorem dL_refused_524 : decode cL_refused 524 = .ok (.iload 5, 2) := by decide +kernel
theorem dL_refused_526 : decode cL_refused 526 = .ok (.ifCond .eq 37, 3) := by decide +kernel
theorem dL_refused_529 : decode cL_refused 529 = .ok (.aload_n 0, 1) := by decide +kernel
theorem dL_refused_530 : decode cL_refused 530 = .ok (.iload 6, 2) := by decide +kernel
theorem dL_refused_532 : decode cL_refused 532 = .ok (.bipush 9, 2) := by decide +kernel
theorem dL_refused_534 : decode cL_refused 534 = .ok (.invokestatic 239, 3) := by decide +kernel
theorem dL_refused_537 : decode cL_refused 537 = .ok (.sipush (-1001), 3) := by decide +kernel
theorem dL_refused_540 : decode cL_refused 540 = .ok (.if_icmp .ne 23, 3) := by decide +kernel
theorem dL_refused_543 : decode cL_refused 543 = .ok (.aload_n 0, 1) := by decide +kernel
theorem dL_refused_544 : decode cL_refused 544 = .ok (.bipush 6, 2) := by decide +kernel
theorem dL_refused_546 : decode cL_refused 546 = .ok (.aload_n 0, 1) := by decide +kernel
theorem dL_refused_547 : decode cL_refused 547 = .ok (.iload 6, 2) := by decide +kernel
theorem dL_refused_549 : decode cL_refused 549 = .ok (.iconst 1, 1) := by decide +kernel
theorem dL_refused_550 : decode cL_refused 550 = .ok (.invokestatic 203, 3) := by decide +kernel
theorem dL_refused_553 : decode cL_refused 553 = .ok (.invokestatic 270, 3) := by decide +kernel
theorem dL_refused_556 : decode cL_refused 556 = .ok (.ifCond .eq 7, 3) := by decide +kernel
theorem dL_refused_559 : decode cL_refused 559 = .ok (.iconst 1, 1) := by decide +kernel
theorem dL_refused_560 : decode cL_refused 560 = .ok (.goto 4, 3) := by decide +kernel
theorem dL_refused_563 : decode cL_refused 563 = .ok (.iconst 0, 1) := by decide +kernel
theorem dL_refused_564 : decode cL_refused 564 = .ok (.istore 5, 2) := by decide +kernel
theorem dL_refused_566 : decode cL_refused 566 = .ok (.goto 49, 3) := by decide +kernel
theorem dL_refused_569 : decode cL_refused 569 = .ok (.aload_n 0, 1) := by decide +kernel
theorem dL_refused_570 : decode cL_refused 570 = .ok (.iload 6, 2) := by decide +kernel
theorem dL_refused_572 : decode cL_refused 572 = .ok (.iconst 1, 1) := by decide +kernel
theorem dL_refused_573 : decode cL_refused 573 = .ok (.invokestatic 203, 3) := by decide +kernel
theorem dL_refused_576 : decode cL_refused 576 = .ok (.iconst 2, 1) := by decide +kernel
theorem dL_refused_577 : decode cL_refused 577 = .ok (.if_icmp .le 38, 3) := by decide +kernel
theorem dL_refused_580 : decode cL_refused 580 = .ok (.iload 5, 2) := by decide +kernel
theorem dL_refused_582 : decode cL_refused 582 = .ok (.ifCond .eq 30, 3) := by decide +kernel
theorem dL_refused_585 : decode cL_refused 585 = .ok (.aload_n 0, 1) := by decide +kernel
theorem dL_refused_586 : decode cL_refused 586 = .ok (.iload 6, 2) := by decide +kernel
theorem dL_refused_588 : decode cL_refused 588 = .ok (.iconst 1, 1) := by decide +kernel
theorem dL_refused_589 : decode cL_refused 589 = .ok (.invokestatic 239, 3) := by decide +kernel
theorem dL_refused_592 : decode cL_refused 592 = .ok (.sipush (-1001), 3) := by decide +kernel
theorem dL_refused_595 : decode cL_refused 595 = .ok (.if_icmp .ne 17, 3) := by decide +kernel
theorem dL_refused_598 : decode cL_refused 598 = .ok (.aload_n 0, 1) := by decide +kernel
theorem dL_refused_599 : decode cL_refused 599 = .ok (.bipush 7, 2) := by decide +kernel
theorem dL_refused_601 : decode cL_refused 601 = .ok (.iconst 1, 1) := by decide +kernel
theorem dL_refused_602 : decode cL_refused 602 = .ok (.invokestatic 270, 3) := by decide +kernel
theorem dL_refused_605 : decode cL_refused 605 = .ok (.ifCond .eq 7, 3) := by decide +kernel
theorem dL_refused_608 : decode cL_refused 608 = .ok (.iconst 1, 1) := by decide +kernel
theorem dL_refused_609 : decode cL_refused 609 = .ok (.goto 4, 3) := by decide +kernel
theorem dL_refused_612 : decode cL_refused 612 = .ok (.iconst 0, 1) := by decide +kernel
theorem dL_refused_613 : decode cL_refused 613 = .ok (.istore 5, 2) := by decide +kernel
theorem dL_refused_615 : decode cL_refused 615 = .ok (.iconst 0, 1) := by decide +kernel
theorem dL_refused_616 : decode cL_refused 616 = .ok (.istore 7, 2) := by decide +kernel
theorem dL_refused_618 : decode cL_refused 618 = .ok (.iload 7, 2) := by decide +kernel
theorem dL_refused_620 : decode cL_refused 620 = .ok (.iload_n 3, 1) := by decide +kernel
theorem dL_refused_621 : decode cL_refused 621 = .ok (.if_icmp .ge 66, 3) := by decide +kernel
theorem dL_refused_624 : decode cL_refused 624 = .ok (.iload 7, 2) := by decide +kernel
theorem dL_refused_626 : decode cL_refused 626 = .ok (.iload 6, 2) := by decide +kernel
theorem dL_refused_628 : decode cL_refused 628 = .ok (.if_icmp .eq 53, 3) := by decide +kernel
theorem dL_refused_631 : decode cL_refused 631 = .ok (.iload 5, 2) := by decide +kernel
theorem dL_refused_633 : decode cL_refused 633 = .ok (.ifCond .eq 45, 3) := by decide +kernel
theorem dL_refused_636 : decode cL_refused 636 = .ok (.aload_n 0, 1) := by decide +kernel
theorem dL_refused_637 : decode cL_refused 637 = .ok (.iload 6, 2) := by decide +kernel
theorem dL_refused_639 : decode cL_refused 639 = .ok (.iload 7, 2) := by decide +kernel
theorem dL_refused_641 : decode cL_refused 641 = .ok (.aload_n 0, 1) := by decide +kernel
theorem dL_refused_642 : decode cL_refused 642 = .ok (.iload 6, 2) := by decide +kernel
theorem dL_refused_644 : decode cL_refused 644 = .ok (.iload 7, 2) := by decide +kernel
theorem dL_refused_646 : decode cL_refused 646 = .ok (.invokestatic 206, 3) := by decide +kernel
theorem dL_refused_649 : decode cL_refused 649 = .ok (.invokestatic 171, 3) := by decide +kernel
theorem dL_refused_652 : decode cL_refused 652 = .ok (.sipush (-1001), 3) := by decide +kernel
theorem dL_refused_655 : decode cL_refused 655 = .ok (.if_icmp .ne 23, 3) := by decide +kernel
theorem dL_refused_658 : decode cL_refused 658 = .ok (.aload_n 0, 1) := by decide +kernel
theorem dL_refused_659 : decode cL_refused 659 = .ok (.iconst 5, 1) := by decide +kernel
theorem dL_refused_660 : decode cL_refused 660 = .ok (.aload_n 0, 1) := by decide +kernel
theorem dL_refused_661 : decode cL_refused 661 = .ok (.iload 6, 2) := by decide +kernel
theorem dL_refused_663 : decode cL_refused 663 = .ok (.iload 7, 2) := by decide +kernel
theorem dL_refused_665 : decode cL_refused 665 = .ok (.invokestatic 206, 3) := by decide +kernel
theorem dL_refused_668 : decode cL_refused 668 = .ok (.invokestatic 270, 3) := by decide +kernel
theorem dL_refused_671 : decode cL_refused 671 = .ok (.ifCond .eq 7, 3) := by decide +kernel
theorem dL_refused_674 : decode cL_refused 674 = .ok (.iconst 1, 1) := by decide +kernel
theorem dL_refused_675 : decode cL_refused 675 = .ok (.goto 4, 3) := by decide +kernel
theorem dL_refused_678 : decode cL_refused 678 = .ok (.iconst 0, 1) := by decide +kernel
theorem dL_refused_679 : decode cL_refused 679 = .ok (.istore 5, 2) := by decide +kernel
theorem dL_refused_681 : decode cL_refused 681 = .ok (.iinc 7 1, 3) := by decide +kernel
theorem dL_refused_684 : decode cL_refused 684 = .ok (.goto (-66), 3) := by decide +kernel
theorem dL_refused_687 : decode cL_refused 687 = .ok (.iinc 6 1, 3) := by decide +kernel
theorem dL_refused_690 : decode cL_refused 690 = .ok (.goto (-228), 3) := by decide +kernel
theorem dL_refused_693 : decode cL_refused 693 = .ok (.iconst 0, 1) := by decide +kernel
theorem dL_refused_694 : decode cL_refused 694 = .ok (.istore 6, 2) := by decide +kernel
theorem dL_refused_696 : decode cL_refused 696 = .ok (.iload 6, 2) := by decide +kernel
theorem dL_refused_698 : decode cL_refused 698 = .ok (.iload 4, 2) := by decide +kernel
theorem dL_refused_700 : decode cL_refused 700 = .ok (.if_icmp .ge 57, 3) := by decide +kernel
theorem dL_refused_703 : decode cL_refused 703 = .ok (.iload 5, 2) := by decide +kernel
theorem dL_refused_705 : decode cL_refused 705 = .ok (.ifCond .eq 43, 3) := by decide +kernel
theorem dL_refused_708 : decode cL_refused 708 = .ok (.aload_n 0, 1) := by decide +kernel
theorem dL_refused_709 : decode cL_refused 709 = .ok (.aload_n 0, 1) := by decide +kernel
theorem dL_refused_710 : decode cL_refused 710 = .ok (.iload 6, 2) := by decide +kernel
theorem dL_refused_712 : decode cL_refused 712 = .ok (.iconst 1, 1) := by decide +kernel
theorem dL_refused_713 : decode cL_refused 713 = .ok (.invokestatic 222, 3) := by decide +kernel
theorem dL_refused_716 : decode cL_refused 716 = .ok (.aload_n 0, 1) := by decide +kernel
theorem dL_refused_717 : decode cL_refused 717 = .ok (.iload 6, 2) := by decide +kernel
theorem dL_refused_719 : decode cL_refused 719 = .ok (.iconst 0, 1) := by decide +kernel
theorem dL_refused_720 : decode cL_refused 720 = .ok (.invokestatic 222, 3) := by decide +kernel
theorem dL_refused_723 : decode cL_refused 723 = .ok (.iconst 3, 1) := by decide +kernel
theorem dL_refused_724 : decode cL_refused 724 = .ok (.invokestatic 174, 3) := by decide +kernel
theorem dL_refused_727 : decode cL_refused 727 = .ok (.sipush (-1001), 3) := by decide +kernel
theorem dL_refused_730 : decode cL_refused 730 = .ok (.if_icmp .ne 18, 3) := by decide +kernel
theorem dL_refused_733 : decode cL_refused 733 = .ok (.aload_n 0, 1) := by decide +kernel
theorem dL_refused_734 : decode cL_refused 734 = .ok (.bipush 9, 2) := by decide +kernel
theorem dL_refused_736 : decode cL_refused 736 = .ok (.iload 6, 2) := by decide +kernel
theorem dL_refused_738 : decode cL_refused 738 = .ok (.invokestatic 270, 3) := by decide +kernel
theorem dL_refused_741 : decode cL_refused 741 = .ok (.ifCond .eq 7, 3) := by decide +kernel
theorem dL_refused_744 : decode cL_refused 744 = .ok (.iconst 1, 1) := by decide +kernel
theorem dL_refused_745 : decode cL_refused 745 = .ok (.goto 4, 3) := by decide +kernel
theorem dL_refused_748 : decode cL_refused 748 = .ok (.iconst 0, 1) := by decide +kernel
theorem dL_refused_749 : decode cL_refused 749 = .ok (.istore 5, 2) := by decide +kernel
theorem dL_refused_751 : decode cL_refused 751 = .ok (.iinc 6 1, 3) := by decide +kernel
theorem dL_refused_754 : decode cL_refused 754 = .ok (.goto (-58), 3) := by decide +kernel
theorem dL_refused_757 : decode cL_refused 757 = .ok (.aload_n 0, 1) := by decide +kernel
theorem dL_refused_758 : decode cL_refused 758 = .ok (.iconst 0, 1) := by decide +kernel
theorem dL_refused_759 : decode cL_refused 759 = .ok (.iconst 1, 1) := by decide +kernel
theorem dL_refused_760 : decode cL_refused 760 = .ok (.invokestatic 203, 3) := by decide +kernel
theorem dL_refused_763 : decode cL_refused 763 = .ok (.istore 6, 2) := by decide +kernel
theorem dL_refused_765 : decode cL_refused 765 = .ok (.iload 5, 2) := by decide +kernel
theorem dL_refused_767 : decode cL_refused 767 = .ok (.ifCond .eq 450, 3) := by decide +kernel
theorem dL_refused_770 : decode cL_refused 770 = .ok (.aload_n 0, 1) := by decide +kernel
theorem dL_refused_771 : decode cL_refused 771 = .ok (.iconst 0, 1) := by decide +kernel
theorem dL_refused_772 : decode cL_refused 772 = .ok (.iload 6, 2) := by decide +kernel
theorem dL_refused_774 : decode cL_refused 774 = .ok (.invokestatic 176, 3) := by decide +kernel
theorem dL_refused_777 : decode cL_refused 777 = .ok (.sipush (-1001), 3) := by decide +kernel
theorem dL_refused_780 : decode cL_refused 780 = .ok (.if_icmp .ne 437, 3) := by decide +kernel
theorem dL_refused_783 : decode cL_refused 783 = .ok (.aload_n 0, 1) := by decide +kernel
theorem dL_refused_784 : decode cL_refused 784 = .ok (.iload_n 3, 1) := by decide +kernel
theorem dL_refused_785 : decode cL_refused 785 = .ok (.bipush 9, 2) := by decide +kernel
theorem dL_refused_787 : decode cL_refused 787 = .ok (.invokestatic 203, 3) := by decide +kernel
theorem dL_refused_790 : decode cL_refused 790 = .ok (.sipush (-1001), 3) := by decide +kernel
theorem dL_refused_793 : decode cL_refused 793 = .ok (.if_icmp .ne 424, 3) := by decide +kernel
theorem dL_refused_796 : decode cL_refused 796 = .ok (.aload_n 0, 1) := by decide +kernel
theorem dL_refused_797 : decode cL_refused 797 = .ok (.iconst (-1), 1) := by decide +kernel
theorem dL_refused_798 : decode cL_refused 798 = .ok (.iconst 0, 1) := by decide +kernel
theorem dL_refused_799 : decode cL_refused 799 = .ok (.invokestatic 203, 3) := by decide +kernel
theorem dL_refused_802 : decode cL_refused 802 = .ok (.sipush (-1001), 3) := by decide +kernel
theorem dL_refused_805 : decode cL_refused 805 = .ok (.if_icmp .ne 412, 3) := by decide +kernel
theorem dL_refused_808 : decode cL_refused 808 = .ok (.aload_n 0, 1) := by decide +kernel
theorem dL_refused_809 : decode cL_refused 809 = .ok (.iconst 0, 1) := by decide +kernel
theorem dL_refused_810 : decode cL_refused 810 = .ok (.bipush 8, 2) := by decide +kernel
theorem dL_refused_812 : decode cL_refused 812 = .ok (.invokestatic 203, 3) := by decide +kernel
theorem dL_refused_815 : decode cL_refused 815 = .ok (.sipush (-1002), 3) := by decide +kernel
theorem dL_refused_818 : decode cL_refused 818 = .ok (.if_icmp .ne 399, 3) := by decide +kernel
theorem dL_refused_821 : decode cL_refused 821 = .ok (.aload_n 0, 1) := by decide +kernel
theorem dL_refused_822 : decode cL_refused 822 = .ok (.iconst 0, 1) := by decide +kernel
theorem dL_refused_823 : decode cL_refused 823 = .ok (.iconst (-1), 1) := by decide +kernel
theorem dL_refused_824 : decode cL_refused 824 = .ok (.invokestatic 203, 3) := by decide +kernel
theorem dL_refused_827 : decode cL_refused 827 = .ok (.sipush (-1002), 3) := by decide +kernel
theorem dL_refused_830 : decode cL_refused 830 = .ok (.if_icmp .ne 387, 3) := by decide +kernel
theorem dL_refused_833 : decode cL_refused 833 = .ok (.aload_n 0, 1) := by decide +kernel
theorem dL_refused_834 : decode cL_refused 834 = .ok (.iconst 0, 1) := by decide +kernel
theorem dL_refused_835 : decode cL_refused 835 = .ok (.iload_n 3, 1) := by decide +kernel
theorem dL_refused_836 : decode cL_refused 836 = .ok (.invokestatic 206, 3) := by decide +kernel
theorem dL_refused_839 : decode cL_refused 839 = .ok (.sipush (-1001), 3) := by decide +kernel
theorem dL_refused_842 : decode cL_refused 842 = .ok (.if_icmp .ne 375, 3) := by decide +kernel
theorem dL_refused_845 : decode cL_refused 845 = .ok (.aload_n 0, 1) := by decide +kernel
theorem dL_refused_846 : decode cL_refused 846 = .ok (.iconst (-1), 1) := by decide +kernel
theorem dL_refused_847 : decode cL_refused 847 = .ok (.iconst 0, 1) := by decide +kernel
theorem dL_refused_848 : decode cL_refused 848 = .ok (.invokestatic 206, 3) := by decide +kernel
theorem dL_refused_851 : decode cL_refused 851 = .ok (.sipush (-1001), 3) := by decide +kernel
theorem dL_refused_854 : decode cL_refused 854 = .ok (.if_icmp .ne 363, 3) := by decide +kernel
theorem dL_refused_857 : decode cL_refused 857 = .ok (.aload_n 0, 1) := by decide +kernel
theorem dL_refused_858 : decode cL_refused 858 = .ok (.iconst 0, 1) := by decide +kernel
theorem dL_refused_859 : decode cL_refused 859 = .ok (.iconst 0, 1) := by decide +kernel
theorem dL_refused_860 : decode cL_refused 860 = .ok (.invokestatic 206, 3) := by decide +kernel
theorem dL_refused_863 : decode cL_refused 863 = .ok (.ifCond .ne 354, 3) := by decide +kernel
theorem dL_refused_866 : decode cL_refused 866 = .ok (.aload_n 0, 1) := by decide +kernel
theorem dL_refused_867 : decode cL_refused 867 = .ok (.iload 4, 2) := by decide +kernel
theorem dL_refused_869 : decode cL_refused 869 = .ok (.bipush 9, 2) := by decide +kernel
theorem dL_refused_871 : decode cL_refused 871 = .ok (.invokestatic 222, 3) := by decide +kernel
theorem dL_refused_874 : decode cL_refused 874 = .ok (.sipush (-1001), 3) := by decide +kernel
theorem dL_refused_877 : decode cL_refused 877 = .ok (.if_icmp .ne 340, 3) := by decide +kernel
theorem dL_refused_880 : decode cL_refused 880 = .ok (.iload 4, 2) := by decide +kernel
theorem dL_refused_882 : decode cL_refused 882 = .ok (.ifCond .eq 27, 3) := by decide +kernel
theorem dL_refused_885 : decode cL_refused 885 = .ok (.aload_n 0, 1) := by decide +kernel
theorem dL_refused_886 : decode cL_refused 886 = .ok (.iconst 0, 1) := by decide +kernel
theorem dL_refused_887 : decode cL_refused 887 = .ok (.iconst 5, 1) := by decide +kernel
theorem dL_refused_888 : decode cL_refused 888 = .ok (.invokestatic 222, 3) := by decide +kernel
theorem dL_refused_891 : decode cL_refused 891 = .ok (.sipush (-1002), 3) := by decide +kernel
theorem dL_refused_894 : decode cL_refused 894 = .ok (.if_icmp .ne 323, 3) := by decide +kernel
theorem dL_refused_897 : decode cL_refused 897 = .ok (.aload_n 0, 1) := by decide +kernel
theorem dL_refused_898 : decode cL_refused 898 = .ok (.iconst 0, 1) := by decide +kernel
theorem dL_refused_899 : decode cL_refused 899 = .ok (.iconst (-1), 1) := by decide +kernel
theorem dL_refused_900 : decode cL_refused 900 = .ok (.invokestatic 222, 3) := by decide +kernel
theorem dL_refused_903 : decode cL_refused 903 = .ok (.sipush (-1002), 3) := by decide +kernel
theorem dL_refused_906 : decode cL_refused 906 = .ok (.if_icmp .ne 311, 3) := by decide +kernel
theorem dL_refused_909 : decode cL_refused 909 = .ok (.aload_n 0, 1) := by decide +kernel
theorem dL_refused_910 : decode cL_refused 910 = .ok (.iload_n 3, 1) := by decide +kernel
theorem dL_refused_911 : decode cL_refused 911 = .ok (.invokestatic 274, 3) := by decide +kernel
theorem dL_refused_914 : decode cL_refused 914 = .ok (.sipush (-1001), 3) := by decide +kernel
theorem dL_refused_917 : decode cL_refused 917 = .ok (.if_icmp .ne 300, 3) := by decide +kernel
theorem dL_refused_920 : decode cL_refused 920 = .ok (.aload_n 0, 1) := by decide +kernel
theorem dL_refused_921 : decode cL_refused 921 = .ok (.iload_n 3, 1) := by decide +kernel
theorem dL_refused_922 : decode cL_refused 922 = .ok (.invokestatic 208, 3) := by decide +kernel
theorem dL_refused_925 : decode cL_refused 925 = .ok (.sipush (-1001), 3) := by decide +kernel
theorem dL_refused_928 : decode cL_refused 928 = .ok (.if_icmp .ne 289, 3) := by decide +kernel
theorem dL_refused_931 : decode cL_refused 931 = .ok (.aload_n 0, 1) := by decide +kernel
theorem dL_refused_932 : decode cL_refused 932 = .ok (.iconst (-1), 1) := by decide +kernel
theorem dL_refused_933 : decode cL_refused 933 = .ok (.invokestatic 276, 3) := by decide +kernel
theorem dL_refused_936 : decode cL_refused 936 = .ok (.sipush (-1001), 3) := by decide +kernel
theorem dL_refused_939 : decode cL_refused 939 = .ok (.if_icmp .ne 278, 3) := by decide +kernel
theorem dL_refused_942 : decode cL_refused 942 = .ok (.aload_n 0, 1) := by decide +kernel
theorem dL_refused_943 : decode cL_refused 943 = .ok (.iload_n 3, 1) := by decide +kernel
theorem dL_refused_944 : decode cL_refused 944 = .ok (.invokestatic 278, 3) := by decide +kernel
theorem dL_refused_947 : decode cL_refused 947 = .ok (.sipush (-1001), 3) := by decide +kernel
theorem dL_refused_950 : decode cL_refused 950 = .ok (.if_icmp .ne 267, 3) := by decide +kernel
theorem dL_refused_953 : decode cL_refused 953 = .ok (.aload_n 0, 1) := by decide +kernel
theorem dL_refused_954 : decode cL_refused 954 = .ok (.iload_n 3, 1) := by decide +kernel
theorem dL_refused_955 : decode cL_refused 955 = .ok (.invokestatic 216, 3) := by decide +kernel
theorem dL_refused_958 : decode cL_refused 958 = .ok (.sipush (-1001), 3) := by decide +kernel
theorem dL_refused_961 : decode cL_refused 961 = .ok (.if_icmp .ne 256, 3) := by decide +kernel
theorem dL_refused_964 : decode cL_refused 964 = .ok (.aload_n 0, 1) := by decide +kernel
theorem dL_refused_965 : decode cL_refused 965 = .ok (.iload_n 3, 1) := by decide +kernel
theorem dL_refused_966 : decode cL_refused 966 = .ok (.iconst 0, 1) := by decide +kernel
theorem dL_refused_967 : decode cL_refused 967 = .ok (.invokestatic 280, 3) := by decide +kernel
theorem dL_refused_970 : decode cL_refused 970 = .ok (.sipush (-1001), 3) := by decide +kernel
theorem dL_refused_973 : decode cL_refused 973 = .ok (.if_icmp .ne 244, 3) := by decide +kernel
theorem dL_refused_976 : decode cL_refused 976 = .ok (.aload_n 0, 1) := by decide +kernel
theorem dL_refused_977 : decode cL_refused 977 = .ok (.iconst 0, 1) := by decide +kernel
theorem dL_refused_978 : decode cL_refused 978 = .ok (.iconst 0, 1) := by decide +kernel
theorem dL_refused_979 : decode cL_refused 979 = .ok (.invokestatic 280, 3) := by decide +kernel
theorem dL_refused_982 : decode cL_refused 982 = .ok (.sipush (-1002), 3) := by decide +kernel
theorem dL_refused_985 : decode cL_refused 985 = .ok (.if_icmp .ne 232, 3) := by decide +kernel
theorem dL_refused_988 : decode cL_refused 988 = .ok (.aload_n 0, 1) := by decide +kernel
theorem dL_refused_989 : decode cL_refused 989 = .ok (.iconst 0, 1) := by decide +kernel
theorem dL_refused_990 : decode cL_refused 990 = .ok (.bipush 10, 2) := by decide +kernel
theorem dL_refused_992 : decode cL_refused 992 = .ok (.invokestatic 280, 3) := by decide +kernel
theorem dL_refused_995 : decode cL_refused 995 = .ok (.sipush (-1002), 3) := by decide +kernel
theorem dL_refused_998 : decode cL_refused 998 = .ok (.if_icmp .ne 219, 3) := by decide +kernel
theorem dL_refused_1001 : decode cL_refused 1001 = .ok (.aload_n 0, 1) := by decide +kernel
theorem dL_refused_1002 : decode cL_refused 1002 = .ok (.iload_n 3, 1) := by decide +kernel
theorem dL_refused_1003 : decode cL_refused 1003 = .ok (.iconst 0, 1) := by decide +kernel
theorem dL_refused_1004 : decode cL_refused 1004 = .ok (.invokestatic 218, 3) := by decide +kernel
theorem dL_refused_1007 : decode cL_refused 1007 = .ok (.sipush (-1001), 3) := by decide +kernel
theorem dL_refused_1010 : decode cL_refused 1010 = .ok (.if_icmp .ne 207, 3) := by decide +kernel
theorem dL_refused_1013 : decode cL_refused 1013 = .ok (.aload_n 0, 1) := by decide +kernel
theorem dL_refused_1014 : decode cL_refused 1014 = .ok (.iconst 0, 1) := by decide +kernel
theorem dL_refused_1015 : decode cL_refused 1015 = .ok (.bipush 10, 2) := by decide +kernel
theorem dL_refused_1017 : decode cL_refused 1017 = .ok (.invokestatic 218, 3) := by decide +kernel
theorem dL_refused_1020 : decode cL_refused 1020 = .ok (.sipush (-1002), 3) := by decide +kernel
theorem dL_refused_1023 : decode cL_refused 1023 = .ok (.if_icmp .ne 194, 3) := by decide +kernel
theorem dL_refused_1026 : decode cL_refused 1026 = .ok (.aload_n 0, 1) := by decide +kernel
theorem dL_refused_1027 : decode cL_refused 1027 = .ok (.iload_n 3, 1) := by decide +kernel
theorem dL_refused_1028 : decode cL_refused 1028 = .ok (.bipush 99, 2) := by decide +kernel
theorem dL_refused_1030 : decode cL_refused 1030 = .ok (.invokestatic 212, 3) := by decide +kernel
theorem dL_refused_1033 : decode cL_refused 1033 = .ok (.sipush (-1001), 3) := by decide +kernel
theorem dL_refused_1036 : decode cL_refused 1036 = .ok (.if_icmp .ne 181, 3) := by decide +kernel
theorem dL_refused_1039 : decode cL_refused 1039 = .ok (.aload_n 0, 1) := by decide +kernel
theorem dL_refused_1040 : decode cL_refused 1040 = .ok (.iconst 0, 1) := by decide +kernel
theorem dL_refused_1041 : decode cL_refused 1041 = .ok (.bipush 31, 2) := by decide +kernel
theorem dL_refused_1043 : decode cL_refused 1043 = .ok (.invokestatic 212, 3) := by decide +kernel
theorem dL_refused_1046 : decode cL_refused 1046 = .ok (.sipush (-1002), 3) := by decide +kernel
theorem dL_refused_1049 : decode cL_refused 1049 = .ok (.if_icmp .ne 168, 3) := by decide +kernel
theorem dL_refused_1052 : decode cL_refused 1052 = .ok (.aload_n 0, 1) := by decide +kernel
theorem dL_refused_1053 : decode cL_refused 1053 = .ok (.iconst 0, 1) := by decide +kernel
theorem dL_refused_1054 : decode cL_refused 1054 = .ok (.iconst (-1), 1) := by decide +kernel
theorem dL_refused_1055 : decode cL_refused 1055 = .ok (.invokestatic 212, 3) := by decide +kernel
theorem dL_refused_1058 : decode cL_refused 1058 = .ok (.sipush (-1002), 3) := by decide +kernel
theorem dL_refused_1061 : decode cL_refused 1061 = .ok (.if_icmp .ne 156, 3) := by decide +kernel
theorem dL_refused_1064 : decode cL_refused 1064 = .ok (.aload_n 0, 1) := by decide +kernel
theorem dL_refused_1065 : decode cL_refused 1065 = .ok (.iload 4, 2) := by decide +kernel
theorem dL_refused_1067 : decode cL_refused 1067 = .ok (.invokestatic 224, 3) := by decide +kernel
theorem dL_refused_1070 : decode cL_refused 1070 = .ok (.sipush (-1001), 3) := by decide +kernel
theorem dL_refused_1073 : decode cL_refused 1073 = .ok (.if_icmp .ne 144, 3) := by decide +kernel
theorem dL_refused_1076 : decode cL_refused 1076 = .ok (.aload_n 0, 1) := by decide +kernel
theorem dL_refused_1077 : decode cL_refused 1077 = .ok (.iload_n 3, 1) := by decide +kernel
theorem dL_refused_1078 : decode cL_refused 1078 = .ok (.invokestatic 210, 3) := by decide +kernel
theorem dL_refused_1081 : decode cL_refused 1081 = .ok (.sipush (-1001), 3) := by decide +kernel
theorem dL_refused_1084 : decode cL_refused 1084 = .ok (.if_icmp .ne 133, 3) := by decide +kernel
theorem dL_refused_1087 : decode cL_refused 1087 = .ok (.aload_n 0, 1) := by decide +kernel
theorem dL_refused_1088 : decode cL_refused 1088 = .ok (.iconst 4, 1) := by decide +kernel
theorem dL_refused_1089 : decode cL_refused 1089 = .ok (.iconst 0, 1) := by decide +kernel
theorem dL_refused_1090 : decode cL_refused 1090 = .ok (.invokestatic 214, 3) := by decide +kernel
theorem dL_refused_1093 : decode cL_refused 1093 = .ok (.sipush (-1001), 3) := by decide +kernel
theorem dL_refused_1096 : decode cL_refused 1096 = .ok (.if_icmp .ne 121, 3) := by decide +kernel
theorem dL_refused_1099 : decode cL_refused 1099 = .ok (.aload_n 0, 1) := by decide +kernel
theorem dL_refused_1100 : decode cL_refused 1100 = .ok (.iconst (-1), 1) := by decide +kernel
theorem dL_refused_1101 : decode cL_refused 1101 = .ok (.iconst 0, 1) := by decide +kernel
theorem dL_refused_1102 : decode cL_refused 1102 = .ok (.invokestatic 214, 3) := by decide +kernel
theorem dL_refused_1105 : decode cL_refused 1105 = .ok (.sipush (-1001), 3) := by decide +kernel
theorem dL_refused_1108 : decode cL_refused 1108 = .ok (.if_icmp .ne 109, 3) := by decide +kernel
theorem dL_refused_1111 : decode cL_refused 1111 = .ok (.aload_n 0, 1) := by decide +kernel
theorem dL_refused_1112 : decode cL_refused 1112 = .ok (.iconst 0, 1) := by decide +kernel
theorem dL_refused_1113 : decode cL_refused 1113 = .ok (.iload_n 3, 1) := by decide +kernel
theorem dL_refused_1114 : decode cL_refused 1114 = .ok (.invokestatic 214, 3) := by decide +kernel
theorem dL_refused_1117 : decode cL_refused 1117 = .ok (.sipush (-1002), 3) := by decide +kernel
theorem dL_refused_1120 : decode cL_refused 1120 = .ok (.if_icmp .ne 97, 3) := by decide +kernel
theorem dL_refused_1123 : decode cL_refused 1123 = .ok (.aload_n 0, 1) := by decide +kernel
theorem dL_refused_1124 : decode cL_refused 1124 = .ok (.iload 4, 2) := by decide +kernel
theorem dL_refused_1126 : decode cL_refused 1126 = .ok (.invokestatic 226, 3) := by decide +kernel
theorem dL_refused_1129 : decode cL_refused 1129 = .ok (.sipush (-1001), 3) := by decide +kernel
theorem dL_refused_1132 : decode cL_refused 1132 = .ok (.if_icmp .ne 85, 3) := by decide +kernel
theorem dL_refused_1135 : decode cL_refused 1135 = .ok (.aload_n 0, 1) := by decide +kernel
theorem dL_refused_1136 : decode cL_refused 1136 = .ok (.iload_n 3, 1) := by decide +kernel
theorem dL_refused_1137 : decode cL_refused 1137 = .ok (.invokestatic 220, 3) := by decide +kernel
theorem dL_refused_1140 : decode cL_refused 1140 = .ok (.sipush (-1001), 3) := by decide +kernel
theorem dL_refused_1143 : decode cL_refused 1143 = .ok (.if_icmp .ne 74, 3) := by decide +kernel
theorem dL_refused_1146 : decode cL_refused 1146 = .ok (.aload_n 0, 1) := by decide +kernel
theorem dL_refused_1147 : decode cL_refused 1147 = .ok (.iconst (-1), 1) := by decide +kernel
theorem dL_refused_1148 : decode cL_refused 1148 = .ok (.invokestatic 159, 3) := by decide +kernel
theorem dL_refused_1151 : decode cL_refused 1151 = .ok (.sipush (-1001), 3) := by decide +kernel
theorem dL_refused_1154 : decode cL_refused 1154 = .ok (.if_icmp .ne 63, 3) := by decide +kernel
theorem dL_refused_1157 : decode cL_refused 1157 = .ok (.aload_n 0, 1) := by decide +kernel
theorem dL_refused_1158 : decode cL_refused 1158 = .ok (.bipush 120, 2) := by decide +kernel
theorem dL_refused_1160 : decode cL_refused 1160 = .ok (.invokestatic 159, 3) := by decide +kernel
theorem dL_refused_1163 : decode cL_refused 1163 = .ok (.sipush (-1001), 3) := by decide +kernel
theorem dL_refused_1166 : decode cL_refused 1166 = .ok (.if_icmp .ne 51, 3) := by decide +kernel
theorem dL_refused_1169 : decode cL_refused 1169 = .ok (.aload_n 0, 1) := by decide +kernel
theorem dL_refused_1170 : decode cL_refused 1170 = .ok (.bipush 11, 2) := by decide +kernel
theorem dL_refused_1172 : decode cL_refused 1172 = .ok (.invokestatic 201, 3) := by decide +kernel
theorem dL_refused_1175 : decode cL_refused 1175 = .ok (.sipush (-1001), 3) := by decide +kernel
theorem dL_refused_1178 : decode cL_refused 1178 = .ok (.if_icmp .ne 39, 3) := by decide +kernel
theorem dL_refused_1181 : decode cL_refused 1181 = .ok (.aload_n 0, 1) := by decide +kernel
theorem dL_refused_1182 : decode cL_refused 1182 = .ok (.iconst (-1), 1) := by decide +kernel
theorem dL_refused_1183 : decode cL_refused 1183 = .ok (.invokestatic 201, 3) := by decide +kernel
theorem dL_refused_1186 : decode cL_refused 1186 = .ok (.sipush (-1001), 3) := by decide +kernel
theorem dL_refused_1189 : decode cL_refused 1189 = .ok (.if_icmp .ne 28, 3) := by decide +kernel
theorem dL_refused_1192 : decode cL_refused 1192 = .ok (.aload_n 0, 1) := by decide +kernel
theorem dL_refused_1193 : decode cL_refused 1193 = .ok (.iconst 3, 1) := by decide +kernel
theorem dL_refused_1194 : decode cL_refused 1194 = .ok (.invokestatic 156, 3) := by decide +kernel
theorem dL_refused_1197 : decode cL_refused 1197 = .ok (.sipush (-1001), 3) := by decide +kernel
theorem dL_refused_1200 : decode cL_refused 1200 = .ok (.if_icmp .ne 17, 3) := by decide +kernel
theorem dL_refused_1203 : decode cL_refused 1203 = .ok (.aload_n 0, 1) := by decide +kernel
theorem dL_refused_1204 : decode cL_refused 1204 = .ok (.iconst 5, 1) := by decide +kernel
theorem dL_refused_1205 : decode cL_refused 1205 = .ok (.iload 6, 2) := by decide +kernel
theorem dL_refused_1207 : decode cL_refused 1207 = .ok (.invokestatic 270, 3) := by decide +kernel
theorem dL_refused_1210 : decode cL_refused 1210 = .ok (.ifCond .eq 7, 3) := by decide +kernel
theorem dL_refused_1213 : decode cL_refused 1213 = .ok (.iconst 1, 1) := by decide +kernel
theorem dL_refused_1214 : decode cL_refused 1214 = .ok (.goto 4, 3) := by decide +kernel
theorem dL_refused_1217 : decode cL_refused 1217 = .ok (.iconst 0, 1) := by decide +kernel
theorem dL_refused_1218 : decode cL_refused 1218 = .ok (.istore 5, 2) := by decide +kernel
theorem dL_refused_1220 : decode cL_refused 1220 = .ok (.iload 5, 2) := by decide +kernel
theorem dL_refused_1222 : decode cL_refused 1222 = .ok (.ifCond .eq 109, 3) := by decide +kernel
theorem dL_refused_1225 : decode cL_refused 1225 = .ok (.aload_n 0, 1) := by decide +kernel
theorem dL_refused_1226 : decode cL_refused 1226 = .ok (.ldc_w 282, 3) := by decide +kernel
theorem dL_refused_1229 : decode cL_refused 1229 = .ok (.invokestatic 262, 3) := by decide +kernel
theorem dL_refused_1232 : decode cL_refused 1232 = .ok (.sipush (-1001), 3) := by decide +kernel
theorem dL_refused_1235 : decode cL_refused 1235 = .ok (.if_icmp .ne 96, 3) := by decide +kernel
theorem dL_refused_1238 : decode cL_refused 1238 = .ok (.aload_n 0, 1) := by decide +kernel
theorem dL_refused_1239 : decode cL_refused 1239 = .ok (.invokevirtual 284, 3) := by decide +kernel
theorem dL_refused_1242 : decode cL_refused 1242 = .ok (.ifCond .ne 89, 3) := by decide +kernel
theorem dL_refused_1245 : decode cL_refused 1245 = .ok (.aload_n 0, 1) := by decide +kernel
theorem dL_refused_1246 : decode cL_refused 1246 = .ok (.ldc_w 287, 3) := by decide +kernel
theorem dL_refused_1249 : decode cL_refused 1249 = .ok (.invokestatic 262, 3) := by decide +kernel
theorem dL_refused_1252 : decode cL_refused 1252 = .ok (.sipush (-1002), 3) := by decide +kernel
theorem dL_refused_1255 : decode cL_refused 1255 = .ok (.if_icmp .ne 76, 3) := by decide +kernel
theorem dL_refused_1258 : decode cL_refused 1258 = .ok (.aload_n 0, 1) := by decide +kernel
theorem dL_refused_1259 : decode cL_refused 1259 = .ok (.iconst 2, 1) := by decide +kernel
theorem dL_refused_1260 : decode cL_refused 1260 = .ok (.iconst 3, 1) := by decide +kernel
theorem dL_refused_1261 : decode cL_refused 1261 = .ok (.iload_n 3, 1) := by decide +kernel
theorem dL_refused_1262 : decode cL_refused 1262 = .ok (.invokestatic 152, 3) := by decide +kernel
theorem dL_refused_1265 : decode cL_refused 1265 = .ok (.ifCond .eq 66, 3) := by decide +kernel
theorem dL_refused_1268 : decode cL_refused 1268 = .ok (.aload_n 0, 1) := by decide +kernel
theorem dL_refused_1269 : decode cL_refused 1269 = .ok (.new 243, 3) := by decide +kernel
theorem dL_refused_1272 : decode cL_refused 1272 = .ok (.dup, 1) := by decide +kernel
theorem dL_refused_1273 : decode cL_refused 1273 = .ok (.invokespecial 245, 3) := by decide +kernel
theorem dL_refused_1276 : decode cL_refused 1276 = .ok (.ldc_w 289, 3) := by decide +kernel
theorem dL_refused_1279 : decode cL_refused 1279 = .ok (.invokevirtual 248, 3) := by decide +kernel
theorem dL_refused_1282 : decode cL_refused 1282 = .ok (.iload 6, 2) := by decide +kernel
theorem dL_refused_1284 : decode cL_refused 1284 = .ok (.invokevirtual 251, 3) := by decide +kernel
theorem dL_refused_1287 : decode cL_refused 1287 = .ok (.invokevirtual 256, 3) := by decide +kernel
theorem dL_refused_1290 : decode cL_refused 1290 = .ok (.invokestatic 262, 3) := by decide +kernel
theorem dL_refused_1293 : decode cL_refused 1293 = .ok (.sipush (-1002), 3) := by decide +kernel
theorem dL_refused_1296 : decode cL_refused 1296 = .ok (.if_icmp .ne 35, 3) := by decide +kernel
theorem dL_refused_1299 : decode cL_refused 1299 = .ok (.aload_n 0, 1) := by decide +kernel
theorem dL_refused_1300 : decode cL_refused 1300 = .ok (.iconst 0, 1) := by decide +kernel
theorem dL_refused_1301 : decode cL_refused 1301 = .ok (.iconst 5, 1) := by decide +kernel
theorem dL_refused_1302 : decode cL_refused 1302 = .ok (.iload 6, 2) := by decide +kernel
theorem dL_refused_1304 : decode cL_refused 1304 = .ok (.invokestatic 152, 3) := by decide +kernel
theorem dL_refused_1307 : decode cL_refused 1307 = .ok (.ifCond .eq 24, 3) := by decide +kernel
theorem dL_refused_1310 : decode cL_refused 1310 = .ok (.aload_n 0, 1) := by decide +kernel
theorem dL_refused_1311 : decode cL_refused 1311 = .ok (.invokevirtual 284, 3) := by decide +kernel
theorem dL_refused_1314 : decode cL_refused 1314 = .ok (.iconst (-1), 1) := by decide +kernel
theorem dL_refused_1315 : decode cL_refused 1315 = .ok (.if_icmp .ne 16, 3) := by decide +kernel
theorem dL_refused_1318 : decode cL_refused 1318 = .ok (.aload_n 0, 1) := by decide +kernel
theorem dL_refused_1319 : decode cL_refused 1319 = .ok (.invokestatic 266, 3) := by decide +kernel
theorem dL_refused_1322 : decode cL_refused 1322 = .ok (.lload_n 1, 1) := by decide +kernel
theorem dL_refused_1323 : decode cL_refused 1323 = .ok (.lcmp, 1) := by decide +kernel
theorem dL_refused_1324 : decode cL_refused 1324 = .ok (.ifCond .ne 7, 3) := by decide +kernel
theorem dL_refused_1327 : decode cL_refused 1327 = .ok (.iconst 1, 1) := by decide +kernel
theorem dL_refused_1328 : decode cL_refused 1328 = .ok (.goto 4, 3) := by decide +kernel
theorem dL_refused_1331 : decode cL_refused 1331 = .ok (.iconst 0, 1) := by decide +kernel
theorem dL_refused_1332 : decode cL_refused 1332 = .ok (.ireturn, 1) := by decide +kernel
theorem dL_law_0 : decode cL_law 0 = .ok (.new 8, 3) := by decide +kernel
theorem dL_law_3 : decode cL_law 3 = .ok (.dup, 1) := by decide +kernel
theorem dL_law_4 : decode cL_law 4 = .ok (.invokespecial 291, 3) := by decide +kernel
theorem dL_law_7 : decode cL_law 7 = .ok (.astore_n 1, 1) := by decide +kernel
theorem dL_law_8 : decode cL_law 8 = .ok (.aload_n 1, 1) := by decide +kernel
theorem dL_law_9 : decode cL_law 9 = .ok (.invokestatic 292, 3) := by decide +kernel
theorem dL_law_12 : decode cL_law 12 = .ok (.sipush (-1001), 3) := by decide +kernel
theorem dL_law_15 : decode cL_law 15 = .ok (.if_icmp .ne 20, 3) := by decide +kernel
theorem dL_law_18 : decode cL_law 18 = .ok (.aload_n 1, 1) := by decide +kernel
theorem dL_law_19 : decode cL_law 19 = .ok (.invokestatic 294, 3) := by decide +kernel
theorem dL_law_22 : decode cL_law 22 = .ok (.sipush (-1001), 3) := by decide +kernel
theorem dL_law_25 : decode cL_law 25 = .ok (.if_icmp .ne 10, 3) := by decide +kernel
theorem dL_law_28 : decode cL_law 28 = .ok (.aload_n 1, 1) := by decide +kernel
theorem dL_law_29 : decode cL_law 29 = .ok (.invokevirtual 296, 3) := by decide +kernel
theorem dL_law_32 : decode cL_law 32 = .ok (.ifCond .eq 5, 3) := by decide +kernel
theorem dL_law_35 : decode cL_law 35 = .ok (.iconst 0, 1) := by decide +kernel
theorem dL_law_36 : decode cL_law 36 = .ok (.ireturn, 1) := by decide +kernel
theorem dL_law_37 : decode cL_law 37 = .ok (.iconst 0, 1) := by decide +kernel
theorem dL_law_38 : decode cL_law 38 = .ok (.istore_n 2, 1) := by decide +kernel
theorem dL_law_39 : decode cL_law 39 = .ok (.iload_n 2, 1) := by decide +kernel
theorem dL_law_40 : decode cL_law 40 = .ok (.bipush 60, 2) := by decide +kernel
theorem dL_law_42 : decode cL_law 42 = .ok (.if_icmp .ge 26, 3) := by decide +kernel
theorem dL_law_45 : decode cL_law 45 = .ok (.aload_n 1, 1) := by decide +kernel
theorem dL_law_46 : decode cL_law 46 = .ok (.bipush 65, 2) := by decide +kernel
theorem dL_law_48 : decode cL_law 48 = .ok (.iload_n 2, 1) := by decide +kernel
theorem dL_law_49 : decode cL_law 49 = .ok (.iadd, 1) := by decide +kernel
theorem dL_law_50 : decode cL_law 50 = .ok (.i2c, 1) := by decide +kernel
theorem dL_law_51 : decode cL_law 51 = .ok (.invokestatic 144, 3) := by decide +kernel
theorem dL_law_54 : decode cL_law 54 = .ok (.iload_n 2, 1) := by decide +kernel
theorem dL_law_55 : decode cL_law 55 = .ok (.iconst 1, 1) := by decide +kernel
theorem dL_law_56 : decode cL_law 56 = .ok (.iadd, 1) := by decide +kernel
theorem dL_law_57 : decode cL_law 57 = .ok (.if_icmp .eq 5, 3) := by decide +kernel
theorem dL_law_60 : decode cL_law 60 = .ok (.iconst 0, 1) := by decide +kernel
theorem dL_law_61 : decode cL_law 61 = .ok (.ireturn, 1) := by decide +kernel
theorem dL_law_62 : decode cL_law 62 = .ok (.iinc 2 1, 3) := by decide +kernel
theorem dL_law_65 : decode cL_law 65 = .ok (.goto (-26), 3) := by decide +kernel
theorem dL_law_68 : decode cL_law 68 = .ok (.aload_n 1, 1) := by decide +kernel
theorem dL_law_69 : decode cL_law 69 = .ok (.bipush 114, 2) := by decide +kernel
theorem dL_law_71 : decode cL_law 71 = .ok (.invokestatic 144, 3) := by decide +kernel
theorem dL_law_74 : decode cL_law 74 = .ok (.sipush (-1001), 3) := by decide +kernel
theorem dL_law_77 : decode cL_law 77 = .ok (.if_icmp .ne 40, 3) := by decide +kernel
theorem dL_law_80 : decode cL_law 80 = .ok (.aload_n 1, 1) := by decide +kernel
theorem dL_law_81 : decode cL_law 81 = .ok (.bipush 10, 2) := by decide +kernel
theorem dL_law_83 : decode cL_law 83 = .ok (.invokestatic 201, 3) := by decide +kernel
theorem dL_law_86 : decode cL_law 86 = .ok (.bipush 60, 2) := by decide +kernel
theorem dL_law_88 : decode cL_law 88 = .ok (.if_icmp .ne 29, 3) := by decide +kernel
theorem dL_law_91 : decode cL_law 91 = .ok (.aload_n 1, 1) := by decide +kernel
theorem dL_law_92 : decode cL_law 92 = .ok (.invokestatic 149, 3) := by decide +kernel
theorem dL_law_95 : decode cL_law 95 = .ok (.sipush (-1001), 3) := by decide +kernel
theorem dL_law_98 : decode cL_law 98 = .ok (.if_icmp .ne 19, 3) := by decide +kernel
theorem dL_law_101 : decode cL_law 101 = .ok (.aload_n 1, 1) := by decide +kernel
theorem dL_law_102 : decode cL_law 102 = .ok (.invokevirtual 284, 3) := by decide +kernel
theorem dL_law_105 : decode cL_law 105 = .ok (.ifCond .ne 12, 3) := by decide +kernel
theorem dL_law_108 : decode cL_law 108 = .ok (.aload_n 1, 1) := by decide +kernel
theorem dL_law_109 : decode cL_law 109 = .ok (.bipush 10, 2) := by decide +kernel
theorem dL_law_111 : decode cL_law 111 = .ok (.invokestatic 201, 3) := by decide +kernel
theorem dL_law_114 : decode cL_law 114 = .ok (.ifCond .eq 5, 3) := by decide +kernel
theorem dL_law_117 : decode cL_law 117 = .ok (.iconst 0, 1) := by decide +kernel
theorem dL_law_118 : decode cL_law 118 = .ok (.ireturn, 1) := by decide +kernel
theorem dL_law_119 : decode cL_law 119 = .ok (.iconst 0, 1) := by decide +kernel
theorem dL_law_120 : decode cL_law 120 = .ok (.istore_n 2, 1) := by decide +kernel
theorem dL_law_121 : decode cL_law 121 = .ok (.iload_n 2, 1) := by decide +kernel
theorem dL_law_122 : decode cL_law 122 = .ok (.bipush 6, 2) := by decide +kernel
theorem dL_law_124 : decode cL_law 124 = .ok (.if_icmp .ge 37, 3) := by decide +kernel
theorem dL_law_127 : decode cL_law 127 = .ok (.aload_n 1, 1) := by decide +kernel
theorem dL_law_128 : decode cL_law 128 = .ok (.iconst 4, 1) := by decide +kernel
theorem dL_law_129 : decode cL_law 129 = .ok (.iload_n 2, 1) := by decide +kernel
theorem dL_law_130 : decode cL_law 130 = .ok (.imul, 1) := by decide +kernel
theorem dL_law_131 : decode cL_law 131 = .ok (.bipush 8, 2) := by decide +kernel
theorem dL_law_133 : decode cL_law 133 = .ok (.isub, 1) := by decide +kernel
theorem dL_law_134 : decode cL_law 134 = .ok (.iload_n 2, 1) := by decide +kernel
theorem dL_law_135 : decode cL_law 135 = .ok (.iconst 2, 1) := by decide +kernel
theorem dL_law_136 : decode cL_law 136 = .ok (.irem, 1) := by decide +kernel
theorem dL_law_137 : decode cL_law 137 = .ok (.iconst 1, 1) := by decide +kernel
theorem dL_law_138 : decode cL_law 138 = .ok (.if_icmp .ne 7, 3) := by decide +kernel
theorem dL_law_141 : decode cL_law 141 = .ok (.iconst 1, 1) := by decide +kernel
theorem dL_law_142 : decode cL_law 142 = .ok (.goto 4, 3) := by decide +kernel
theorem dL_law_145 : decode cL_law 145 = .ok (.iconst 0, 1) := by decide +kernel
theorem dL_law_146 : decode cL_law 146 = .ok (.invokestatic 168, 3) := by decide +kernel
theorem dL_law_149 : decode cL_law 149 = .ok (.iload_n 2, 1) := by decide +kernel
theorem dL_law_150 : decode cL_law 150 = .ok (.if_icmp .eq 5, 3) := by decide +kernel
theorem dL_law_153 : decode cL_law 153 = .ok (.iconst 0, 1) := by decide +kernel
theorem dL_law_154 : decode cL_law 154 = .ok (.ireturn, 1) := by decide +kernel
theorem dL_law_155 : decode cL_law 155 = .ok (.iinc 2 1, 3) := by decide +kernel
theorem dL_law_158 : decode cL_law 158 = .ok (.goto (-37), 3) := by decide +kernel
theorem dL_law_161 : decode cL_law 161 = .ok (.aload_n 1, 1) := by decide +kernel
theorem dL_law_162 : decode cL_law 162 = .ok (.iconst 0, 1) := by decide +kernel
theorem dL_law_163 : decode cL_law 163 = .ok (.iconst 1, 1) := by decide +kernel
theorem dL_law_164 : decode cL_law 164 = .ok (.invokestatic 168, 3) := by decide +kernel
theorem dL_law_167 : decode cL_law 167 = .ok (.sipush (-1001), 3) := by decide +kernel
theorem dL_law_170 : decode cL_law 170 = .ok (.if_icmp .ne 50, 3) := by decide +kernel
theorem dL_law_173 : decode cL_law 173 = .ok (.aload_n 1, 1) := by decide +kernel
theorem dL_law_174 : decode cL_law 174 = .ok (.iconst 2, 1) := by decide +kernel
theorem dL_law_175 : decode cL_law 175 = .ok (.bipush 6, 2) := by decide +kernel
theorem dL_law_177 : decode cL_law 177 = .ok (.invokestatic 270, 3) := by decide +kernel
theorem dL_law_180 : decode cL_law 180 = .ok (.ifCond .eq 40, 3) := by decide +kernel
theorem dL_law_183 : decode cL_law 183 = .ok (.aload_n 1, 1) := by decide +kernel
theorem dL_law_184 : decode cL_law 184 = .ok (.bipush 9, 2) := by decide +kernel
theorem dL_law_186 : decode cL_law 186 = .ok (.invokestatic 201, 3) := by decide +kernel
theorem dL_law_189 : decode cL_law 189 = .ok (.bipush 6, 2) := by decide +kernel
theorem dL_law_191 : decode cL_law 191 = .ok (.if_icmp .ne 29, 3) := by decide +kernel
theorem dL_law_194 : decode cL_law 194 = .ok (.aload_n 1, 1) := by decide +kernel
theorem dL_law_195 : decode cL_law 195 = .ok (.bipush 8, 2) := by decide +kernel
theorem dL_law_197 : decode cL_law 197 = .ok (.invokestatic 201, 3) := by decide +kernel
theorem dL_law_200 : decode cL_law 200 = .ok (.bipush 12, 2) := by decide +kernel
theorem dL_law_202 : decode cL_law 202 = .ok (.if_icmp .ne 18, 3) := by decide +kernel
theorem dL_law_205 : decode cL_law 205 = .ok (.aload_n 1, 1) := by decide +kernel
theorem dL_law_206 : decode cL_law 206 = .ok (.invokevirtual 233, 3) := by decide +kernel
theorem dL_law_209 : decode cL_law 209 = .ok (.iconst 5, 1) := by decide +kernel
theorem dL_law_210 : decode cL_law 210 = .ok (.if_icmp .ne 10, 3) := by decide +kernel
theorem dL_law_213 : decode cL_law 213 = .ok (.aload_n 1, 1) := by decide +kernel
theorem dL_law_214 : decode cL_law 214 = .ok (.invokestatic 231, 3) := by decide +kernel
theorem dL_law_217 : decode cL_law 217 = .ok (.ifCond .eq 5, 3) := by decide +kernel
theorem dL_law_220 : decode cL_law 220 = .ok (.iconst 0, 1) := by decide +kernel
theorem dL_law_221 : decode cL_law 221 = .ok (.ireturn, 1) := by decide +kernel
theorem dL_law_222 : decode cL_law 222 = .ok (.iconst 0, 1) := by decide +kernel
theorem dL_law_223 : decode cL_law 223 = .ok (.istore_n 2, 1) := by decide +kernel
theorem dL_law_224 : decode cL_law 224 = .ok (.iload_n 2, 1) := by decide +kernel
theorem dL_law_225 : decode cL_law 225 = .ok (.bipush 6, 2) := by decide +kernel
theorem dL_law_227 : decode cL_law 227 = .ok (.if_icmp .ge 27, 3) := by decide +kernel
theorem dL_law_230 : decode cL_law 230 = .ok (.aload_n 1, 1) := by decide +kernel
theorem dL_law_231 : decode cL_law 231 = .ok (.iload_n 2, 1) := by decide +kernel
theorem dL_law_232 : decode cL_law 232 = .ok (.iload_n 2, 1) := by decide +kernel
theorem dL_law_233 : decode cL_law 233 = .ok (.iconst 1, 1) := by decide +kernel
theorem dL_law_234 : decode cL_law 234 = .ok (.iadd, 1) := by decide +kernel
theorem dL_law_235 : decode cL_law 235 = .ok (.bipush 6, 2) := by decide +kernel
theorem dL_law_237 : decode cL_law 237 = .ok (.irem, 1) := by decide +kernel
theorem dL_law_238 : decode cL_law 238 = .ok (.iconst 3, 1) := by decide +kernel
theorem dL_law_239 : decode cL_law 239 = .ok (.invokestatic 174, 3) := by decide +kernel
theorem dL_law_242 : decode cL_law 242 = .ok (.iload_n 2, 1) := by decide +kernel
theorem dL_law_243 : decode cL_law 243 = .ok (.if_icmp .eq 5, 3) := by decide +kernel
theorem dL_law_246 : decode cL_law 246 = .ok (.iconst 0, 1) := by decide +kernel
theorem dL_law_247 : decode cL_law 247 = .ok (.ireturn, 1) := by decide +kernel
theorem dL_law_248 : decode cL_law 248 = .ok (.iinc 2 1, 3) := by decide +kernel
theorem dL_law_251 : decode cL_law 251 = .ok (.goto (-27), 3) := by decide +kernel
theorem dL_law_254 : decode cL_law 254 = .ok (.aload_n 1, 1) := by decide +kernel
theorem dL_law_255 : decode cL_law 255 = .ok (.iconst 0, 1) := by decide +kernel
theorem dL_law_256 : decode cL_law 256 = .ok (.iconst 2, 1) := by decide +kernel
theorem dL_law_257 : decode cL_law 257 = .ok (.iconst 3, 1) := by decide +kernel
theorem dL_law_258 : decode cL_law 258 = .ok (.invokestatic 174, 3) := by decide +kernel
theorem dL_law_261 : decode cL_law 261 = .ok (.sipush (-1001), 3) := by decide +kernel
theorem dL_law_264 : decode cL_law 264 = .ok (.if_icmp .ne 94, 3) := by decide +kernel
theorem dL_law_267 : decode cL_law 267 = .ok (.aload_n 1, 1) := by decide +kernel
theorem dL_law_268 : decode cL_law 268 = .ok (.iconst 2, 1) := by decide +kernel
theorem dL_law_269 : decode cL_law 269 = .ok (.bipush 6, 2) := by decide +kernel
theorem dL_law_271 : decode cL_law 271 = .ok (.invokestatic 270, 3) := by decide +kernel
theorem dL_law_274 : decode cL_law 274 = .ok (.ifCond .eq 84, 3) := by decide +kernel
theorem dL_law_277 : decode cL_law 277 = .ok (.aload_n 1, 1) := by decide +kernel
theorem dL_law_278 : decode cL_law 278 = .ok (.bipush 9, 2) := by decide +kernel
theorem dL_law_280 : decode cL_law 280 = .ok (.invokestatic 201, 3) := by decide +kernel
theorem dL_law_283 : decode cL_law 283 = .ok (.bipush 8, 2) := by decide +kernel
theorem dL_law_285 : decode cL_law 285 = .ok (.if_icmp .ne 73, 3) := by decide +kernel
theorem dL_law_288 : decode cL_law 288 = .ok (.aload_n 1, 1) := by decide +kernel
theorem dL_law_289 : decode cL_law 289 = .ok (.iconst 5, 1) := by decide +kernel
theorem dL_law_290 : decode cL_law 290 = .ok (.invokestatic 224, 3) := by decide +kernel
theorem dL_law_293 : decode cL_law 293 = .ok (.iconst 3, 1) := by decide +kernel
theorem dL_law_294 : decode cL_law 294 = .ok (.if_icmp .ne 64, 3) := by decide +kernel
theorem dL_law_297 : decode cL_law 297 = .ok (.aload_n 1, 1) := by decide +kernel
theorem dL_law_298 : decode cL_law 298 = .ok (.invokestatic 179, 3) := by decide +kernel
theorem dL_law_301 : decode cL_law 301 = .ok (.ifCond .ne 57, 3) := by decide +kernel
theorem dL_law_304 : decode cL_law 304 = .ok (.aload_n 1, 1) := by decide +kernel
theorem dL_law_305 : decode cL_law 305 = .ok (.bipush 6, 2) := by decide +kernel
theorem dL_law_307 : decode cL_law 307 = .ok (.invokestatic 201, 3) := by decide +kernel
theorem dL_law_310 : decode cL_law 310 = .ok (.bipush 6, 2) := by decide +kernel
theorem dL_law_312 : decode cL_law 312 = .ok (.if_icmp .ne 46, 3) := by decide +kernel
theorem dL_law_315 : decode cL_law 315 = .ok (.aload_n 1, 1) := by decide +kernel
theorem dL_law_316 : decode cL_law 316 = .ok (.invokestatic 179, 3) := by decide +kernel
theorem dL_law_319 : decode cL_law 319 = .ok (.ifCond .ne 39, 3) := by decide +kernel
theorem dL_law_322 : decode cL_law 322 = .ok (.aload_n 1, 1) := by decide +kernel
theorem dL_law_323 : decode cL_law 323 = .ok (.invokestatic 179, 3) := by decide +kernel
theorem dL_law_326 : decode cL_law 326 = .ok (.ifCond .ne 32, 3) := by decide +kernel
theorem dL_law_329 : decode cL_law 329 = .ok (.aload_n 1, 1) := by decide +kernel
theorem dL_law_330 : decode cL_law 330 = .ok (.bipush 7, 2) := by decide +kernel
theorem dL_law_332 : decode cL_law 332 = .ok (.invokestatic 201, 3) := by decide +kernel
theorem dL_law_335 : decode cL_law 335 = .ok (.bipush 6, 2) := by decide +kernel
theorem dL_law_337 : decode cL_law 337 = .ok (.if_icmp .ne 21, 3) := by decide +kernel
theorem dL_law_340 : decode cL_law 340 = .ok (.aload_n 1, 1) := by decide +kernel
theorem dL_law_341 : decode cL_law 341 = .ok (.iconst 2, 1) := by decide +kernel
theorem dL_law_342 : decode cL_law 342 = .ok (.invokestatic 201, 3) := by decide +kernel
theorem dL_law_345 : decode cL_law 345 = .ok (.ifCond .ne 13, 3) := by decide +kernel
theorem dL_law_348 : decode cL_law 348 = .ok (.aload_n 1, 1) := by decide +kernel
theorem dL_law_349 : decode cL_law 349 = .ok (.iconst 0, 1) := by decide +kernel
theorem dL_law_350 : decode cL_law 350 = .ok (.iconst 1, 1) := by decide +kernel
theorem dL_law_351 : decode cL_law 351 = .ok (.invokestatic 203, 3) := by decide +kernel
theorem dL_law_354 : decode cL_law 354 = .ok (.iconst 3, 1) := by decide +kernel
theorem dL_law_355 : decode cL_law 355 = .ok (.if_icmp .eq 5, 3) := by decide +kernel
theorem dL_law_358 : decode cL_law 358 = .ok (.iconst 0, 1) := by decide +kernel
theorem dL_law_359 : decode cL_law 359 = .ok (.ireturn, 1) := by decide +kernel
theorem dL_law_360 : decode cL_law 360 = .ok (.aload_n 1, 1) := by decide +kernel
theorem dL_law_361 : decode cL_law 361 = .ok (.invokestatic 292, 3) := by decide +kernel
theorem dL_law_364 : decode cL_law 364 = .ok (.bipush 7, 2) := by decide +kernel
theorem dL_law_366 : decode cL_law 366 = .ok (.if_icmp .ne 126, 3) := by decide +kernel
theorem dL_law_369 : decode cL_law 369 = .ok (.aload_n 1, 1) := by decide +kernel
theorem dL_law_370 : decode cL_law 370 = .ok (.iconst 2, 1) := by decide +kernel
theorem dL_law_371 : decode cL_law 371 = .ok (.invokestatic 201, 3) := by decide +kernel
theorem dL_law_374 : decode cL_law 374 = .ok (.bipush 6, 2) := by decide +kernel
theorem dL_law_376 : decode cL_law 376 = .ok (.if_icmp .ne 116, 3) := by decide +kernel
theorem dL_law_379 : decode cL_law 379 = .ok (.aload_n 1, 1) := by decide +kernel
theorem dL_law_380 : decode cL_law 380 = .ok (.bipush 6, 2) := by decide +kernel
theorem dL_law_382 : decode cL_law 382 = .ok (.invokestatic 201, 3) := by decide +kernel
theorem dL_law_385 : decode cL_law 385 = .ok (.bipush 12, 2) := by decide +kernel
theorem dL_law_387 : decode cL_law 387 = .ok (.if_icmp .ne 105, 3) := by decide +kernel
theorem dL_law_390 : decode cL_law 390 = .ok (.aload_n 1, 1) := by decide +kernel
theorem dL_law_391 : decode cL_law 391 = .ok (.invokestatic 292, 3) := by decide +kernel
theorem dL_law_394 : decode cL_law 394 = .ok (.bipush 6, 2) := by decide +kernel
theorem dL_law_396 : decode cL_law 396 = .ok (.if_icmp .ne 96, 3) := by decide +kernel
theorem dL_law_399 : decode cL_law 399 = .ok (.aload_n 1, 1) := by decide +kernel
theorem dL_law_400 : decode cL_law 400 = .ok (.invokestatic 292, 3) := by decide +kernel
theorem dL_law_403 : decode cL_law 403 = .ok (.iconst 5, 1) := by decide +kernel
theorem dL_law_404 : decode cL_law 404 = .ok (.if_icmp .ne 88, 3) := by decide +kernel
theorem dL_law_407 : decode cL_law 407 = .ok (.aload_n 1, 1) := by decide +kernel
theorem dL_law_408 : decode cL_law 408 = .ok (.bipush 6, 2) := by decide +kernel
theorem dL_law_410 : decode cL_law 410 = .ok (.invokestatic 201, 3) := by decide +kernel
theorem dL_law_413 : decode cL_law 413 = .ok (.ifCond .ne 79, 3) := by decide +kernel
theorem dL_law_416 : decode cL_law 416 = .ok (.aload_n 1, 1) := by decide +kernel
theorem dL_law_417 : decode cL_law 417 = .ok (.iconst 0, 1) := by decide +kernel
theorem dL_law_418 : decode cL_law 418 = .ok (.iconst 1, 1) := by decide +kernel
theorem dL_law_419 : decode cL_law 419 = .ok (.invokestatic 203, 3) := by decide +kernel
theorem dL_law_422 : decode cL_law 422 = .ok (.ifCond .ne 70, 3) := by decide +kernel
theorem dL_law_425 : decode cL_law 425 = .ok (.aload_n 1, 1) := by decide +kernel
theorem dL_law_426 : decode cL_law 426 = .ok (.invokestatic 292, 3) := by decide +kernel
theorem dL_law_429 : decode cL_law 429 = .ok (.iconst 4, 1) := by decide +kernel
theorem dL_law_430 : decode cL_law 430 = .ok (.if_icmp .ne 62, 3) := by decide +kernel
theorem dL_law_433 : decode cL_law 433 = .ok (.aload_n 1, 1) := by decide +kernel
theorem dL_law_434 : decode cL_law 434 = .ok (.iconst 2, 1) := by decide +kernel
theorem dL_law_435 : decode cL_law 435 = .ok (.invokestatic 201, 3) := by decide +kernel
theorem dL_law_438 : decode cL_law 438 = .ok (.iconst 5, 1) := by decide +kernel
theorem dL_law_439 : decode cL_law 439 = .ok (.if_icmp .ne 53, 3) := by decide +kernel
theorem dL_law_442 : decode cL_law 442 = .ok (.aload_n 1, 1) := by decide +kernel
theorem dL_law_443 : decode cL_law 443 = .ok (.invokestatic 292, 3) := by decide +kernel
theorem dL_law_446 : decode cL_law 446 = .ok (.iconst 3, 1) := by decide +kernel
theorem dL_law_447 : decode cL_law 447 = .ok (.if_icmp .ne 45, 3) := by decide +kernel
theorem dL_law_450 : decode cL_law 450 = .ok (.aload_n 1, 1) := by decide +kernel
theorem dL_law_451 : decode cL_law 451 = .ok (.invokestatic 292, 3) := by decide +kernel
theorem dL_law_454 : decode cL_law 454 = .ok (.iconst 2, 1) := by decide +kernel
theorem dL_law_455 : decode cL_law 455 = .ok (.if_icmp .ne 37, 3) := by decide +kernel
theorem dL_law_458 : decode cL_law 458 = .ok (.aload_n 1, 1) := by decide +kernel
theorem dL_law_459 : decode cL_law 459 = .ok (.invokestatic 292, 3) := by decide +kernel
theorem dL_law_462 : decode cL_law 462 = .ok (.iconst 1, 1) := by decide +kernel
theorem dL_law_463 : decode cL_law 463 = .ok (.if_icmp .ne 29, 3) := by decide +kernel
theorem dL_law_466 : decode cL_law 466 = .ok (.aload_n 1, 1) := by decide +kernel
theorem dL_law_467 : decode cL_law 467 = .ok (.invokestatic 292, 3) := by decide +kernel
theorem dL_law_470 : decode cL_law 470 = .ok (.ifCond .ne 22, 3) := by decide +kernel
theorem dL_law_473 : decode cL_law 473 = .ok (.aload_n 1, 1) := by decide +kernel
theorem dL_law_474 : decode cL_law 474 = .ok (.iconst 2, 1) := by decide +kernel
theorem dL_law_475 : decode cL_law 475 = .ok (.invokestatic 201, 3) := by decide +kernel
theorem dL_law_478 : decode cL_law 478 = .ok (.iconst 1, 1) := by decide +kernel
theorem dL_law_479 : decode cL_law 479 = .ok (.if_icmp .ne 13, 3) := by decide +kernel
theorem dL_law_482 : decode cL_law 482 = .ok (.aload_n 1, 1) := by decide +kernel
theorem dL_law_483 : decode cL_law 483 = .ok (.invokestatic 292, 3) := by decide +kernel
theorem dL_law_486 : decode cL_law 486 = .ok (.sipush (-1001), 3) := by decide +kernel
theorem dL_law_489 : decode cL_law 489 = .ok (.if_icmp .eq 5, 3) := by decide +kernel
theorem dL_law_492 : decode cL_law 492 = .ok (.iconst 0, 1) := by decide +kernel
theorem dL_law_493 : decode cL_law 493 = .ok (.ireturn, 1) := by decide +kernel
theorem dL_law_494 : decode cL_law 494 = .ok (.aload_n 1, 1) := by decide +kernel
theorem dL_law_495 : decode cL_law 495 = .ok (.invokestatic 294, 3) := by decide +kernel
theorem dL_law_498 : decode cL_law 498 = .ok (.ifCond .ne 29, 3) := by decide +kernel
theorem dL_law_501 : decode cL_law 501 = .ok (.aload_n 1, 1) := by decide +kernel
theorem dL_law_502 : decode cL_law 502 = .ok (.iconst 0, 1) := by decide +kernel
theorem dL_law_503 : decode cL_law 503 = .ok (.invokestatic 201, 3) := by decide +kernel
theorem dL_law_506 : decode cL_law 506 = .ok (.ifCond .ne 21, 3) := by decide +kernel
theorem dL_law_509 : decode cL_law 509 = .ok (.aload_n 1, 1) := by decide +kernel
theorem dL_law_510 : decode cL_law 510 = .ok (.iconst 2, 1) := by decide +kernel
theorem dL_law_511 : decode cL_law 511 = .ok (.invokestatic 201, 3) := by decide +kernel
theorem dL_law_514 : decode cL_law 514 = .ok (.ifCond .ne 13, 3) := by decide +kernel
theorem dL_law_517 : decode cL_law 517 = .ok (.aload_n 1, 1) := by decide +kernel
theorem dL_law_518 : decode cL_law 518 = .ok (.invokestatic 292, 3) := by decide +kernel
theorem dL_law_521 : decode cL_law 521 = .ok (.sipush (-1001), 3) := by decide +kernel
theorem dL_law_524 : decode cL_law 524 = .ok (.if_icmp .eq 5, 3) := by decide +kernel
theorem dL_law_527 : decode cL_law 527 = .ok (.iconst 0, 1) := by decide +kernel
theorem dL_law_528 : decode cL_law 528 = .ok (.ireturn, 1) := by decide +kernel
theorem dL_law_529 : decode cL_law 529 = .ok (.new 8, 3) := by decide +kernel
theorem dL_law_532 : decode cL_law 532 = .ok (.dup, 1) := by decide +kernel
theorem dL_law_533 : decode cL_law 533 = .ok (.invokespecial 291, 3) := by decide +kernel
theorem dL_law_536 : decode cL_law 536 = .ok (.astore_n 2, 1) := by decide +kernel
theorem dL_law_537 : decode cL_law 537 = .ok (.aload_n 2, 1) := by decide +kernel
theorem dL_law_538 : decode cL_law 538 = .ok (.aload_n 0, 1) := by decide +kernel
theorem dL_law_539 : decode cL_law 539 = .ok (.invokestatic 299, 3) := by decide +kernel
theorem dL_law_542 : decode cL_law 542 = .ok (.ifCond .ne 5, 3) := by decide +kernel
theorem dL_law_545 : decode cL_law 545 = .ok (.iconst 0, 1) := by decide +kernel
theorem dL_law_546 : decode cL_law 546 = .ok (.ireturn, 1) := by decide +kernel
theorem dL_law_547 : decode cL_law 547 = .ok (.aload_n 2, 1) := by decide +kernel
theorem dL_law_548 : decode cL_law 548 = .ok (.invokestatic 266, 3) := by decide +kernel
theorem dL_law_551 : decode cL_law 551 = .ok (.lstore_n 3, 1) := by decide +kernel
theorem dL_law_552 : decode cL_law 552 = .ok (.aload_n 2, 1) := by decide +kernel
theorem dL_law_553 : decode cL_law 553 = .ok (.invokestatic 266, 3) := by decide +kernel
theorem dL_law_556 : decode cL_law 556 = .ok (.lload_n 3, 1) := by decide +kernel
theorem dL_law_557 : decode cL_law 557 = .ok (.lcmp, 1) := by decide +kernel
theorem dL_law_558 : decode cL_law 558 = .ok (.ifCond .ne 10, 3) := by decide +kernel
theorem dL_law_561 : decode cL_law 561 = .ok (.aload_n 2, 1) := by decide +kernel
theorem dL_law_562 : decode cL_law 562 = .ok (.invokestatic 303, 3) := by decide +kernel
theorem dL_law_565 : decode cL_law 565 = .ok (.ifCond .ne 5, 3) := by decide +kernel
theorem dL_law_568 : decode cL_law 568 = .ok (.iconst 0, 1) := by decide +kernel
theorem dL_law_569 : decode cL_law 569 = .ok (.ireturn, 1) := by decide +kernel
theorem dL_law_570 : decode cL_law 570 = .ok (.aload_n 2, 1) := by decide +kernel
theorem dL_law_571 : decode cL_law 571 = .ok (.invokevirtual 296, 3) := by decide +kernel
theorem dL_law_574 : decode cL_law 574 = .ok (.istore 5, 2) := by decide +kernel
theorem dL_law_576 : decode cL_law 576 = .ok (.iload 5, 2) := by decide +kernel
theorem dL_law_578 : decode cL_law 578 = .ok (.aload_n 2, 1) := by decide +kernel
theorem dL_law_579 : decode cL_law 579 = .ok (.iconst 0, 1) := by decide +kernel
theorem dL_law_580 : decode cL_law 580 = .ok (.invokestatic 201, 3) := by decide +kernel
theorem dL_law_583 : decode cL_law 583 = .ok (.if_icmp .ne 12, 3) := by decide +kernel
theorem dL_law_586 : decode cL_law 586 = .ok (.aload_n 2, 1) := by decide +kernel
theorem dL_law_587 : decode cL_law 587 = .ok (.invokestatic 266, 3) := by decide +kernel
theorem dL_law_590 : decode cL_law 590 = .ok (.lload_n 3, 1) := by decide +kernel
theorem dL_law_591 : decode cL_law 591 = .ok (.lcmp, 1) := by decide +kernel
theorem dL_law_592 : decode cL_law 592 = .ok (.ifCond .eq 5, 3) := by decide +kernel
theorem dL_law_595 : decode cL_law 595 = .ok (.iconst 0, 1) := by decide +kernel
theorem dL_law_596 : decode cL_law 596 = .ok (.ireturn, 1) := by decide +kernel
theorem dL_law_597 : decode cL_law 597 = .ok (.bipush 9, 2) := by decide +kernel
theorem dL_law_599 : decode cL_law 599 = .ok (.newarray .long, 2) := by decide +kernel
theorem dL_law_601 : decode cL_law 601 = .ok (.astore 6, 2) := by decide +kernel
theorem dL_law_603 : decode cL_law 603 = .ok (.iconst 0, 1) := by decide +kernel
theorem dL_law_604 : decode cL_law 604 = .ok (.istore 7, 2) := by decide +kernel
theorem dL_law_606 : decode cL_law 606 = .ok (.iconst 0, 1) := by decide +kernel
theorem dL_law_607 : decode cL_law 607 = .ok (.istore 8, 2) := by decide +kernel
theorem dL_law_609 : decode cL_law 609 = .ok (.iload 8, 2) := by decide +kernel
theorem dL_law_611 : decode cL_law 611 = .ok (.bipush 8, 2) := by decide +kernel
theorem dL_law_613 : decode cL_law 613 = .ok (.if_icmp .ge 63, 3) := by decide +kernel
theorem dL_law_616 : decode cL_law 616 = .ok (.aload_n 2, 1) := by decide +kernel
theorem dL_law_617 : decode cL_law 617 = .ok (.invokestatic 266, 3) := by decide +kernel
theorem dL_law_620 : decode cL_law 620 = .ok (.lstore 9, 2) := by decide +kernel
theorem dL_law_622 : decode cL_law 622 = .ok (.aload_n 2, 1) := by decide +kernel
theorem dL_law_623 : decode cL_law 623 = .ok (.aload_n 0, 1) := by decide +kernel
theorem dL_law_624 : decode cL_law 624 = .ok (.bipush 20, 2) := by decide +kernel
theorem dL_law_626 : decode cL_law 626 = .ok (.iload 8, 2) := by decide +kernel
theorem dL_law_628 : decode cL_law 628 = .ok (.iadd, 1) := by decide +kernel
theorem dL_law_629 : decode cL_law 629 = .ok (.invokestatic 161, 3) := by decide +kernel
theorem dL_law_632 : decode cL_law 632 = .ok (.iload 8, 2) := by decide +kernel
theorem dL_law_634 : decode cL_law 634 = .ok (.sipush 977, 3) := by decide +kernel
theorem dL_law_637 : decode cL_law 637 = .ok (.imul, 1) := by decide +kernel
theorem dL_law_638 : decode cL_law 638 = .ok (.ixor, 1) := by decide +kernel
theorem dL_law_639 : decode cL_law 639 = .ok (.invokestatic 307, 3) := by decide +kernel
theorem dL_law_642 : decode cL_law 642 = .ok (.ifCond .eq 16, 3) := by decide +kernel
theorem dL_law_645 : decode cL_law 645 = .ok (.aload 6, 2) := by decide +kernel
theorem dL_law_647 : decode cL_law 647 = .ok (.iload 7, 2) := by decide +kernel
theorem dL_law_649 : decode cL_law 649 = .ok (.iinc 7 1, 3) := by decide +kernel
theorem dL_law_652 : decode cL_law 652 = .ok (.lload 9, 2) := by decide +kernel
theorem dL_law_654 : decode cL_law 654 = .ok (.lastore, 1) := by decide +kernel
theorem dL_law_655 : decode cL_law 655 = .ok (.goto 15, 3) := by decide +kernel
theorem dL_law_658 : decode cL_law 658 = .ok (.aload_n 2, 1) := by decide +kernel
theorem dL_law_659 : decode cL_law 659 = .ok (.invokestatic 266, 3) := by decide +kernel
theorem dL_law_662 : decode cL_law 662 = .ok (.lload 9, 2) := by decide +kernel
theorem dL_law_664 : decode cL_law 664 = .ok (.lcmp, 1) := by decide +kernel
theorem dL_law_665 : decode cL_law 665 = .ok (.ifCond .eq 5, 3) := by decide +kernel
theorem dL_law_668 : decode cL_law 668 = .ok (.iconst 0, 1) := by decide +kernel
theorem dL_law_669 : decode cL_law 669 = .ok (.ireturn, 1) := by decide +kernel
theorem dL_law_670 : decode cL_law 670 = .ok (.iinc 8 1, 3) := by decide +kernel
theorem dL_law_673 : decode cL_law 673 = .ok (.goto (-64), 3) := by decide +kernel
theorem dL_law_676 : decode cL_law 676 = .ok (.iconst 1, 1) := by decide +kernel
theorem dL_law_677 : decode cL_law 677 = .ok (.istore 8, 2) := by decide +kernel
theorem dL_law_679 : decode cL_law 679 = .ok (.iload 8, 2) := by decide +kernel
theorem dL_law_681 : decode cL_law 681 = .ok (.iload 7, 2) := by decide +kernel
theorem dL_law_683 : decode cL_law 683 = .ok (.if_icmp .gt 53, 3) := by decide +kernel
theorem dL_law_686 : decode cL_law 686 = .ok (.aload_n 2, 1) := by decide +kernel
theorem dL_law_687 : decode cL_law 687 = .ok (.invokestatic 292, 3) := by decide +kernel
theorem dL_law_690 : decode cL_law 690 = .ok (.istore 9, 2) := by decide +kernel
theorem dL_law_692 : decode cL_law 692 = .ok (.iload 9, 2) := by decide +kernel
theorem dL_law_694 : decode cL_law 694 = .ok (.iload 7, 2) := by decide +kernel
theorem dL_law_696 : decode cL_law 696 = .ok (.iload 8, 2) := by decide +kernel
theorem dL_law_698 : decode cL_law 698 = .ok (.isub, 1) := by decide +kernel
theorem dL_law_699 : decode cL_law 699 = .ok (.if_icmp .lt 29, 3) := by decide +kernel
theorem dL_law_702 : decode cL_law 702 = .ok (.iload 9, 2) := by decide +kernel
theorem dL_law_704 : decode cL_law 704 = .ok (.bipush 8, 2) := by decide +kernel
theorem dL_law_706 : decode cL_law 706 = .ok (.iload 8, 2) := by decide +kernel
theorem dL_law_708 : decode cL_law 708 = .ok (.isub, 1) := by decide +kernel
theorem dL_law_709 : decode cL_law 709 = .ok (.if_icmp .gt 19, 3) := by decide +kernel
theorem dL_law_712 : decode cL_law 712 = .ok (.aload_n 2, 1) := by decide +kernel
theorem dL_law_713 : decode cL_law 713 = .ok (.invokestatic 266, 3) := by decide +kernel
theorem dL_law_716 : decode cL_law 716 = .ok (.aload 6, 2) := by decide +kernel
theorem dL_law_718 : decode cL_law 718 = .ok (.iload 7, 2) := by decide +kernel
theorem dL_law_720 : decode cL_law 720 = .ok (.iload 8, 2) := by decide +kernel
theorem dL_law_722 : decode cL_law 722 = .ok (.isub, 1) := by decide +kernel
theorem dL_law_723 : decode cL_law 723 = .ok (.laload, 1) := by decide +kernel
theorem dL_law_724 : decode cL_law 724 = .ok (.lcmp, 1) := by decide +kernel
theorem dL_law_725 : decode cL_law 725 = .ok (.ifCond .eq 5, 3) := by decide +kernel
theorem dL_law_728 : decode cL_law 728 = .ok (.iconst 0, 1) := by decide +kernel
theorem dL_law_729 : decode cL_law 729 = .ok (.ireturn, 1) := by decide +kernel
theorem dL_law_730 : decode cL_law 730 = .ok (.iinc 8 1, 3) := by decide +kernel
theorem dL_law_733 : decode cL_law 733 = .ok (.goto (-54), 3) := by decide +kernel
theorem dL_law_736 : decode cL_law 736 = .ok (.aload_n 2, 1) := by decide +kernel
theorem dL_law_737 : decode cL_law 737 = .ok (.invokestatic 294, 3) := by decide +kernel
theorem dL_law_740 : decode cL_law 740 = .ok (.iload 5, 2) := by decide +kernel
theorem dL_law_742 : decode cL_law 742 = .ok (.if_icmp .ne 44, 3) := by decide +kernel
theorem dL_law_745 : decode cL_law 745 = .ok (.aload_n 2, 1) := by decide +kernel
theorem dL_law_746 : decode cL_law 746 = .ok (.invokestatic 292, 3) := by decide +kernel
theorem dL_law_749 : decode cL_law 749 = .ok (.sipush (-1001), 3) := by decide +kernel
theorem dL_law_752 : decode cL_law 752 = .ok (.if_icmp .ne 34, 3) := by decide +kernel
theorem dL_law_755 : decode cL_law 755 = .ok (.aload_n 2, 1) := by decide +kernel
theorem dL_law_756 : decode cL_law 756 = .ok (.invokestatic 266, 3) := by decide +kernel
theorem dL_law_759 : decode cL_law 759 = .ok (.lload_n 3, 1) := by decide +kernel
theorem dL_law_760 : decode cL_law 760 = .ok (.lcmp, 1) := by decide +kernel
theorem dL_law_761 : decode cL_law 761 = .ok (.ifCond .ne 25, 3) := by decide +kernel
theorem dL_law_764 : decode cL_law 764 = .ok (.aload_n 2, 1) := by decide +kernel
theorem dL_law_765 : decode cL_law 765 = .ok (.invokestatic 294, 3) := by decide +kernel
theorem dL_law_768 : decode cL_law 768 = .ok (.iload 5, 2) := by decide +kernel
theorem dL_law_770 : decode cL_law 770 = .ok (.if_icmp .ne 16, 3) := by decide +kernel
theorem dL_law_773 : decode cL_law 773 = .ok (.aload_n 2, 1) := by decide +kernel
theorem dL_law_774 : decode cL_law 774 = .ok (.invokestatic 266, 3) := by decide +kernel
theorem dL_law_777 : decode cL_law 777 = .ok (.lload_n 3, 1) := by decide +kernel
theorem dL_law_778 : decode cL_law 778 = .ok (.lcmp, 1) := by decide +kernel
theorem dL_law_779 : decode cL_law 779 = .ok (.ifCond .ne 7, 3) := by decide +kernel
theorem dL_law_782 : decode cL_law 782 = .ok (.iconst 1, 1) := by decide +kernel
theorem dL_law_783 : decode cL_law 783 = .ok (.goto 4, 3) := by decide +kernel
theorem dL_law_786 : decode cL_law 786 = .ok (.iconst 0, 1) := by decide +kernel
theorem dL_law_787 : decode cL_law 787 = .ok (.ireturn, 1) := by decide +kernel
