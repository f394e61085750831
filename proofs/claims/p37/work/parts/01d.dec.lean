theorem dX6_plan_0 : decode cX6_plan 0 = .ok (.iload_n 1, 1) := by decide +kernel
theorem dX6_plan_1 : decode cX6_plan 1 = .ok (.invokestatic 153, 3) := by decide +kernel
theorem dX6_plan_4 : decode cX6_plan 4 = .ok (.ifCond .ne 5, 3) := by decide +kernel
theorem dX6_plan_7 : decode cX6_plan 7 = .ok (.iconst (-1), 1) := by decide +kernel
theorem dX6_plan_8 : decode cX6_plan 8 = .ok (.ireturn, 1) := by decide +kernel
theorem dX6_plan_9 : decode cX6_plan 9 = .ok (.aload_n 0, 1) := by decide +kernel
theorem dX6_plan_10 : decode cX6_plan 10 = .ok (.getfield 19, 3) := by decide +kernel
theorem dX6_plan_13 : decode cX6_plan 13 = .ok (.getfield 95, 3) := by decide +kernel
theorem dX6_plan_16 : decode cX6_plan 16 = .ok (.bipush 8, 2) := by decide +kernel
theorem dX6_plan_18 : decode cX6_plan 18 = .ok (.if_icmp .lt 6, 3) := by decide +kernel
theorem dX6_plan_21 : decode cX6_plan 21 = .ok (.bipush (-3), 2) := by decide +kernel
theorem dX6_plan_23 : decode cX6_plan 23 = .ok (.ireturn, 1) := by decide +kernel
theorem dX6_plan_24 : decode cX6_plan 24 = .ok (.aload_n 0, 1) := by decide +kernel
theorem dX6_plan_25 : decode cX6_plan 25 = .ok (.getfield 19, 3) := by decide +kernel
theorem dX6_plan_28 : decode cX6_plan 28 = .ok (.iload_n 1, 1) := by decide +kernel
theorem dX6_plan_29 : decode cX6_plan 29 = .ok (.invokevirtual 156, 3) := by decide +kernel
theorem dX6_plan_32 : decode cX6_plan 32 = .ok (.aload_n 0, 1) := by decide +kernel
theorem dX6_plan_33 : decode cX6_plan 33 = .ok (.getfield 19, 3) := by decide +kernel
theorem dX6_plan_36 : decode cX6_plan 36 = .ok (.getfield 95, 3) := by decide +kernel
theorem dX6_plan_39 : decode cX6_plan 39 = .ok (.ireturn, 1) := by decide +kernel
theorem dX6_cut_0 : decode cX6_cut 0 = .ok (.iload_n 1, 1) := by decide +kernel
theorem dX6_cut_1 : decode cX6_cut 1 = .ok (.ifCond .lt 14, 3) := by decide +kernel
theorem dX6_cut_4 : decode cX6_cut 4 = .ok (.iload_n 1, 1) := by decide +kernel
theorem dX6_cut_5 : decode cX6_cut 5 = .ok (.aload_n 0, 1) := by decide +kernel
theorem dX6_cut_6 : decode cX6_cut 6 = .ok (.getfield 19, 3) := by decide +kernel
theorem dX6_cut_9 : decode cX6_cut 9 = .ok (.getfield 95, 3) := by decide +kernel
theorem dX6_cut_12 : decode cX6_cut 12 = .ok (.if_icmp .le 5, 3) := by decide +kernel
theorem dX6_cut_15 : decode cX6_cut 15 = .ok (.iconst (-1), 1) := by decide +kernel
theorem dX6_cut_16 : decode cX6_cut 16 = .ok (.ireturn, 1) := by decide +kernel
theorem dX6_cut_17 : decode cX6_cut 17 = .ok (.aload_n 0, 1) := by decide +kernel
theorem dX6_cut_18 : decode cX6_cut 18 = .ok (.getfield 19, 3) := by decide +kernel
theorem dX6_cut_21 : decode cX6_cut 21 = .ok (.getfield 95, 3) := by decide +kernel
theorem dX6_cut_24 : decode cX6_cut 24 = .ok (.istore_n 2, 1) := by decide +kernel
theorem dX6_cut_25 : decode cX6_cut 25 = .ok (.aload_n 0, 1) := by decide +kernel
theorem dX6_cut_26 : decode cX6_cut 26 = .ok (.getfield 19, 3) := by decide +kernel
theorem dX6_cut_29 : decode cX6_cut 29 = .ok (.iload_n 1, 1) := by decide +kernel
theorem dX6_cut_30 : decode cX6_cut 30 = .ok (.putfield 95, 3) := by decide +kernel
theorem dX6_cut_33 : decode cX6_cut 33 = .ok (.iload_n 2, 1) := by decide +kernel
theorem dX6_cut_34 : decode cX6_cut 34 = .ok (.ireturn, 1) := by decide +kernel
theorem dX6_dance_0 : decode cX6_dance 0 = .ok (.iload_n 1, 1) := by decide +kernel
theorem dX6_dance_1 : decode cX6_dance 1 = .ok (.invokestatic 153, 3) := by decide +kernel
theorem dX6_dance_4 : decode cX6_dance 4 = .ok (.ifCond .ne 5, 3) := by decide +kernel
theorem dX6_dance_7 : decode cX6_dance 7 = .ok (.iconst (-1), 1) := by decide +kernel
theorem dX6_dance_8 : decode cX6_dance 8 = .ok (.ireturn, 1) := by decide +kernel
theorem dX6_dance_9 : decode cX6_dance 9 = .ok (.aload_n 0, 1) := by decide +kernel
theorem dX6_dance_10 : decode cX6_dance 10 = .ok (.getfield 19, 3) := by decide +kernel
theorem dX6_dance_13 : decode cX6_dance 13 = .ok (.getfield 83, 3) := by decide +kernel
theorem dX6_dance_16 : decode cX6_dance 16 = .ok (.getfield 87, 3) := by decide +kernel
theorem dX6_dance_19 : decode cX6_dance 19 = .ok (.ifCond .ne 6, 3) := by decide +kernel
theorem dX6_dance_22 : decode cX6_dance 22 = .ok (.bipush (-2), 2) := by decide +kernel
theorem dX6_dance_24 : decode cX6_dance 24 = .ok (.ireturn, 1) := by decide +kernel
theorem dX6_dance_25 : decode cX6_dance 25 = .ok (.aload_n 0, 1) := by decide +kernel
theorem dX6_dance_26 : decode cX6_dance 26 = .ok (.getfield 19, 3) := by decide +kernel
theorem dX6_dance_29 : decode cX6_dance 29 = .ok (.getfield 83, 3) := by decide +kernel
theorem dX6_dance_32 : decode cX6_dance 32 = .ok (.iload_n 1, 1) := by decide +kernel
theorem dX6_dance_33 : decode cX6_dance 33 = .ok (.invokevirtual 160, 3) := by decide +kernel
theorem dX6_dance_36 : decode cX6_dance 36 = .ok (.aload_n 0, 1) := by decide +kernel
theorem dX6_dance_37 : decode cX6_dance 37 = .ok (.getfield 19, 3) := by decide +kernel
theorem dX6_dance_40 : decode cX6_dance 40 = .ok (.getfield 83, 3) := by decide +kernel
theorem dX6_dance_43 : decode cX6_dance 43 = .ok (.invokevirtual 101, 3) := by decide +kernel
theorem dX6_dance_46 : decode cX6_dance 46 = .ok (.invokestatic 163, 3) := by decide +kernel
theorem dX6_dance_49 : decode cX6_dance 49 = .ok (.ireturn, 1) := by decide +kernel
theorem dX6_runs_0 : decode cX6_runs 0 = .ok (.iload_n 1, 1) := by decide +kernel
theorem dX6_runs_1 : decode cX6_runs 1 = .ok (.ifCond .lt 8, 3) := by decide +kernel
theorem dX6_runs_4 : decode cX6_runs 4 = .ok (.iload_n 1, 1) := by decide +kernel
theorem dX6_runs_5 : decode cX6_runs 5 = .ok (.iconst 4, 1) := by decide +kernel
theorem dX6_runs_6 : decode cX6_runs 6 = .ok (.if_icmp .le 5, 3) := by decide +kernel
theorem dX6_runs_9 : decode cX6_runs 9 = .ok (.iconst (-1), 1) := by decide +kernel
theorem dX6_runs_10 : decode cX6_runs 10 = .ok (.ireturn, 1) := by decide +kernel
theorem dX6_runs_11 : decode cX6_runs 11 = .ok (.aload_n 0, 1) := by decide +kernel
theorem dX6_runs_12 : decode cX6_runs 12 = .ok (.invokevirtual 168, 3) := by decide +kernel
theorem dX6_runs_15 : decode cX6_runs 15 = .ok (.iload_n 1, 1) := by decide +kernel
theorem dX6_runs_16 : decode cX6_runs 16 = .ok (.tableswitch 67 0 3 #[32, 46, 57, 62], 32) := by decide +kernel
theorem dX6_runs_48 : decode cX6_runs 48 = .ok (.aload_n 0, 1) := by decide +kernel
theorem dX6_runs_49 : decode cX6_runs 49 = .ok (.getfield 34, 3) := by decide +kernel
theorem dX6_runs_52 : decode cX6_runs 52 = .ok (.getfield 171, 3) := by decide +kernel
theorem dX6_runs_55 : decode cX6_runs 55 = .ok (.invokevirtual 101, 3) := by decide +kernel
theorem dX6_runs_58 : decode cX6_runs 58 = .ok (.invokestatic 163, 3) := by decide +kernel
theorem dX6_runs_61 : decode cX6_runs 61 = .ok (.ireturn, 1) := by decide +kernel
theorem dX6_runs_62 : decode cX6_runs 62 = .ok (.aload_n 0, 1) := by decide +kernel
theorem dX6_runs_63 : decode cX6_runs 63 = .ok (.getfield 34, 3) := by decide +kernel
theorem dX6_runs_66 : decode cX6_runs 66 = .ok (.getfield 171, 3) := by decide +kernel
theorem dX6_runs_69 : decode cX6_runs 69 = .ok (.invokevirtual 101, 3) := by decide +kernel
theorem dX6_runs_72 : decode cX6_runs 72 = .ok (.ireturn, 1) := by decide +kernel
theorem dX6_runs_73 : decode cX6_runs 73 = .ok (.aload_n 0, 1) := by decide +kernel
theorem dX6_runs_74 : decode cX6_runs 74 = .ok (.invokevirtual 172, 3) := by decide +kernel
theorem dX6_runs_77 : decode cX6_runs 77 = .ok (.ireturn, 1) := by decide +kernel
theorem dX6_runs_78 : decode cX6_runs 78 = .ok (.aload_n 0, 1) := by decide +kernel
theorem dX6_runs_79 : decode cX6_runs 79 = .ok (.invokevirtual 175, 3) := by decide +kernel
theorem dX6_runs_82 : decode cX6_runs 82 = .ok (.ireturn, 1) := by decide +kernel
theorem dX6_runs_83 : decode cX6_runs 83 = .ok (.aload_n 0, 1) := by decide +kernel
theorem dX6_runs_84 : decode cX6_runs 84 = .ok (.getfield 34, 3) := by decide +kernel
theorem dX6_runs_87 : decode cX6_runs 87 = .ok (.getfield 171, 3) := by decide +kernel
theorem dX6_runs_90 : decode cX6_runs 90 = .ok (.getfield 114, 3) := by decide +kernel
theorem dX6_runs_93 : decode cX6_runs 93 = .ok (.aload_n 0, 1) := by decide +kernel
theorem dX6_runs_94 : decode cX6_runs 94 = .ok (.getfield 34, 3) := by decide +kernel
theorem dX6_runs_97 : decode cX6_runs 97 = .ok (.getfield 171, 3) := by decide +kernel
theorem dX6_runs_100 : decode cX6_runs 100 = .ok (.getfield 87, 3) := by decide +kernel
theorem dX6_runs_103 : decode cX6_runs 103 = .ok (.invokestatic 178, 3) := by decide +kernel
theorem dX6_runs_106 : decode cX6_runs 106 = .ok (.ireturn, 1) := by decide +kernel
theorem dX6_ahead_0 : decode cX6_ahead 0 = .ok (.aload_n 0, 1) := by decide +kernel
theorem dX6_ahead_1 : decode cX6_ahead 1 = .ok (.iload_n 1, 1) := by decide +kernel
theorem dX6_ahead_2 : decode cX6_ahead 2 = .ok (.invokevirtual 104, 3) := by decide +kernel
theorem dX6_ahead_5 : decode cX6_ahead 5 = .ok (.ifCond .ne 13, 3) := by decide +kernel
theorem dX6_ahead_8 : decode cX6_ahead 8 = .ok (.iload_n 2, 1) := by decide +kernel
theorem dX6_ahead_9 : decode cX6_ahead 9 = .ok (.ifCond .lt 9, 3) := by decide +kernel
theorem dX6_ahead_12 : decode cX6_ahead 12 = .ok (.iload_n 2, 1) := by decide +kernel
theorem dX6_ahead_13 : decode cX6_ahead 13 = .ok (.bipush 8, 2) := by decide +kernel
theorem dX6_ahead_15 : decode cX6_ahead 15 = .ok (.if_icmp .le 5, 3) := by decide +kernel
theorem dX6_ahead_18 : decode cX6_ahead 18 = .ok (.iconst (-1), 1) := by decide +kernel
theorem dX6_ahead_19 : decode cX6_ahead 19 = .ok (.ireturn, 1) := by decide +kernel
theorem dX6_ahead_20 : decode cX6_ahead 20 = .ok (.aload_n 0, 1) := by decide +kernel
theorem dX6_ahead_21 : decode cX6_ahead 21 = .ok (.invokevirtual 168, 3) := by decide +kernel
theorem dX6_ahead_24 : decode cX6_ahead 24 = .ok (.aload_n 0, 1) := by decide +kernel
theorem dX6_ahead_25 : decode cX6_ahead 25 = .ok (.getfield 34, 3) := by decide +kernel
theorem dX6_ahead_28 : decode cX6_ahead 28 = .ok (.iload_n 1, 1) := by decide +kernel
theorem dX6_ahead_29 : decode cX6_ahead 29 = .ok (.iload_n 2, 1) := by decide +kernel
theorem dX6_ahead_30 : decode cX6_ahead 30 = .ok (.invokevirtual 182, 3) := by decide +kernel
theorem dX6_ahead_33 : decode cX6_ahead 33 = .ok (.ireturn, 1) := by decide +kernel
theorem dX6_meets_0 : decode cX6_meets 0 = .ok (.aload_n 0, 1) := by decide +kernel
theorem dX6_meets_1 : decode cX6_meets 1 = .ok (.iload_n 1, 1) := by decide +kernel
theorem dX6_meets_2 : decode cX6_meets 2 = .ok (.invokevirtual 104, 3) := by decide +kernel
theorem dX6_meets_5 : decode cX6_meets 5 = .ok (.ifCond .ne 11, 3) := by decide +kernel
theorem dX6_meets_8 : decode cX6_meets 8 = .ok (.aload_n 0, 1) := by decide +kernel
theorem dX6_meets_9 : decode cX6_meets 9 = .ok (.iload_n 2, 1) := by decide +kernel
theorem dX6_meets_10 : decode cX6_meets 10 = .ok (.invokevirtual 104, 3) := by decide +kernel
theorem dX6_meets_13 : decode cX6_meets 13 = .ok (.ifCond .eq 5, 3) := by decide +kernel
theorem dX6_meets_16 : decode cX6_meets 16 = .ok (.iconst (-1), 1) := by decide +kernel
theorem dX6_meets_17 : decode cX6_meets 17 = .ok (.ireturn, 1) := by decide +kernel
theorem dX6_meets_18 : decode cX6_meets 18 = .ok (.aload_n 0, 1) := by decide +kernel
theorem dX6_meets_19 : decode cX6_meets 19 = .ok (.invokevirtual 168, 3) := by decide +kernel
theorem dX6_meets_22 : decode cX6_meets 22 = .ok (.iconst 0, 1) := by decide +kernel
theorem dX6_meets_23 : decode cX6_meets 23 = .ok (.istore_n 3, 1) := by decide +kernel
theorem dX6_meets_24 : decode cX6_meets 24 = .ok (.iload_n 3, 1) := by decide +kernel
theorem dX6_meets_25 : decode cX6_meets 25 = .ok (.aload_n 0, 1) := by decide +kernel
theorem dX6_meets_26 : decode cX6_meets 26 = .ok (.getfield 34, 3) := by decide +kernel
theorem dX6_meets_29 : decode cX6_meets 29 = .ok (.getfield 186, 3) := by decide +kernel
theorem dX6_meets_32 : decode cX6_meets 32 = .ok (.if_icmp .gt 24, 3) := by decide +kernel
theorem dX6_meets_35 : decode cX6_meets 35 = .ok (.aload_n 0, 1) := by decide +kernel
theorem dX6_meets_36 : decode cX6_meets 36 = .ok (.getfield 34, 3) := by decide +kernel
theorem dX6_meets_39 : decode cX6_meets 39 = .ok (.iload_n 1, 1) := by decide +kernel
theorem dX6_meets_40 : decode cX6_meets 40 = .ok (.iload_n 3, 1) := by decide +kernel
theorem dX6_meets_41 : decode cX6_meets 41 = .ok (.invokevirtual 182, 3) := by decide +kernel
theorem dX6_meets_44 : decode cX6_meets 44 = .ok (.iload_n 2, 1) := by decide +kernel
theorem dX6_meets_45 : decode cX6_meets 45 = .ok (.if_icmp .ne 5, 3) := by decide +kernel
theorem dX6_meets_48 : decode cX6_meets 48 = .ok (.iload_n 3, 1) := by decide +kernel
theorem dX6_meets_49 : decode cX6_meets 49 = .ok (.ireturn, 1) := by decide +kernel
theorem dX6_meets_50 : decode cX6_meets 50 = .ok (.iinc 3 1, 3) := by decide +kernel
theorem dX6_meets_53 : decode cX6_meets 53 = .ok (.goto (-29), 3) := by decide +kernel
theorem dX6_meets_56 : decode cX6_meets 56 = .ok (.bipush (-4), 2) := by decide +kernel
theorem dX6_meets_58 : decode cX6_meets 58 = .ok (.ireturn, 1) := by decide +kernel
theorem dX6_never_0 : decode cX6_never 0 = .ok (.aload_n 0, 1) := by decide +kernel
theorem dX6_never_1 : decode cX6_never 1 = .ok (.iload_n 1, 1) := by decide +kernel
theorem dX6_never_2 : decode cX6_never 2 = .ok (.invokevirtual 104, 3) := by decide +kernel
theorem dX6_never_5 : decode cX6_never 5 = .ok (.ifCond .eq 5, 3) := by decide +kernel
theorem dX6_never_8 : decode cX6_never 8 = .ok (.iconst (-1), 1) := by decide +kernel
theorem dX6_never_9 : decode cX6_never 9 = .ok (.ireturn, 1) := by decide +kernel
theorem dX6_never_10 : decode cX6_never 10 = .ok (.aload_n 0, 1) := by decide +kernel
theorem dX6_never_11 : decode cX6_never 11 = .ok (.invokevirtual 168, 3) := by decide +kernel
theorem dX6_never_14 : decode cX6_never 14 = .ok (.iconst 1, 1) := by decide +kernel
theorem dX6_never_15 : decode cX6_never 15 = .ok (.aload_n 0, 1) := by decide +kernel
theorem dX6_never_16 : decode cX6_never 16 = .ok (.getfield 19, 3) := by decide +kernel
theorem dX6_never_19 : decode cX6_never 19 = .ok (.getfield 83, 3) := by decide +kernel
theorem dX6_never_22 : decode cX6_never 22 = .ok (.getfield 87, 3) := by decide +kernel
theorem dX6_never_25 : decode cX6_never 25 = .ok (.ishl, 1) := by decide +kernel
theorem dX6_never_26 : decode cX6_never 26 = .ok (.iconst 1, 1) := by decide +kernel
theorem dX6_never_27 : decode cX6_never 27 = .ok (.isub, 1) := by decide +kernel
theorem dX6_never_28 : decode cX6_never 28 = .ok (.istore_n 2, 1) := by decide +kernel
theorem dX6_never_29 : decode cX6_never 29 = .ok (.iconst 0, 1) := by decide +kernel
theorem dX6_never_30 : decode cX6_never 30 = .ok (.istore_n 3, 1) := by decide +kernel
theorem dX6_never_31 : decode cX6_never 31 = .ok (.iload_n 3, 1) := by decide +kernel
theorem dX6_never_32 : decode cX6_never 32 = .ok (.aload_n 0, 1) := by decide +kernel
theorem dX6_never_33 : decode cX6_never 33 = .ok (.getfield 34, 3) := by decide +kernel
theorem dX6_never_36 : decode cX6_never 36 = .ok (.getfield 186, 3) := by decide +kernel
theorem dX6_never_39 : decode cX6_never 39 = .ok (.if_icmp .gt 25, 3) := by decide +kernel
theorem dX6_never_42 : decode cX6_never 42 = .ok (.iload_n 2, 1) := by decide +kernel
theorem dX6_never_43 : decode cX6_never 43 = .ok (.iconst 1, 1) := by decide +kernel
theorem dX6_never_44 : decode cX6_never 44 = .ok (.aload_n 0, 1) := by decide +kernel
theorem dX6_never_45 : decode cX6_never 45 = .ok (.getfield 34, 3) := by decide +kernel
theorem dX6_never_48 : decode cX6_never 48 = .ok (.iload_n 1, 1) := by decide +kernel
theorem dX6_never_49 : decode cX6_never 49 = .ok (.iload_n 3, 1) := by decide +kernel
theorem dX6_never_50 : decode cX6_never 50 = .ok (.invokevirtual 182, 3) := by decide +kernel
theorem dX6_never_53 : decode cX6_never 53 = .ok (.ishl, 1) := by decide +kernel
theorem dX6_never_54 : decode cX6_never 54 = .ok (.iconst (-1), 1) := by decide +kernel
theorem dX6_never_55 : decode cX6_never 55 = .ok (.ixor, 1) := by decide +kernel
theorem dX6_never_56 : decode cX6_never 56 = .ok (.iand, 1) := by decide +kernel
theorem dX6_never_57 : decode cX6_never 57 = .ok (.istore_n 2, 1) := by decide +kernel
theorem dX6_never_58 : decode cX6_never 58 = .ok (.iinc 3 1, 3) := by decide +kernel
theorem dX6_never_61 : decode cX6_never 61 = .ok (.goto (-30), 3) := by decide +kernel
theorem dX6_never_64 : decode cX6_never 64 = .ok (.iload_n 2, 1) := by decide +kernel
theorem dX6_never_65 : decode cX6_never 65 = .ok (.ireturn, 1) := by decide +kernel
theorem dX6_period_0 : decode cX6_period 0 = .ok (.iload_n 1, 1) := by decide +kernel
theorem dX6_period_1 : decode cX6_period 1 = .ok (.invokestatic 153, 3) := by decide +kernel
theorem dX6_period_4 : decode cX6_period 4 = .ok (.ifCond .ne 5, 3) := by decide +kernel
theorem dX6_period_7 : decode cX6_period 7 = .ok (.iconst (-1), 1) := by decide +kernel
theorem dX6_period_8 : decode cX6_period 8 = .ok (.ireturn, 1) := by decide +kernel
theorem dX6_period_9 : decode cX6_period 9 = .ok (.aload_n 0, 1) := by decide +kernel
theorem dX6_period_10 : decode cX6_period 10 = .ok (.getfield 19, 3) := by decide +kernel
theorem dX6_period_13 : decode cX6_period 13 = .ok (.getfield 83, 3) := by decide +kernel
theorem dX6_period_16 : decode cX6_period 16 = .ok (.getfield 87, 3) := by decide +kernel
theorem dX6_period_19 : decode cX6_period 19 = .ok (.ifCond .ne 6, 3) := by decide +kernel
theorem dX6_period_22 : decode cX6_period 22 = .ok (.bipush (-4), 2) := by decide +kernel
theorem dX6_period_24 : decode cX6_period 24 = .ok (.ireturn, 1) := by decide +kernel
theorem dX6_period_25 : decode cX6_period 25 = .ok (.aload_n 0, 1) := by decide +kernel
theorem dX6_period_26 : decode cX6_period 26 = .ok (.getfield 34, 3) := by decide +kernel
theorem dX6_period_29 : decode cX6_period 29 = .ok (.getfield 171, 3) := by decide +kernel
theorem dX6_period_32 : decode cX6_period 32 = .ok (.astore_n 2, 1) := by decide +kernel
theorem dX6_period_33 : decode cX6_period 33 = .ok (.aload_n 2, 1) := by decide +kernel
theorem dX6_period_34 : decode cX6_period 34 = .ok (.aload_n 0, 1) := by decide +kernel
theorem dX6_period_35 : decode cX6_period 35 = .ok (.getfield 19, 3) := by decide +kernel
theorem dX6_period_38 : decode cX6_period 38 = .ok (.getfield 83, 3) := by decide +kernel
theorem dX6_period_41 : decode cX6_period 41 = .ok (.invokevirtual 189, 3) := by decide +kernel
theorem dX6_period_44 : decode cX6_period 44 = .ok (.aload_n 2, 1) := by decide +kernel
theorem dX6_period_45 : decode cX6_period 45 = .ok (.invokevirtual 124, 3) := by decide +kernel
theorem dX6_period_48 : decode cX6_period 48 = .ok (.iconst 1, 1) := by decide +kernel
theorem dX6_period_49 : decode cX6_period 49 = .ok (.istore_n 3, 1) := by decide +kernel
theorem dX6_period_50 : decode cX6_period 50 = .ok (.iload_n 3, 1) := by decide +kernel
theorem dX6_period_51 : decode cX6_period 51 = .ok (.bipush 60, 2) := by decide +kernel
theorem dX6_period_53 : decode cX6_period 53 = .ok (.if_icmp .gt 30, 3) := by decide +kernel
theorem dX6_period_56 : decode cX6_period 56 = .ok (.aload_n 2, 1) := by decide +kernel
theorem dX6_period_57 : decode cX6_period 57 = .ok (.iload_n 1, 1) := by decide +kernel
theorem dX6_period_58 : decode cX6_period 58 = .ok (.invokevirtual 192, 3) := by decide +kernel
theorem dX6_period_61 : decode cX6_period 61 = .ok (.aload_n 2, 1) := by decide +kernel
theorem dX6_period_62 : decode cX6_period 62 = .ok (.aload_n 0, 1) := by decide +kernel
theorem dX6_period_63 : decode cX6_period 63 = .ok (.getfield 19, 3) := by decide +kernel
theorem dX6_period_66 : decode cX6_period 66 = .ok (.getfield 83, 3) := by decide +kernel
theorem dX6_period_69 : decode cX6_period 69 = .ok (.invokevirtual 195, 3) := by decide +kernel
theorem dX6_period_72 : decode cX6_period 72 = .ok (.ifCond .eq 5, 3) := by decide +kernel
theorem dX6_period_75 : decode cX6_period 75 = .ok (.iload_n 3, 1) := by decide +kernel
theorem dX6_period_76 : decode cX6_period 76 = .ok (.ireturn, 1) := by decide +kernel
theorem dX6_period_77 : decode cX6_period 77 = .ok (.iinc 3 1, 3) := by decide +kernel
theorem dX6_period_80 : decode cX6_period 80 = .ok (.goto (-30), 3) := by decide +kernel
theorem dX6_period_83 : decode cX6_period 83 = .ok (.bipush (-4), 2) := by decide +kernel
theorem dX6_period_85 : decode cX6_period 85 = .ok (.ireturn, 1) := by decide +kernel
theorem dX6_best_0 : decode cX6_best 0 = .ok (.iload_n 1, 1) := by decide +kernel
theorem dX6_best_1 : decode cX6_best 1 = .ok (.ifCond .lt 18, 3) := by decide +kernel
theorem dX6_best_4 : decode cX6_best 4 = .ok (.iload_n 1, 1) := by decide +kernel
theorem dX6_best_5 : decode cX6_best 5 = .ok (.iconst 4, 1) := by decide +kernel
theorem dX6_best_6 : decode cX6_best 6 = .ok (.if_icmp .gt 13, 3) := by decide +kernel
theorem dX6_best_9 : decode cX6_best 9 = .ok (.iload_n 2, 1) := by decide +kernel
theorem dX6_best_10 : decode cX6_best 10 = .ok (.ifCond .eq 11, 3) := by decide +kernel
theorem dX6_best_13 : decode cX6_best 13 = .ok (.iload_n 2, 1) := by decide +kernel
theorem dX6_best_14 : decode cX6_best 14 = .ok (.bipush 10, 2) := by decide +kernel
theorem dX6_best_16 : decode cX6_best 16 = .ok (.if_icmp .ge 5, 3) := by decide +kernel
theorem dX6_best_19 : decode cX6_best 19 = .ok (.iconst (-1), 1) := by decide +kernel
theorem dX6_best_20 : decode cX6_best 20 = .ok (.ireturn, 1) := by decide +kernel
theorem dX6_best_21 : decode cX6_best 21 = .ok (.aload_n 0, 1) := by decide +kernel
theorem dX6_best_22 : decode cX6_best 22 = .ok (.getfield 41, 3) := by decide +kernel
theorem dX6_best_25 : decode cX6_best 25 = .ok (.aload_n 0, 1) := by decide +kernel
theorem dX6_best_26 : decode cX6_best 26 = .ok (.getfield 19, 3) := by decide +kernel
theorem dX6_best_29 : decode cX6_best 29 = .ok (.iload_n 1, 1) := by decide +kernel
theorem dX6_best_30 : decode cX6_best 30 = .ok (.iconst 0, 1) := by decide +kernel
theorem dX6_best_31 : decode cX6_best 31 = .ok (.invokevirtual 199, 3) := by decide +kernel
theorem dX6_best_34 : decode cX6_best 34 = .ok (.aload_n 0, 1) := by decide +kernel
theorem dX6_best_35 : decode cX6_best 35 = .ok (.getfield 41, 3) := by decide +kernel
theorem dX6_best_38 : decode cX6_best 38 = .ok (.getfield 203, 3) := by decide +kernel
theorem dX6_best_41 : decode cX6_best 41 = .ok (.ifCond .ne 6, 3) := by decide +kernel
theorem dX6_best_44 : decode cX6_best 44 = .ok (.bipush (-4), 2) := by decide +kernel
theorem dX6_best_46 : decode cX6_best 46 = .ok (.ireturn, 1) := by decide +kernel
theorem dX6_best_47 : decode cX6_best 47 = .ok (.iload_n 2, 1) := by decide +kernel
theorem dX6_best_48 : decode cX6_best 48 = .ok (.ifCond .ne 13, 3) := by decide +kernel
theorem dX6_best_51 : decode cX6_best 51 = .ok (.aload_n 0, 1) := by decide +kernel
theorem dX6_best_52 : decode cX6_best 52 = .ok (.getfield 41, 3) := by decide +kernel
theorem dX6_best_55 : decode cX6_best 55 = .ok (.getfield 206, 3) := by decide +kernel
theorem dX6_best_58 : decode cX6_best 58 = .ok (.goto 15, 3) := by decide +kernel
theorem dX6_best_61 : decode cX6_best 61 = .ok (.aload_n 0, 1) := by decide +kernel
theorem dX6_best_62 : decode cX6_best 62 = .ok (.getfield 41, 3) := by decide +kernel
theorem dX6_best_65 : decode cX6_best 65 = .ok (.getfield 209, 3) := by decide +kernel
theorem dX6_best_68 : decode cX6_best 68 = .ok (.iload_n 1, 1) := by decide +kernel
theorem dX6_best_69 : decode cX6_best 69 = .ok (.iload_n 2, 1) := by decide +kernel
theorem dX6_best_70 : decode cX6_best 70 = .ok (.invokestatic 212, 3) := by decide +kernel
theorem dX6_best_73 : decode cX6_best 73 = .ok (.ireturn, 1) := by decide +kernel
theorem dX6_orders_0 : decode cX6_orders 0 = .ok (.iload_n 1, 1) := by decide +kernel
theorem dX6_orders_1 : decode cX6_orders 1 = .ok (.ifCond .lt 14, 3) := by decide +kernel
theorem dX6_orders_4 : decode cX6_orders 4 = .ok (.iload_n 1, 1) := by decide +kernel
theorem dX6_orders_5 : decode cX6_orders 5 = .ok (.iconst 1, 1) := by decide +kernel
theorem dX6_orders_6 : decode cX6_orders 6 = .ok (.if_icmp .le 11, 3) := by decide +kernel
theorem dX6_orders_9 : decode cX6_orders 9 = .ok (.iload_n 1, 1) := by decide +kernel
theorem dX6_orders_10 : decode cX6_orders 10 = .ok (.bipush 10, 2) := by decide +kernel
theorem dX6_orders_12 : decode cX6_orders 12 = .ok (.if_icmp .ge 5, 3) := by decide +kernel
theorem dX6_orders_15 : decode cX6_orders 15 = .ok (.iconst (-1), 1) := by decide +kernel
theorem dX6_orders_16 : decode cX6_orders 16 = .ok (.ireturn, 1) := by decide +kernel
theorem dX6_orders_17 : decode cX6_orders 17 = .ok (.aload_n 0, 1) := by decide +kernel
theorem dX6_orders_18 : decode cX6_orders 18 = .ok (.getfield 19, 3) := by decide +kernel
theorem dX6_orders_21 : decode cX6_orders 21 = .ok (.getfield 95, 3) := by decide +kernel
theorem dX6_orders_24 : decode cX6_orders 24 = .ok (.iconst 5, 1) := by decide +kernel
theorem dX6_orders_25 : decode cX6_orders 25 = .ok (.if_icmp .le 6, 3) := by decide +kernel
theorem dX6_orders_28 : decode cX6_orders 28 = .ok (.bipush (-2), 2) := by decide +kernel
theorem dX6_orders_30 : decode cX6_orders 30 = .ok (.ireturn, 1) := by decide +kernel
theorem dX6_orders_31 : decode cX6_orders 31 = .ok (.aload_n 0, 1) := by decide +kernel
theorem dX6_orders_32 : decode cX6_orders 32 = .ok (.getfield 41, 3) := by decide +kernel
theorem dX6_orders_35 : decode cX6_orders 35 = .ok (.aload_n 0, 1) := by decide +kernel
theorem dX6_orders_36 : decode cX6_orders 36 = .ok (.getfield 19, 3) := by decide +kernel
theorem dX6_orders_39 : decode cX6_orders 39 = .ok (.aload_n 0, 1) := by decide +kernel
theorem dX6_orders_40 : decode cX6_orders 40 = .ok (.getfield 19, 3) := by decide +kernel
theorem dX6_orders_43 : decode cX6_orders 43 = .ok (.getfield 95, 3) := by decide +kernel
theorem dX6_orders_46 : decode cX6_orders 46 = .ok (.iconst 1, 1) := by decide +kernel
theorem dX6_orders_47 : decode cX6_orders 47 = .ok (.invokevirtual 199, 3) := by decide +kernel
theorem dX6_orders_50 : decode cX6_orders 50 = .ok (.iload_n 1, 1) := by decide +kernel
theorem dX6_orders_51 : decode cX6_orders 51 = .ok (.ifCond .ne 11, 3) := by decide +kernel
theorem dX6_orders_54 : decode cX6_orders 54 = .ok (.aload_n 0, 1) := by decide +kernel
theorem dX6_orders_55 : decode cX6_orders 55 = .ok (.getfield 41, 3) := by decide +kernel
theorem dX6_orders_58 : decode cX6_orders 58 = .ok (.getfield 203, 3) := by decide +kernel
theorem dX6_orders_61 : decode cX6_orders 61 = .ok (.ireturn, 1) := by decide +kernel
theorem dX6_orders_62 : decode cX6_orders 62 = .ok (.aload_n 0, 1) := by decide +kernel
theorem dX6_orders_63 : decode cX6_orders 63 = .ok (.getfield 41, 3) := by decide +kernel
theorem dX6_orders_66 : decode cX6_orders 66 = .ok (.getfield 203, 3) := by decide +kernel
theorem dX6_orders_69 : decode cX6_orders 69 = .ok (.ifCond .ne 6, 3) := by decide +kernel
theorem dX6_orders_72 : decode cX6_orders 72 = .ok (.bipush (-4), 2) := by decide +kernel
theorem dX6_orders_74 : decode cX6_orders 74 = .ok (.ireturn, 1) := by decide +kernel
theorem dX6_orders_75 : decode cX6_orders 75 = .ok (.iload_n 1, 1) := by decide +kernel
theorem dX6_orders_76 : decode cX6_orders 76 = .ok (.iconst 1, 1) := by decide +kernel
theorem dX6_orders_77 : decode cX6_orders 77 = .ok (.if_icmp .ne 13, 3) := by decide +kernel
theorem dX6_orders_80 : decode cX6_orders 80 = .ok (.aload_n 0, 1) := by decide +kernel
theorem dX6_orders_81 : decode cX6_orders 81 = .ok (.getfield 41, 3) := by decide +kernel
theorem dX6_orders_84 : decode cX6_orders 84 = .ok (.getfield 206, 3) := by decide +kernel
theorem dX6_orders_87 : decode cX6_orders 87 = .ok (.goto 21, 3) := by decide +kernel
theorem dX6_orders_90 : decode cX6_orders 90 = .ok (.aload_n 0, 1) := by decide +kernel
theorem dX6_orders_91 : decode cX6_orders 91 = .ok (.getfield 41, 3) := by decide +kernel
theorem dX6_orders_94 : decode cX6_orders 94 = .ok (.getfield 216, 3) := by decide +kernel
theorem dX6_orders_97 : decode cX6_orders 97 = .ok (.aload_n 0, 1) := by decide +kernel
theorem dX6_orders_98 : decode cX6_orders 98 = .ok (.getfield 19, 3) := by decide +kernel
theorem dX6_orders_101 : decode cX6_orders 101 = .ok (.getfield 95, 3) := by decide +kernel
theorem dX6_orders_104 : decode cX6_orders 104 = .ok (.iload_n 1, 1) := by decide +kernel
theorem dX6_orders_105 : decode cX6_orders 105 = .ok (.invokestatic 212, 3) := by decide +kernel
theorem dX6_orders_108 : decode cX6_orders 108 = .ok (.ireturn, 1) := by decide +kernel
theorem dX6_again_0 : decode cX6_again 0 = .ok (.iload_n 1, 1) := by decide +kernel
theorem dX6_again_1 : decode cX6_again 1 = .ok (.ifCond .lt 8, 3) := by decide +kernel
theorem dX6_again_4 : decode cX6_again 4 = .ok (.iload_n 1, 1) := by decide +kernel
theorem dX6_again_5 : decode cX6_again 5 = .ok (.iconst 1, 1) := by decide +kernel
theorem dX6_again_6 : decode cX6_again 6 = .ok (.if_icmp .le 5, 3) := by decide +kernel
theorem dX6_again_9 : decode cX6_again 9 = .ok (.iconst (-1), 1) := by decide +kernel
theorem dX6_again_10 : decode cX6_again 10 = .ok (.ireturn, 1) := by decide +kernel
theorem dX6_again_11 : decode cX6_again 11 = .ok (.aload_n 0, 1) := by decide +kernel
theorem dX6_again_12 : decode cX6_again 12 = .ok (.iconst 0, 1) := by decide +kernel
theorem dX6_again_13 : decode cX6_again 13 = .ok (.invokevirtual 219, 3) := by decide +kernel
theorem dX6_again_16 : decode cX6_again 16 = .ok (.invokestatic 163, 3) := by decide +kernel
theorem dX6_again_19 : decode cX6_again 19 = .ok (.istore_n 2, 1) := by decide +kernel
theorem dX6_again_20 : decode cX6_again 20 = .ok (.bipush (-4), 2) := by decide +kernel
theorem dX6_again_22 : decode cX6_again 22 = .ok (.istore_n 3, 1) := by decide +kernel
theorem dX6_again_23 : decode cX6_again 23 = .ok (.iconst 0, 1) := by decide +kernel
theorem dX6_again_24 : decode cX6_again 24 = .ok (.istore 4, 2) := by decide +kernel
theorem dX6_again_26 : decode cX6_again 26 = .ok (.iload 4, 2) := by decide +kernel
theorem dX6_again_28 : decode cX6_again 28 = .ok (.aload_n 0, 1) := by decide +kernel
theorem dX6_again_29 : decode cX6_again 29 = .ok (.getfield 19, 3) := by decide +kernel
theorem dX6_again_32 : decode cX6_again 32 = .ok (.getfield 95, 3) := by decide +kernel
theorem dX6_again_35 : decode cX6_again 35 = .ok (.if_icmp .ge 34, 3) := by decide +kernel
theorem dX6_again_38 : decode cX6_again 38 = .ok (.aload_n 0, 1) := by decide +kernel
theorem dX6_again_39 : decode cX6_again 39 = .ok (.iconst 1, 1) := by decide +kernel
theorem dX6_again_40 : decode cX6_again 40 = .ok (.iload 4, 2) := by decide +kernel
theorem dX6_again_42 : decode cX6_again 42 = .ok (.ishl, 1) := by decide +kernel
theorem dX6_again_43 : decode cX6_again 43 = .ok (.invokevirtual 219, 3) := by decide +kernel
theorem dX6_again_46 : decode cX6_again 46 = .ok (.invokestatic 163, 3) := by decide +kernel
theorem dX6_again_49 : decode cX6_again 49 = .ok (.istore 5, 2) := by decide +kernel
theorem dX6_again_51 : decode cX6_again 51 = .ok (.iload 5, 2) := by decide +kernel
theorem dX6_again_53 : decode cX6_again 53 = .ok (.iload_n 2, 1) := by decide +kernel
theorem dX6_again_54 : decode cX6_again 54 = .ok (.if_icmp .le 9, 3) := by decide +kernel
theorem dX6_again_57 : decode cX6_again 57 = .ok (.iload 5, 2) := by decide +kernel
theorem dX6_again_59 : decode cX6_again 59 = .ok (.istore_n 2, 1) := by decide +kernel
theorem dX6_again_60 : decode cX6_again 60 = .ok (.iload 4, 2) := by decide +kernel
theorem dX6_again_62 : decode cX6_again 62 = .ok (.istore_n 3, 1) := by decide +kernel
theorem dX6_again_63 : decode cX6_again 63 = .ok (.iinc 4 1, 3) := by decide +kernel
theorem dX6_again_66 : decode cX6_again 66 = .ok (.goto (-40), 3) := by decide +kernel
theorem dX6_again_69 : decode cX6_again 69 = .ok (.iload_n 3, 1) := by decide +kernel
theorem dX6_again_70 : decode cX6_again 70 = .ok (.bipush (-4), 2) := by decide +kernel
theorem dX6_again_72 : decode cX6_again 72 = .ok (.if_icmp .eq 7, 3) := by decide +kernel
theorem dX6_again_75 : decode cX6_again 75 = .ok (.iload_n 1, 1) := by decide +kernel
theorem dX6_again_76 : decode cX6_again 76 = .ok (.ifCond .ne 7, 3) := by decide +kernel
theorem dX6_again_79 : decode cX6_again 79 = .ok (.iload_n 3, 1) := by decide +kernel
theorem dX6_again_80 : decode cX6_again 80 = .ok (.goto 4, 3) := by decide +kernel
theorem dX6_again_83 : decode cX6_again 83 = .ok (.iload_n 2, 1) := by decide +kernel
theorem dX6_again_84 : decode cX6_again 84 = .ok (.ireturn, 1) := by decide +kernel
theorem dX6_coins_0 : decode cX6_coins 0 = .ok (.iload_n 1, 1) := by decide +kernel
theorem dX6_coins_1 : decode cX6_coins 1 = .ok (.ifCond .lt 19, 3) := by decide +kernel
theorem dX6_coins_4 : decode cX6_coins 4 = .ok (.iload_n 1, 1) := by decide +kernel
theorem dX6_coins_5 : decode cX6_coins 5 = .ok (.iconst 1, 1) := by decide +kernel
theorem dX6_coins_6 : decode cX6_coins 6 = .ok (.aload_n 0, 1) := by decide +kernel
theorem dX6_coins_7 : decode cX6_coins 7 = .ok (.getfield 19, 3) := by decide +kernel
theorem dX6_coins_10 : decode cX6_coins 10 = .ok (.getfield 83, 3) := by decide +kernel
theorem dX6_coins_13 : decode cX6_coins 13 = .ok (.getfield 87, 3) := by decide +kernel
theorem dX6_coins_16 : decode cX6_coins 16 = .ok (.ishl, 1) := by decide +kernel
theorem dX6_coins_17 : decode cX6_coins 17 = .ok (.if_icmp .lt 5, 3) := by decide +kernel
theorem dX6_coins_20 : decode cX6_coins 20 = .ok (.iconst (-1), 1) := by decide +kernel
theorem dX6_coins_21 : decode cX6_coins 21 = .ok (.ireturn, 1) := by decide +kernel
theorem dX6_coins_22 : decode cX6_coins 22 = .ok (.aload_n 0, 1) := by decide +kernel
theorem dX6_coins_23 : decode cX6_coins 23 = .ok (.getfield 19, 3) := by decide +kernel
theorem dX6_coins_26 : decode cX6_coins 26 = .ok (.getfield 95, 3) := by decide +kernel
theorem dX6_coins_29 : decode cX6_coins 29 = .ok (.iconst 5, 1) := by decide +kernel
theorem dX6_coins_30 : decode cX6_coins 30 = .ok (.if_icmp .le 6, 3) := by decide +kernel
theorem dX6_coins_33 : decode cX6_coins 33 = .ok (.bipush (-2), 2) := by decide +kernel
theorem dX6_coins_35 : decode cX6_coins 35 = .ok (.ireturn, 1) := by decide +kernel
theorem dX6_coins_36 : decode cX6_coins 36 = .ok (.bipush (-4), 2) := by decide +kernel
theorem dX6_coins_38 : decode cX6_coins 38 = .ok (.istore_n 2, 1) := by decide +kernel
theorem dX6_coins_39 : decode cX6_coins 39 = .ok (.iconst 0, 1) := by decide +kernel
theorem dX6_coins_40 : decode cX6_coins 40 = .ok (.istore_n 3, 1) := by decide +kernel
theorem dX6_coins_41 : decode cX6_coins 41 = .ok (.iload_n 3, 1) := by decide +kernel
theorem dX6_coins_42 : decode cX6_coins 42 = .ok (.iconst 1, 1) := by decide +kernel
theorem dX6_coins_43 : decode cX6_coins 43 = .ok (.aload_n 0, 1) := by decide +kernel
theorem dX6_coins_44 : decode cX6_coins 44 = .ok (.getfield 19, 3) := by decide +kernel
theorem dX6_coins_47 : decode cX6_coins 47 = .ok (.getfield 95, 3) := by decide +kernel
theorem dX6_coins_50 : decode cX6_coins 50 = .ok (.ishl, 1) := by decide +kernel
theorem dX6_coins_51 : decode cX6_coins 51 = .ok (.if_icmp .ge 53, 3) := by decide +kernel
theorem dX6_coins_54 : decode cX6_coins 54 = .ok (.iload_n 3, 1) := by decide +kernel
theorem dX6_coins_55 : decode cX6_coins 55 = .ok (.invokestatic 163, 3) := by decide +kernel
theorem dX6_coins_58 : decode cX6_coins 58 = .ok (.istore 4, 2) := by decide +kernel
theorem dX6_coins_60 : decode cX6_coins 60 = .ok (.iload_n 2, 1) := by decide +kernel
theorem dX6_coins_61 : decode cX6_coins 61 = .ok (.bipush (-4), 2) := by decide +kernel
theorem dX6_coins_63 : decode cX6_coins 63 = .ok (.if_icmp .eq 9, 3) := by decide +kernel
theorem dX6_coins_66 : decode cX6_coins 66 = .ok (.iload 4, 2) := by decide +kernel
theorem dX6_coins_68 : decode cX6_coins 68 = .ok (.iload_n 2, 1) := by decide +kernel
theorem dX6_coins_69 : decode cX6_coins 69 = .ok (.if_icmp .ge 7, 3) := by decide +kernel
theorem dX6_coins_72 : decode cX6_coins 72 = .ok (.iconst 1, 1) := by decide +kernel
theorem dX6_coins_73 : decode cX6_coins 73 = .ok (.goto 4, 3) := by decide +kernel
theorem dX6_coins_76 : decode cX6_coins 76 = .ok (.iconst 0, 1) := by decide +kernel
theorem dX6_coins_77 : decode cX6_coins 77 = .ok (.istore 5, 2) := by decide +kernel
theorem dX6_coins_79 : decode cX6_coins 79 = .ok (.iload 5, 2) := by decide +kernel
theorem dX6_coins_81 : decode cX6_coins 81 = .ok (.ifCond .eq 17, 3) := by decide +kernel
theorem dX6_coins_84 : decode cX6_coins 84 = .ok (.aload_n 0, 1) := by decide +kernel
theorem dX6_coins_85 : decode cX6_coins 85 = .ok (.iload_n 3, 1) := by decide +kernel
theorem dX6_coins_86 : decode cX6_coins 86 = .ok (.invokevirtual 219, 3) := by decide +kernel
theorem dX6_coins_89 : decode cX6_coins 89 = .ok (.iload_n 1, 1) := by decide +kernel
theorem dX6_coins_90 : decode cX6_coins 90 = .ok (.iand, 1) := by decide +kernel
theorem dX6_coins_91 : decode cX6_coins 91 = .ok (.iload_n 1, 1) := by decide +kernel
theorem dX6_coins_92 : decode cX6_coins 92 = .ok (.if_icmp .ne 6, 3) := by decide +kernel
theorem dX6_coins_95 : decode cX6_coins 95 = .ok (.iload 4, 2) := by decide +kernel
theorem dX6_coins_97 : decode cX6_coins 97 = .ok (.istore_n 2, 1) := by decide +kernel
theorem dX6_coins_98 : decode cX6_coins 98 = .ok (.iinc 3 1, 3) := by decide +kernel
theorem dX6_coins_101 : decode cX6_coins 101 = .ok (.goto (-60), 3) := by decide +kernel
theorem dX6_coins_104 : decode cX6_coins 104 = .ok (.iload_n 2, 1) := by decide +kernel
theorem dX6_coins_105 : decode cX6_coins 105 = .ok (.ireturn, 1) := by decide +kernel
theorem dX6_luck_0 : decode cX6_luck 0 = .ok (.iload_n 1, 1) := by decide +kernel
theorem dX6_luck_1 : decode cX6_luck 1 = .ok (.ifCond .lt 26, 3) := by decide +kernel
theorem dX6_luck_4 : decode cX6_luck 4 = .ok (.iload_n 1, 1) := by decide +kernel
theorem dX6_luck_5 : decode cX6_luck 5 = .ok (.bipush 10, 2) := by decide +kernel
theorem dX6_luck_7 : decode cX6_luck 7 = .ok (.if_icmp .gt 20, 3) := by decide +kernel
theorem dX6_luck_10 : decode cX6_luck 10 = .ok (.aload_n 0, 1) := by decide +kernel
theorem dX6_luck_11 : decode cX6_luck 11 = .ok (.iload_n 2, 1) := by decide +kernel
theorem dX6_luck_12 : decode cX6_luck 12 = .ok (.invokevirtual 104, 3) := by decide +kernel
theorem dX6_luck_15 : decode cX6_luck 15 = .ok (.ifCond .ne 12, 3) := by decide +kernel
theorem dX6_luck_18 : decode cX6_luck 18 = .ok (.iload_n 3, 1) := by decide +kernel
theorem dX6_luck_19 : decode cX6_luck 19 = .ok (.ifCond .lt 8, 3) := by decide +kernel
theorem dX6_luck_22 : decode cX6_luck 22 = .ok (.iload_n 3, 1) := by decide +kernel
theorem dX6_luck_23 : decode cX6_luck 23 = .ok (.iconst 1, 1) := by decide +kernel
theorem dX6_luck_24 : decode cX6_luck 24 = .ok (.if_icmp .le 7, 3) := by decide +kernel
theorem dX6_luck_27 : decode cX6_luck 27 = .ok (.ldc2_w 222, 3) := by decide +kernel
theorem dX6_luck_30 : decode cX6_luck 30 = .ok (.lreturn, 1) := by decide +kernel
theorem dX6_luck_31 : decode cX6_luck 31 = .ok (.aload_n 0, 1) := by decide +kernel
theorem dX6_luck_32 : decode cX6_luck 32 = .ok (.iload_n 1, 1) := by decide +kernel
theorem dX6_luck_33 : decode cX6_luck 33 = .ok (.iconst 1, 1) := by decide +kernel
theorem dX6_luck_34 : decode cX6_luck 34 = .ok (.iload_n 2, 1) := by decide +kernel
theorem dX6_luck_35 : decode cX6_luck 35 = .ok (.ishl, 1) := by decide +kernel
theorem dX6_luck_36 : decode cX6_luck 36 = .ok (.invokevirtual 224, 3) := by decide +kernel
theorem dX6_luck_39 : decode cX6_luck 39 = .ok (.bipush 10, 2) := by decide +kernel
theorem dX6_luck_41 : decode cX6_luck 41 = .ok (.aload_n 0, 1) := by decide +kernel
theorem dX6_luck_42 : decode cX6_luck 42 = .ok (.getfield 19, 3) := by decide +kernel
theorem dX6_luck_45 : decode cX6_luck 45 = .ok (.getfield 83, 3) := by decide +kernel
theorem dX6_luck_48 : decode cX6_luck 48 = .ok (.getfield 87, 3) := by decide +kernel
theorem dX6_luck_51 : decode cX6_luck 51 = .ok (.invokestatic 228, 3) := by decide +kernel
theorem dX6_luck_54 : decode cX6_luck 54 = .ok (.iload_n 3, 1) := by decide +kernel
theorem dX6_luck_55 : decode cX6_luck 55 = .ok (.invokestatic 231, 3) := by decide +kernel
theorem dX6_luck_58 : decode cX6_luck 58 = .ok (.lreturn, 1) := by decide +kernel
theorem dX6_mean_0 : decode cX6_mean 0 = .ok (.iload_n 1, 1) := by decide +kernel
theorem dX6_mean_1 : decode cX6_mean 1 = .ok (.ifCond .lt 18, 3) := by decide +kernel
theorem dX6_mean_4 : decode cX6_mean 4 = .ok (.iload_n 1, 1) := by decide +kernel
theorem dX6_mean_5 : decode cX6_mean 5 = .ok (.bipush 10, 2) := by decide +kernel
theorem dX6_mean_7 : decode cX6_mean 7 = .ok (.if_icmp .gt 12, 3) := by decide +kernel
theorem dX6_mean_10 : decode cX6_mean 10 = .ok (.iload_n 2, 1) := by decide +kernel
theorem dX6_mean_11 : decode cX6_mean 11 = .ok (.ifCond .lt 8, 3) := by decide +kernel
theorem dX6_mean_14 : decode cX6_mean 14 = .ok (.iload_n 2, 1) := by decide +kernel
theorem dX6_mean_15 : decode cX6_mean 15 = .ok (.iconst 1, 1) := by decide +kernel
theorem dX6_mean_16 : decode cX6_mean 16 = .ok (.if_icmp .le 7, 3) := by decide +kernel
theorem dX6_mean_19 : decode cX6_mean 19 = .ok (.ldc2_w 222, 3) := by decide +kernel
theorem dX6_mean_22 : decode cX6_mean 22 = .ok (.lreturn, 1) := by decide +kernel
theorem dX6_mean_23 : decode cX6_mean 23 = .ok (.iconst 1, 1) := by decide +kernel
theorem dX6_mean_24 : decode cX6_mean 24 = .ok (.aload_n 0, 1) := by decide +kernel
theorem dX6_mean_25 : decode cX6_mean 25 = .ok (.getfield 19, 3) := by decide +kernel
theorem dX6_mean_28 : decode cX6_mean 28 = .ok (.getfield 83, 3) := by decide +kernel
theorem dX6_mean_31 : decode cX6_mean 31 = .ok (.getfield 87, 3) := by decide +kernel
theorem dX6_mean_34 : decode cX6_mean 34 = .ok (.ishl, 1) := by decide +kernel
theorem dX6_mean_35 : decode cX6_mean 35 = .ok (.iconst 1, 1) := by decide +kernel
theorem dX6_mean_36 : decode cX6_mean 36 = .ok (.isub, 1) := by decide +kernel
theorem dX6_mean_37 : decode cX6_mean 37 = .ok (.istore_n 3, 1) := by decide +kernel
theorem dX6_mean_38 : decode cX6_mean 38 = .ok (.aload_n 0, 1) := by decide +kernel
theorem dX6_mean_39 : decode cX6_mean 39 = .ok (.iload_n 1, 1) := by decide +kernel
theorem dX6_mean_40 : decode cX6_mean 40 = .ok (.iload_n 3, 1) := by decide +kernel
theorem dX6_mean_41 : decode cX6_mean 41 = .ok (.invokevirtual 224, 3) := by decide +kernel
theorem dX6_mean_44 : decode cX6_mean 44 = .ok (.bipush 10, 2) := by decide +kernel
theorem dX6_mean_46 : decode cX6_mean 46 = .ok (.aload_n 0, 1) := by decide +kernel
theorem dX6_mean_47 : decode cX6_mean 47 = .ok (.getfield 19, 3) := by decide +kernel
theorem dX6_mean_50 : decode cX6_mean 50 = .ok (.getfield 83, 3) := by decide +kernel
theorem dX6_mean_53 : decode cX6_mean 53 = .ok (.getfield 87, 3) := by decide +kernel
theorem dX6_mean_56 : decode cX6_mean 56 = .ok (.invokestatic 228, 3) := by decide +kernel
theorem dX6_mean_59 : decode cX6_mean 59 = .ok (.iload_n 2, 1) := by decide +kernel
theorem dX6_mean_60 : decode cX6_mean 60 = .ok (.invokestatic 231, 3) := by decide +kernel
theorem dX6_mean_63 : decode cX6_mean 63 = .ok (.lreturn, 1) := by decide +kernel
theorem dX6_see_0 : decode cX6_see 0 = .ok (.aload_n 0, 1) := by decide +kernel
theorem dX6_see_1 : decode cX6_see 1 = .ok (.iload_n 1, 1) := by decide +kernel
theorem dX6_see_2 : decode cX6_see 2 = .ok (.invokevirtual 104, 3) := by decide +kernel
theorem dX6_see_5 : decode cX6_see 5 = .ok (.ifCond .ne 21, 3) := by decide +kernel
theorem dX6_see_8 : decode cX6_see 8 = .ok (.iload_n 2, 1) := by decide +kernel
theorem dX6_see_9 : decode cX6_see 9 = .ok (.ifCond .lt 17, 3) := by decide +kernel
theorem dX6_see_12 : decode cX6_see 12 = .ok (.iload_n 2, 1) := by decide +kernel
theorem dX6_see_13 : decode cX6_see 13 = .ok (.bipush 8, 2) := by decide +kernel
theorem dX6_see_15 : decode cX6_see 15 = .ok (.if_icmp .gt 11, 3) := by decide +kernel
theorem dX6_see_18 : decode cX6_see 18 = .ok (.aload_n 0, 1) := by decide +kernel
theorem dX6_see_19 : decode cX6_see 19 = .ok (.iload_n 3, 1) := by decide +kernel
theorem dX6_see_20 : decode cX6_see 20 = .ok (.invokevirtual 104, 3) := by decide +kernel
theorem dX6_see_23 : decode cX6_see 23 = .ok (.ifCond .eq 5, 3) := by decide +kernel
theorem dX6_see_26 : decode cX6_see 26 = .ok (.iconst (-1), 1) := by decide +kernel
theorem dX6_see_27 : decode cX6_see 27 = .ok (.ireturn, 1) := by decide +kernel
theorem dX6_see_28 : decode cX6_see 28 = .ok (.aload_n 0, 1) := by decide +kernel
theorem dX6_see_29 : decode cX6_see 29 = .ok (.getfield 19, 3) := by decide +kernel
theorem dX6_see_32 : decode cX6_see 32 = .ok (.getfield 235, 3) := by decide +kernel
theorem dX6_see_35 : decode cX6_see 35 = .ok (.bipush 6, 2) := by decide +kernel
theorem dX6_see_37 : decode cX6_see 37 = .ok (.if_icmp .lt 6, 3) := by decide +kernel
theorem dX6_see_40 : decode cX6_see 40 = .ok (.bipush (-3), 2) := by decide +kernel
theorem dX6_see_42 : decode cX6_see 42 = .ok (.ireturn, 1) := by decide +kernel
theorem dX6_see_43 : decode cX6_see 43 = .ok (.aload_n 0, 1) := by decide +kernel
theorem dX6_see_44 : decode cX6_see 44 = .ok (.getfield 19, 3) := by decide +kernel
theorem dX6_see_47 : decode cX6_see 47 = .ok (.iload_n 1, 1) := by decide +kernel
theorem dX6_see_48 : decode cX6_see 48 = .ok (.iload_n 2, 1) := by decide +kernel
theorem dX6_see_49 : decode cX6_see 49 = .ok (.iload_n 3, 1) := by decide +kernel
theorem dX6_see_50 : decode cX6_see 50 = .ok (.invokevirtual 238, 3) := by decide +kernel
theorem dX6_see_53 : decode cX6_see 53 = .ok (.aload_n 0, 1) := by decide +kernel
theorem dX6_see_54 : decode cX6_see 54 = .ok (.getfield 19, 3) := by decide +kernel
theorem dX6_see_57 : decode cX6_see 57 = .ok (.getfield 235, 3) := by decide +kernel
theorem dX6_see_60 : decode cX6_see 60 = .ok (.ireturn, 1) := by decide +kernel
theorem dX6_forget_0 : decode cX6_forget 0 = .ok (.iload_n 1, 1) := by decide +kernel
theorem dX6_forget_1 : decode cX6_forget 1 = .ok (.ifCond .lt 14, 3) := by decide +kernel
theorem dX6_forget_4 : decode cX6_forget 4 = .ok (.iload_n 1, 1) := by decide +kernel
theorem dX6_forget_5 : decode cX6_forget 5 = .ok (.aload_n 0, 1) := by decide +kernel
theorem dX6_forget_6 : decode cX6_forget 6 = .ok (.getfield 19, 3) := by decide +kernel
theorem dX6_forget_9 : decode cX6_forget 9 = .ok (.getfield 235, 3) := by decide +kernel
theorem dX6_forget_12 : decode cX6_forget 12 = .ok (.if_icmp .le 5, 3) := by decide +kernel
theorem dX6_forget_15 : decode cX6_forget 15 = .ok (.iconst (-1), 1) := by decide +kernel
theorem dX6_forget_16 : decode cX6_forget 16 = .ok (.ireturn, 1) := by decide +kernel
theorem dX6_forget_17 : decode cX6_forget 17 = .ok (.aload_n 0, 1) := by decide +kernel
theorem dX6_forget_18 : decode cX6_forget 18 = .ok (.getfield 19, 3) := by decide +kernel
theorem dX6_forget_21 : decode cX6_forget 21 = .ok (.getfield 235, 3) := by decide +kernel
theorem dX6_forget_24 : decode cX6_forget 24 = .ok (.istore_n 2, 1) := by decide +kernel
theorem dX6_forget_25 : decode cX6_forget 25 = .ok (.aload_n 0, 1) := by decide +kernel
theorem dX6_forget_26 : decode cX6_forget 26 = .ok (.getfield 19, 3) := by decide +kernel
theorem dX6_forget_29 : decode cX6_forget 29 = .ok (.iload_n 1, 1) := by decide +kernel
theorem dX6_forget_30 : decode cX6_forget 30 = .ok (.putfield 235, 3) := by decide +kernel
theorem dX6_forget_33 : decode cX6_forget 33 = .ok (.iload_n 2, 1) := by decide +kernel
theorem dX6_forget_34 : decode cX6_forget 34 = .ok (.ireturn, 1) := by decide +kernel
theorem dX6_bent_0 : decode cX6_bent 0 = .ok (.iconst 0, 1) := by decide +kernel
theorem dX6_bent_1 : decode cX6_bent 1 = .ok (.istore_n 1, 1) := by decide +kernel
theorem dX6_bent_2 : decode cX6_bent 2 = .ok (.iconst 0, 1) := by decide +kernel
theorem dX6_bent_3 : decode cX6_bent 3 = .ok (.istore_n 2, 1) := by decide +kernel
theorem dX6_bent_4 : decode cX6_bent 4 = .ok (.iload_n 2, 1) := by decide +kernel
theorem dX6_bent_5 : decode cX6_bent 5 = .ok (.aload_n 0, 1) := by decide +kernel
theorem dX6_bent_6 : decode cX6_bent 6 = .ok (.getfield 19, 3) := by decide +kernel
theorem dX6_bent_9 : decode cX6_bent 9 = .ok (.getfield 83, 3) := by decide +kernel
theorem dX6_bent_12 : decode cX6_bent 12 = .ok (.getfield 87, 3) := by decide +kernel
theorem dX6_bent_15 : decode cX6_bent 15 = .ok (.if_icmp .ge 52, 3) := by decide +kernel
theorem dX6_bent_18 : decode cX6_bent 18 = .ok (.aload_n 0, 1) := by decide +kernel
theorem dX6_bent_19 : decode cX6_bent 19 = .ok (.getfield 34, 3) := by decide +kernel
theorem dX6_bent_22 : decode cX6_bent 22 = .ok (.getfield 171, 3) := by decide +kernel
theorem dX6_bent_25 : decode cX6_bent 25 = .ok (.aload_n 0, 1) := by decide +kernel
theorem dX6_bent_26 : decode cX6_bent 26 = .ok (.getfield 19, 3) := by decide +kernel
theorem dX6_bent_29 : decode cX6_bent 29 = .ok (.getfield 83, 3) := by decide +kernel
theorem dX6_bent_32 : decode cX6_bent 32 = .ok (.invokevirtual 189, 3) := by decide +kernel
theorem dX6_bent_35 : decode cX6_bent 35 = .ok (.aload_n 0, 1) := by decide +kernel
theorem dX6_bent_36 : decode cX6_bent 36 = .ok (.getfield 34, 3) := by decide +kernel
theorem dX6_bent_39 : decode cX6_bent 39 = .ok (.getfield 171, 3) := by decide +kernel
theorem dX6_bent_42 : decode cX6_bent 42 = .ok (.getfield 108, 3) := by decide +kernel
theorem dX6_bent_45 : decode cX6_bent 45 = .ok (.iload_n 2, 1) := by decide +kernel
theorem dX6_bent_46 : decode cX6_bent 46 = .ok (.iconst 2, 1) := by decide +kernel
theorem dX6_bent_47 : decode cX6_bent 47 = .ok (.iastore, 1) := by decide +kernel
theorem dX6_bent_48 : decode cX6_bent 48 = .ok (.aload_n 0, 1) := by decide +kernel
theorem dX6_bent_49 : decode cX6_bent 49 = .ok (.invokevirtual 242, 3) := by decide +kernel
theorem dX6_bent_52 : decode cX6_bent 52 = .ok (.ifCond .eq 9, 3) := by decide +kernel
theorem dX6_bent_55 : decode cX6_bent 55 = .ok (.iload_n 1, 1) := by decide +kernel
theorem dX6_bent_56 : decode cX6_bent 56 = .ok (.iconst 1, 1) := by decide +kernel
theorem dX6_bent_57 : decode cX6_bent 57 = .ok (.iload_n 2, 1) := by decide +kernel
theorem dX6_bent_58 : decode cX6_bent 58 = .ok (.ishl, 1) := by decide +kernel
theorem dX6_bent_59 : decode cX6_bent 59 = .ok (.ior, 1) := by decide +kernel
theorem dX6_bent_60 : decode cX6_bent 60 = .ok (.istore_n 1, 1) := by decide +kernel
theorem dX6_bent_61 : decode cX6_bent 61 = .ok (.iinc 2 1, 3) := by decide +kernel
theorem dX6_bent_64 : decode cX6_bent 64 = .ok (.goto (-60), 3) := by decide +kernel
theorem dX6_bent_67 : decode cX6_bent 67 = .ok (.iload_n 1, 1) := by decide +kernel
theorem dX6_bent_68 : decode cX6_bent 68 = .ok (.ireturn, 1) := by decide +kernel
theorem dX6_heights_0 : decode cX6_heights 0 = .ok (.aload_n 0, 1) := by decide +kernel
theorem dX6_heights_1 : decode cX6_heights 1 = .ok (.iload_n 1, 1) := by decide +kernel
theorem dX6_heights_2 : decode cX6_heights 2 = .ok (.invokevirtual 104, 3) := by decide +kernel
theorem dX6_heights_5 : decode cX6_heights 5 = .ok (.ifCond .eq 5, 3) := by decide +kernel
theorem dX6_heights_8 : decode cX6_heights 8 = .ok (.iconst (-1), 1) := by decide +kernel
theorem dX6_heights_9 : decode cX6_heights 9 = .ok (.ireturn, 1) := by decide +kernel
theorem dX6_heights_10 : decode cX6_heights 10 = .ok (.iconst 0, 1) := by decide +kernel
theorem dX6_heights_11 : decode cX6_heights 11 = .ok (.istore_n 2, 1) := by decide +kernel
theorem dX6_heights_12 : decode cX6_heights 12 = .ok (.iconst 0, 1) := by decide +kernel
theorem dX6_heights_13 : decode cX6_heights 13 = .ok (.istore_n 3, 1) := by decide +kernel
theorem dX6_heights_14 : decode cX6_heights 14 = .ok (.iload_n 3, 1) := by decide +kernel
theorem dX6_heights_15 : decode cX6_heights 15 = .ok (.bipush 9, 2) := by decide +kernel
theorem dX6_heights_17 : decode cX6_heights 17 = .ok (.if_icmp .gt 52, 3) := by decide +kernel
theorem dX6_heights_20 : decode cX6_heights 20 = .ok (.aload_n 0, 1) := by decide +kernel
theorem dX6_heights_21 : decode cX6_heights 21 = .ok (.getfield 34, 3) := by decide +kernel
theorem dX6_heights_24 : decode cX6_heights 24 = .ok (.getfield 171, 3) := by decide +kernel
theorem dX6_heights_27 : decode cX6_heights 27 = .ok (.aload_n 0, 1) := by decide +kernel
theorem dX6_heights_28 : decode cX6_heights 28 = .ok (.getfield 19, 3) := by decide +kernel
theorem dX6_heights_31 : decode cX6_heights 31 = .ok (.getfield 83, 3) := by decide +kernel
theorem dX6_heights_34 : decode cX6_heights 34 = .ok (.invokevirtual 189, 3) := by decide +kernel
theorem dX6_heights_37 : decode cX6_heights 37 = .ok (.aload_n 0, 1) := by decide +kernel
theorem dX6_heights_38 : decode cX6_heights 38 = .ok (.getfield 34, 3) := by decide +kernel
theorem dX6_heights_41 : decode cX6_heights 41 = .ok (.getfield 171, 3) := by decide +kernel
theorem dX6_heights_44 : decode cX6_heights 44 = .ok (.getfield 111, 3) := by decide +kernel
theorem dX6_heights_47 : decode cX6_heights 47 = .ok (.iload_n 1, 1) := by decide +kernel
theorem dX6_heights_48 : decode cX6_heights 48 = .ok (.iload_n 3, 1) := by decide +kernel
theorem dX6_heights_49 : decode cX6_heights 49 = .ok (.iastore, 1) := by decide +kernel
theorem dX6_heights_50 : decode cX6_heights 50 = .ok (.aload_n 0, 1) := by decide +kernel
theorem dX6_heights_51 : decode cX6_heights 51 = .ok (.invokevirtual 242, 3) := by decide +kernel
theorem dX6_heights_54 : decode cX6_heights 54 = .ok (.ifCond .eq 9, 3) := by decide +kernel
theorem dX6_heights_57 : decode cX6_heights 57 = .ok (.iload_n 2, 1) := by decide +kernel
theorem dX6_heights_58 : decode cX6_heights 58 = .ok (.iconst 1, 1) := by decide +kernel
theorem dX6_heights_59 : decode cX6_heights 59 = .ok (.iload_n 3, 1) := by decide +kernel
theorem dX6_heights_60 : decode cX6_heights 60 = .ok (.ishl, 1) := by decide +kernel
theorem dX6_heights_61 : decode cX6_heights 61 = .ok (.ior, 1) := by decide +kernel
theorem dX6_heights_62 : decode cX6_heights 62 = .ok (.istore_n 2, 1) := by decide +kernel
theorem dX6_heights_63 : decode cX6_heights 63 = .ok (.iinc 3 1, 3) := by decide +kernel
theorem dX6_heights_66 : decode cX6_heights 66 = .ok (.goto (-52), 3) := by decide +kernel
theorem dX6_heights_69 : decode cX6_heights 69 = .ok (.iload_n 2, 1) := by decide +kernel
theorem dX6_heights_70 : decode cX6_heights 70 = .ok (.ireturn, 1) := by decide +kernel
theorem dX6_shoes_0 : decode cX6_shoes 0 = .ok (.iload_n 1, 1) := by decide +kernel
theorem dX6_shoes_1 : decode cX6_shoes 1 = .ok (.ifCond .lt 8, 3) := by decide +kernel
theorem dX6_shoes_4 : decode cX6_shoes 4 = .ok (.iload_n 1, 1) := by decide +kernel
theorem dX6_shoes_5 : decode cX6_shoes 5 = .ok (.iconst 1, 1) := by decide +kernel
theorem dX6_shoes_6 : decode cX6_shoes 6 = .ok (.if_icmp .le 5, 3) := by decide +kernel
theorem dX6_shoes_9 : decode cX6_shoes 9 = .ok (.iconst (-1), 1) := by decide +kernel
theorem dX6_shoes_10 : decode cX6_shoes 10 = .ok (.ireturn, 1) := by decide +kernel
theorem dX6_shoes_11 : decode cX6_shoes 11 = .ok (.bipush (-4), 2) := by decide +kernel
theorem dX6_shoes_13 : decode cX6_shoes 13 = .ok (.istore_n 2, 1) := by decide +kernel
theorem dX6_shoes_14 : decode cX6_shoes 14 = .ok (.iconst 0, 1) := by decide +kernel
theorem dX6_shoes_15 : decode cX6_shoes 15 = .ok (.istore_n 3, 1) := by decide +kernel
theorem dX6_shoes_16 : decode cX6_shoes 16 = .ok (.iconst 0, 1) := by decide +kernel
theorem dX6_shoes_17 : decode cX6_shoes 17 = .ok (.istore 4, 2) := by decide +kernel
theorem dX6_shoes_19 : decode cX6_shoes 19 = .ok (.iload 4, 2) := by decide +kernel
theorem dX6_shoes_21 : decode cX6_shoes 21 = .ok (.aload_n 0, 1) := by decide +kernel
theorem dX6_shoes_22 : decode cX6_shoes 22 = .ok (.getfield 19, 3) := by decide +kernel
theorem dX6_shoes_25 : decode cX6_shoes 25 = .ok (.getfield 83, 3) := by decide +kernel
theorem dX6_shoes_28 : decode cX6_shoes 28 = .ok (.getfield 87, 3) := by decide +kernel
theorem dX6_shoes_31 : decode cX6_shoes 31 = .ok (.if_icmp .ge 132, 3) := by decide +kernel
theorem dX6_shoes_34 : decode cX6_shoes 34 = .ok (.iload 4, 2) := by decide +kernel
theorem dX6_shoes_36 : decode cX6_shoes 36 = .ok (.iconst 1, 1) := by decide +kernel
theorem dX6_shoes_37 : decode cX6_shoes 37 = .ok (.iadd, 1) := by decide +kernel
theorem dX6_shoes_38 : decode cX6_shoes 38 = .ok (.istore 5, 2) := by decide +kernel
theorem dX6_shoes_40 : decode cX6_shoes 40 = .ok (.iload 5, 2) := by decide +kernel
theorem dX6_shoes_42 : decode cX6_shoes 42 = .ok (.aload_n 0, 1) := by decide +kernel
theorem dX6_shoes_43 : decode cX6_shoes 43 = .ok (.getfield 19, 3) := by decide +kernel
theorem dX6_shoes_46 : decode cX6_shoes 46 = .ok (.getfield 83, 3) := by decide +kernel
theorem dX6_shoes_49 : decode cX6_shoes 49 = .ok (.getfield 87, 3) := by decide +kernel
theorem dX6_shoes_52 : decode cX6_shoes 52 = .ok (.if_icmp .ge 105, 3) := by decide +kernel
theorem dX6_shoes_55 : decode cX6_shoes 55 = .ok (.aload_n 0, 1) := by decide +kernel
theorem dX6_shoes_56 : decode cX6_shoes 56 = .ok (.getfield 34, 3) := by decide +kernel
theorem dX6_shoes_59 : decode cX6_shoes 59 = .ok (.getfield 171, 3) := by decide +kernel
theorem dX6_shoes_62 : decode cX6_shoes 62 = .ok (.aload_n 0, 1) := by decide +kernel
theorem dX6_shoes_63 : decode cX6_shoes 63 = .ok (.getfield 19, 3) := by decide +kernel
theorem dX6_shoes_66 : decode cX6_shoes 66 = .ok (.getfield 83, 3) := by decide +kernel
theorem dX6_shoes_69 : decode cX6_shoes 69 = .ok (.invokevirtual 189, 3) := by decide +kernel
theorem dX6_shoes_72 : decode cX6_shoes 72 = .ok (.aload_n 0, 1) := by decide +kernel
theorem dX6_shoes_73 : decode cX6_shoes 73 = .ok (.getfield 34, 3) := by decide +kernel
theorem dX6_shoes_76 : decode cX6_shoes 76 = .ok (.getfield 171, 3) := by decide +kernel
theorem dX6_shoes_79 : decode cX6_shoes 79 = .ok (.getfield 114, 3) := by decide +kernel
theorem dX6_shoes_82 : decode cX6_shoes 82 = .ok (.iload 4, 2) := by decide +kernel
theorem dX6_shoes_84 : decode cX6_shoes 84 = .ok (.aload_n 0, 1) := by decide +kernel
theorem dX6_shoes_85 : decode cX6_shoes 85 = .ok (.getfield 19, 3) := by decide +kernel
theorem dX6_shoes_88 : decode cX6_shoes 88 = .ok (.getfield 83, 3) := by decide +kernel
theorem dX6_shoes_91 : decode cX6_shoes 91 = .ok (.getfield 114, 3) := by decide +kernel
theorem dX6_shoes_94 : decode cX6_shoes 94 = .ok (.iload 5, 2) := by decide +kernel
theorem dX6_shoes_96 : decode cX6_shoes 96 = .ok (.iaload, 1) := by decide +kernel
theorem dX6_shoes_97 : decode cX6_shoes 97 = .ok (.iastore, 1) := by decide +kernel
theorem dX6_shoes_98 : decode cX6_shoes 98 = .ok (.aload_n 0, 1) := by decide +kernel
theorem dX6_shoes_99 : decode cX6_shoes 99 = .ok (.getfield 34, 3) := by decide +kernel
theorem dX6_shoes_102 : decode cX6_shoes 102 = .ok (.getfield 171, 3) := by decide +kernel
theorem dX6_shoes_105 : decode cX6_shoes 105 = .ok (.getfield 114, 3) := by decide +kernel
theorem dX6_shoes_108 : decode cX6_shoes 108 = .ok (.iload 5, 2) := by decide +kernel
theorem dX6_shoes_110 : decode cX6_shoes 110 = .ok (.aload_n 0, 1) := by decide +kernel
theorem dX6_shoes_111 : decode cX6_shoes 111 = .ok (.getfield 19, 3) := by decide +kernel
theorem dX6_shoes_114 : decode cX6_shoes 114 = .ok (.getfield 83, 3) := by decide +kernel
theorem dX6_shoes_117 : decode cX6_shoes 117 = .ok (.getfield 114, 3) := by decide +kernel
theorem dX6_shoes_120 : decode cX6_shoes 120 = .ok (.iload 4, 2) := by decide +kernel
theorem dX6_shoes_122 : decode cX6_shoes 122 = .ok (.iaload, 1) := by decide +kernel
theorem dX6_shoes_123 : decode cX6_shoes 123 = .ok (.iastore, 1) := by decide +kernel
theorem dX6_shoes_124 : decode cX6_shoes 124 = .ok (.aload_n 0, 1) := by decide +kernel
theorem dX6_shoes_125 : decode cX6_shoes 125 = .ok (.invokevirtual 242, 3) := by decide +kernel
theorem dX6_shoes_128 : decode cX6_shoes 128 = .ok (.ifCond .eq 23, 3) := by decide +kernel
theorem dX6_shoes_131 : decode cX6_shoes 131 = .ok (.iload_n 3, 1) := by decide +kernel
theorem dX6_shoes_132 : decode cX6_shoes 132 = .ok (.ifCond .ne 14, 3) := by decide +kernel
theorem dX6_shoes_135 : decode cX6_shoes 135 = .ok (.bipush 10, 2) := by decide +kernel
theorem dX6_shoes_137 : decode cX6_shoes 137 = .ok (.iload 4, 2) := by decide +kernel
theorem dX6_shoes_139 : decode cX6_shoes 139 = .ok (.imul, 1) := by decide +kernel
theorem dX6_shoes_140 : decode cX6_shoes 140 = .ok (.iload 5, 2) := by decide +kernel
theorem dX6_shoes_142 : decode cX6_shoes 142 = .ok (.iadd, 1) := by decide +kernel
theorem dX6_shoes_143 : decode cX6_shoes 143 = .ok (.goto 4, 3) := by decide +kernel
theorem dX6_shoes_146 : decode cX6_shoes 146 = .ok (.iload_n 2, 1) := by decide +kernel
theorem dX6_shoes_147 : decode cX6_shoes 147 = .ok (.istore_n 2, 1) := by decide +kernel
theorem dX6_shoes_148 : decode cX6_shoes 148 = .ok (.iinc 3 1, 3) := by decide +kernel
theorem dX6_shoes_151 : decode cX6_shoes 151 = .ok (.iinc 5 1, 3) := by decide +kernel
theorem dX6_shoes_154 : decode cX6_shoes 154 = .ok (.goto (-114), 3) := by decide +kernel
theorem dX6_shoes_157 : decode cX6_shoes 157 = .ok (.iinc 4 1, 3) := by decide +kernel
theorem dX6_shoes_160 : decode cX6_shoes 160 = .ok (.goto (-141), 3) := by decide +kernel
theorem dX6_shoes_163 : decode cX6_shoes 163 = .ok (.iload_n 1, 1) := by decide +kernel
theorem dX6_shoes_164 : decode cX6_shoes 164 = .ok (.ifCond .ne 7, 3) := by decide +kernel
theorem dX6_shoes_167 : decode cX6_shoes 167 = .ok (.iload_n 2, 1) := by decide +kernel
theorem dX6_shoes_168 : decode cX6_shoes 168 = .ok (.goto 4, 3) := by decide +kernel
theorem dX6_shoes_171 : decode cX6_shoes 171 = .ok (.iload_n 3, 1) := by decide +kernel
theorem dX6_shoes_172 : decode cX6_shoes 172 = .ok (.ireturn, 1) := by decide +kernel
theorem dX6_drift_0 : decode cX6_drift 0 = .ok (.iload_n 2, 1) := by decide +kernel
theorem dX6_drift_1 : decode cX6_drift 1 = .ok (.iconst 1, 1) := by decide +kernel
theorem dX6_drift_2 : decode cX6_drift 2 = .ok (.if_icmp .lt 18, 3) := by decide +kernel
theorem dX6_drift_5 : decode cX6_drift 5 = .ok (.iload_n 2, 1) := by decide +kernel
theorem dX6_drift_6 : decode cX6_drift 6 = .ok (.bipush 60, 2) := by decide +kernel
theorem dX6_drift_8 : decode cX6_drift 8 = .ok (.if_icmp .gt 12, 3) := by decide +kernel
theorem dX6_drift_11 : decode cX6_drift 11 = .ok (.iload_n 3, 1) := by decide +kernel
theorem dX6_drift_12 : decode cX6_drift 12 = .ok (.ifCond .lt 8, 3) := by decide +kernel
theorem dX6_drift_15 : decode cX6_drift 15 = .ok (.iload_n 3, 1) := by decide +kernel
theorem dX6_drift_16 : decode cX6_drift 16 = .ok (.iconst 1, 1) := by decide +kernel
theorem dX6_drift_17 : decode cX6_drift 17 = .ok (.if_icmp .le 5, 3) := by decide +kernel
theorem dX6_drift_20 : decode cX6_drift 20 = .ok (.iconst (-1), 1) := by decide +kernel
theorem dX6_drift_21 : decode cX6_drift 21 = .ok (.ireturn, 1) := by decide +kernel
theorem dX6_drift_22 : decode cX6_drift 22 = .ok (.aload_n 0, 1) := by decide +kernel
theorem dX6_drift_23 : decode cX6_drift 23 = .ok (.getfield 19, 3) := by decide +kernel
theorem dX6_drift_26 : decode cX6_drift 26 = .ok (.getfield 83, 3) := by decide +kernel
theorem dX6_drift_29 : decode cX6_drift 29 = .ok (.getfield 87, 3) := by decide +kernel
theorem dX6_drift_32 : decode cX6_drift 32 = .ok (.ifCond .ne 6, 3) := by decide +kernel
theorem dX6_drift_35 : decode cX6_drift 35 = .ok (.bipush (-2), 2) := by decide +kernel
theorem dX6_drift_37 : decode cX6_drift 37 = .ok (.ireturn, 1) := by decide +kernel
theorem dX6_drift_38 : decode cX6_drift 38 = .ok (.aload_n 0, 1) := by decide +kernel
theorem dX6_drift_39 : decode cX6_drift 39 = .ok (.getfield 34, 3) := by decide +kernel
theorem dX6_drift_42 : decode cX6_drift 42 = .ok (.getfield 171, 3) := by decide +kernel
theorem dX6_drift_45 : decode cX6_drift 45 = .ok (.astore 4, 2) := by decide +kernel
theorem dX6_drift_47 : decode cX6_drift 47 = .ok (.aload 4, 2) := by decide +kernel
theorem dX6_drift_49 : decode cX6_drift 49 = .ok (.aload_n 0, 1) := by decide +kernel
theorem dX6_drift_50 : decode cX6_drift 50 = .ok (.getfield 19, 3) := by decide +kernel
theorem dX6_drift_53 : decode cX6_drift 53 = .ok (.getfield 83, 3) := by decide +kernel
theorem dX6_drift_56 : decode cX6_drift 56 = .ok (.invokevirtual 189, 3) := by decide +kernel
theorem dX6_drift_59 : decode cX6_drift 59 = .ok (.iload_n 1, 1) := by decide +kernel
theorem dX6_drift_60 : decode cX6_drift 60 = .ok (.istore 5, 2) := by decide +kernel
theorem dX6_drift_62 : decode cX6_drift 62 = .ok (.iconst 0, 1) := by decide +kernel
theorem dX6_drift_63 : decode cX6_drift 63 = .ok (.istore 6, 2) := by decide +kernel
theorem dX6_drift_65 : decode cX6_drift 65 = .ok (.iconst 0, 1) := by decide +kernel
theorem dX6_drift_66 : decode cX6_drift 66 = .ok (.istore 7, 2) := by decide +kernel
theorem dX6_drift_68 : decode cX6_drift 68 = .ok (.iload 7, 2) := by decide +kernel
theorem dX6_drift_70 : decode cX6_drift 70 = .ok (.iload_n 2, 1) := by decide +kernel
theorem dX6_drift_71 : decode cX6_drift 71 = .ok (.if_icmp .ge 49, 3) := by decide +kernel
theorem dX6_drift_74 : decode cX6_drift 74 = .ok (.iload 5, 2) := by decide +kernel
theorem dX6_drift_76 : decode cX6_drift 76 = .ok (.ldc 246, 2) := by decide +kernel
theorem dX6_drift_78 : decode cX6_drift 78 = .ok (.imul, 1) := by decide +kernel
theorem dX6_drift_79 : decode cX6_drift 79 = .ok (.sipush 12345, 3) := by decide +kernel
theorem dX6_drift_82 : decode cX6_drift 82 = .ok (.iadd, 1) := by decide +kernel
theorem dX6_drift_83 : decode cX6_drift 83 = .ok (.istore 5, 2) := by decide +kernel
theorem dX6_drift_85 : decode cX6_drift 85 = .ok (.aload 4, 2) := by decide +kernel
theorem dX6_drift_87 : decode cX6_drift 87 = .ok (.iload 5, 2) := by decide +kernel
theorem dX6_drift_89 : decode cX6_drift 89 = .ok (.bipush 16, 2) := by decide +kernel
theorem dX6_drift_91 : decode cX6_drift 91 = .ok (.iushr, 1) := by decide +kernel
theorem dX6_drift_92 : decode cX6_drift 92 = .ok (.sipush 32767, 3) := by decide +kernel
theorem dX6_drift_95 : decode cX6_drift 95 = .ok (.iand, 1) := by decide +kernel
theorem dX6_drift_96 : decode cX6_drift 96 = .ok (.iconst 4, 1) := by decide +kernel
theorem dX6_drift_97 : decode cX6_drift 97 = .ok (.irem, 1) := by decide +kernel
theorem dX6_drift_98 : decode cX6_drift 98 = .ok (.invokevirtual 160, 3) := by decide +kernel
theorem dX6_drift_101 : decode cX6_drift 101 = .ok (.iload 6, 2) := by decide +kernel
theorem dX6_drift_103 : decode cX6_drift 103 = .ok (.aload 4, 2) := by decide +kernel
theorem dX6_drift_105 : decode cX6_drift 105 = .ok (.invokevirtual 101, 3) := by decide +kernel
theorem dX6_drift_108 : decode cX6_drift 108 = .ok (.invokestatic 163, 3) := by decide +kernel
theorem dX6_drift_111 : decode cX6_drift 111 = .ok (.iadd, 1) := by decide +kernel
theorem dX6_drift_112 : decode cX6_drift 112 = .ok (.istore 6, 2) := by decide +kernel
theorem dX6_drift_114 : decode cX6_drift 114 = .ok (.iinc 7 1, 3) := by decide +kernel
theorem dX6_drift_117 : decode cX6_drift 117 = .ok (.goto (-49), 3) := by decide +kernel
theorem dX6_drift_120 : decode cX6_drift 120 = .ok (.iload_n 3, 1) := by decide +kernel
theorem dX6_drift_121 : decode cX6_drift 121 = .ok (.ifCond .ne 8, 3) := by decide +kernel
theorem dX6_drift_124 : decode cX6_drift 124 = .ok (.iload 6, 2) := by decide +kernel
theorem dX6_drift_126 : decode cX6_drift 126 = .ok (.goto 10, 3) := by decide +kernel
theorem dX6_drift_129 : decode cX6_drift 129 = .ok (.aload 4, 2) := by decide +kernel
theorem dX6_drift_131 : decode cX6_drift 131 = .ok (.getfield 133, 3) := by decide +kernel
theorem dX6_drift_134 : decode cX6_drift 134 = .ok (.iconst 0, 1) := by decide +kernel
theorem dX6_drift_135 : decode cX6_drift 135 = .ok (.iaload, 1) := by decide +kernel
theorem dX6_drift_136 : decode cX6_drift 136 = .ok (.ireturn, 1) := by decide +kernel
theorem dX6_keep_0 : decode cX6_keep 0 = .ok (.iload_n 1, 1) := by decide +kernel
theorem dX6_keep_1 : decode cX6_keep 1 = .ok (.ifCond .lt 8, 3) := by decide +kernel
theorem dX6_keep_4 : decode cX6_keep 4 = .ok (.iload_n 1, 1) := by decide +kernel
theorem dX6_keep_5 : decode cX6_keep 5 = .ok (.iconst 2, 1) := by decide +kernel
theorem dX6_keep_6 : decode cX6_keep 6 = .ok (.if_icmp .lt 5, 3) := by decide +kernel
theorem dX6_keep_9 : decode cX6_keep 9 = .ok (.iconst (-1), 1) := by decide +kernel
theorem dX6_keep_10 : decode cX6_keep 10 = .ok (.ireturn, 1) := by decide +kernel
theorem dX6_keep_11 : decode cX6_keep 11 = .ok (.aload_n 0, 1) := by decide +kernel
theorem dX6_keep_12 : decode cX6_keep 12 = .ok (.getfield 27, 3) := by decide +kernel
theorem dX6_keep_15 : decode cX6_keep 15 = .ok (.iload_n 1, 1) := by decide +kernel
theorem dX6_keep_16 : decode cX6_keep 16 = .ok (.baload, 1) := by decide +kernel
theorem dX6_keep_17 : decode cX6_keep 17 = .ok (.ifCond .eq 7, 3) := by decide +kernel
theorem dX6_keep_20 : decode cX6_keep 20 = .ok (.iconst 1, 1) := by decide +kernel
theorem dX6_keep_21 : decode cX6_keep 21 = .ok (.goto 4, 3) := by decide +kernel
theorem dX6_keep_24 : decode cX6_keep 24 = .ok (.iconst 0, 1) := by decide +kernel
theorem dX6_keep_25 : decode cX6_keep 25 = .ok (.istore_n 2, 1) := by decide +kernel
theorem dX6_keep_26 : decode cX6_keep 26 = .ok (.aload_n 0, 1) := by decide +kernel
theorem dX6_keep_27 : decode cX6_keep 27 = .ok (.getfield 23, 3) := by decide +kernel
theorem dX6_keep_30 : decode cX6_keep 30 = .ok (.iload_n 1, 1) := by decide +kernel
theorem dX6_keep_31 : decode cX6_keep 31 = .ok (.aaload, 1) := by decide +kernel
theorem dX6_keep_32 : decode cX6_keep 32 = .ok (.aload_n 0, 1) := by decide +kernel
theorem dX6_keep_33 : decode cX6_keep 33 = .ok (.getfield 19, 3) := by decide +kernel
theorem dX6_keep_36 : decode cX6_keep 36 = .ok (.invokevirtual 79, 3) := by decide +kernel
theorem dX6_keep_39 : decode cX6_keep 39 = .ok (.aload_n 0, 1) := by decide +kernel
theorem dX6_keep_40 : decode cX6_keep 40 = .ok (.getfield 27, 3) := by decide +kernel
theorem dX6_keep_43 : decode cX6_keep 43 = .ok (.iload_n 1, 1) := by decide +kernel
theorem dX6_keep_44 : decode cX6_keep 44 = .ok (.iconst 1, 1) := by decide +kernel
theorem dX6_keep_45 : decode cX6_keep 45 = .ok (.bastore, 1) := by decide +kernel
theorem dX6_keep_46 : decode cX6_keep 46 = .ok (.iload_n 2, 1) := by decide +kernel
theorem dX6_keep_47 : decode cX6_keep 47 = .ok (.ireturn, 1) := by decide +kernel
theorem dX6_back_0 : decode cX6_back 0 = .ok (.iload_n 1, 1) := by decide +kernel
theorem dX6_back_1 : decode cX6_back 1 = .ok (.ifCond .lt 8, 3) := by decide +kernel
theorem dX6_back_4 : decode cX6_back 4 = .ok (.iload_n 1, 1) := by decide +kernel
theorem dX6_back_5 : decode cX6_back 5 = .ok (.iconst 2, 1) := by decide +kernel
theorem dX6_back_6 : decode cX6_back 6 = .ok (.if_icmp .lt 5, 3) := by decide +kernel
theorem dX6_back_9 : decode cX6_back 9 = .ok (.iconst (-1), 1) := by decide +kernel
theorem dX6_back_10 : decode cX6_back 10 = .ok (.ireturn, 1) := by decide +kernel
theorem dX6_back_11 : decode cX6_back 11 = .ok (.aload_n 0, 1) := by decide +kernel
theorem dX6_back_12 : decode cX6_back 12 = .ok (.getfield 27, 3) := by decide +kernel
theorem dX6_back_15 : decode cX6_back 15 = .ok (.iload_n 1, 1) := by decide +kernel
theorem dX6_back_16 : decode cX6_back 16 = .ok (.baload, 1) := by decide +kernel
theorem dX6_back_17 : decode cX6_back 17 = .ok (.ifCond .ne 6, 3) := by decide +kernel
theorem dX6_back_20 : decode cX6_back 20 = .ok (.bipush (-2), 2) := by decide +kernel
theorem dX6_back_22 : decode cX6_back 22 = .ok (.ireturn, 1) := by decide +kernel
theorem dX6_back_23 : decode cX6_back 23 = .ok (.aload_n 0, 1) := by decide +kernel
theorem dX6_back_24 : decode cX6_back 24 = .ok (.getfield 19, 3) := by decide +kernel
theorem dX6_back_27 : decode cX6_back 27 = .ok (.aload_n 0, 1) := by decide +kernel
theorem dX6_back_28 : decode cX6_back 28 = .ok (.getfield 23, 3) := by decide +kernel
theorem dX6_back_31 : decode cX6_back 31 = .ok (.iload_n 1, 1) := by decide +kernel
theorem dX6_back_32 : decode cX6_back 32 = .ok (.aaload, 1) := by decide +kernel
theorem dX6_back_33 : decode cX6_back 33 = .ok (.invokevirtual 79, 3) := by decide +kernel
theorem dX6_back_36 : decode cX6_back 36 = .ok (.aload_n 0, 1) := by decide +kernel
theorem dX6_back_37 : decode cX6_back 37 = .ok (.getfield 19, 3) := by decide +kernel
theorem dX6_back_40 : decode cX6_back 40 = .ok (.getfield 83, 3) := by decide +kernel
theorem dX6_back_43 : decode cX6_back 43 = .ok (.getfield 98, 3) := by decide +kernel
theorem dX6_back_46 : decode cX6_back 46 = .ok (.ireturn, 1) := by decide +kernel
theorem dX6_sheet_0 : decode cX6_sheet 0 = .ok (.iload_n 1, 1) := by decide +kernel
theorem dX6_sheet_1 : decode cX6_sheet 1 = .ok (.invokestatic 247, 3) := by decide +kernel
theorem dX6_sheet_4 : decode cX6_sheet 4 = .ok (.ifCond .ne 16, 3) := by decide +kernel
theorem dX6_sheet_7 : decode cX6_sheet 7 = .ok (.iload_n 2, 1) := by decide +kernel
theorem dX6_sheet_8 : decode cX6_sheet 8 = .ok (.invokestatic 250, 3) := by decide +kernel
theorem dX6_sheet_11 : decode cX6_sheet 11 = .ok (.ifCond .ne 9, 3) := by decide +kernel
theorem dX6_sheet_14 : decode cX6_sheet 14 = .ok (.iload_n 3, 1) := by decide +kernel
theorem dX6_sheet_15 : decode cX6_sheet 15 = .ok (.bipush 40, 2) := by decide +kernel
theorem dX6_sheet_17 : decode cX6_sheet 17 = .ok (.if_icmp .le 5, 3) := by decide +kernel
theorem dX6_sheet_20 : decode cX6_sheet 20 = .ok (.iconst (-1), 1) := by decide +kernel
theorem dX6_sheet_21 : decode cX6_sheet 21 = .ok (.ireturn, 1) := by decide +kernel
theorem dX6_sheet_22 : decode cX6_sheet 22 = .ok (.iload_n 3, 1) := by decide +kernel
theorem dX6_sheet_23 : decode cX6_sheet 23 = .ok (.ifCond .ge 6, 3) := by decide +kernel
theorem dX6_sheet_26 : decode cX6_sheet 26 = .ok (.bipush (-14), 2) := by decide +kernel
theorem dX6_sheet_28 : decode cX6_sheet 28 = .ok (.ireturn, 1) := by decide +kernel
theorem dX6_sheet_29 : decode cX6_sheet 29 = .ok (.aload_n 0, 1) := by decide +kernel
theorem dX6_sheet_30 : decode cX6_sheet 30 = .ok (.getfield 47, 3) := by decide +kernel
theorem dX6_sheet_33 : decode cX6_sheet 33 = .ok (.iload_n 1, 1) := by decide +kernel
theorem dX6_sheet_34 : decode cX6_sheet 34 = .ok (.aaload, 1) := by decide +kernel
theorem dX6_sheet_35 : decode cX6_sheet 35 = .ok (.iload_n 2, 1) := by decide +kernel
theorem dX6_sheet_36 : decode cX6_sheet 36 = .ok (.iload_n 3, 1) := by decide +kernel
theorem dX6_sheet_37 : decode cX6_sheet 37 = .ok (.invokevirtual 253, 3) := by decide +kernel
theorem dX6_sheet_40 : decode cX6_sheet 40 = .ok (.iconst 1, 1) := by decide +kernel
theorem dX6_sheet_41 : decode cX6_sheet 41 = .ok (.ireturn, 1) := by decide +kernel
theorem dX6_lay_0 : decode cX6_lay 0 = .ok (.iload_n 1, 1) := by decide +kernel
theorem dX6_lay_1 : decode cX6_lay 1 = .ok (.invokestatic 247, 3) := by decide +kernel
theorem dX6_lay_4 : decode cX6_lay 4 = .ok (.ifCond .eq 5, 3) := by decide +kernel
theorem dX6_lay_7 : decode cX6_lay 7 = .ok (.iconst (-1), 1) := by decide +kernel
theorem dX6_lay_8 : decode cX6_lay 8 = .ok (.ireturn, 1) := by decide +kernel
theorem dX6_lay_9 : decode cX6_lay 9 = .ok (.aload_n 0, 1) := by decide +kernel
theorem dX6_lay_10 : decode cX6_lay 10 = .ok (.getfield 47, 3) := by decide +kernel
theorem dX6_lay_13 : decode cX6_lay 13 = .ok (.iload_n 1, 1) := by decide +kernel
theorem dX6_lay_14 : decode cX6_lay 14 = .ok (.aaload, 1) := by decide +kernel
theorem dX6_lay_15 : decode cX6_lay 15 = .ok (.aload_n 0, 1) := by decide +kernel
theorem dX6_lay_16 : decode cX6_lay 16 = .ok (.getfield 47, 3) := by decide +kernel
theorem dX6_lay_19 : decode cX6_lay 19 = .ok (.iload_n 1, 1) := by decide +kernel
theorem dX6_lay_20 : decode cX6_lay 20 = .ok (.aaload, 1) := by decide +kernel
theorem dX6_lay_21 : decode cX6_lay 21 = .ok (.getfield 257, 3) := by decide +kernel
theorem dX6_lay_24 : decode cX6_lay 24 = .ok (.iload_n 2, 1) := by decide +kernel
theorem dX6_lay_25 : decode cX6_lay 25 = .ok (.i2l, 1) := by decide +kernel
theorem dX6_lay_26 : decode cX6_lay 26 = .ok (.invokevirtual 260, 3) := by decide +kernel
theorem dX6_lay_29 : decode cX6_lay 29 = .ok (.istore 4, 2) := by decide +kernel
theorem dX6_lay_31 : decode cX6_lay 31 = .ok (.iload 4, 2) := by decide +kernel
theorem dX6_lay_33 : decode cX6_lay 33 = .ok (.ifCond .eq 9, 3) := by decide +kernel
theorem dX6_lay_36 : decode cX6_lay 36 = .ok (.bipush (-10), 2) := by decide +kernel
theorem dX6_lay_38 : decode cX6_lay 38 = .ok (.iload 4, 2) := by decide +kernel
theorem dX6_lay_40 : decode cX6_lay 40 = .ok (.isub, 1) := by decide +kernel
theorem dX6_lay_41 : decode cX6_lay 41 = .ok (.ireturn, 1) := by decide +kernel
theorem dX6_lay_42 : decode cX6_lay 42 = .ok (.aload_n 0, 1) := by decide +kernel
theorem dX6_lay_43 : decode cX6_lay 43 = .ok (.getfield 47, 3) := by decide +kernel
theorem dX6_lay_46 : decode cX6_lay 46 = .ok (.iload_n 1, 1) := by decide +kernel
theorem dX6_lay_47 : decode cX6_lay 47 = .ok (.aaload, 1) := by decide +kernel
theorem dX6_lay_48 : decode cX6_lay 48 = .ok (.iload_n 2, 1) := by decide +kernel
theorem dX6_lay_49 : decode cX6_lay 49 = .ok (.iload_n 3, 1) := by decide +kernel
theorem dX6_lay_50 : decode cX6_lay 50 = .ok (.invokevirtual 264, 3) := by decide +kernel
theorem dX6_lay_53 : decode cX6_lay 53 = .ok (.iconst 1, 1) := by decide +kernel
theorem dX6_lay_54 : decode cX6_lay 54 = .ok (.ireturn, 1) := by decide +kernel
theorem dX6_read_0 : decode cX6_read 0 = .ok (.iload_n 1, 1) := by decide +kernel
theorem dX6_read_1 : decode cX6_read 1 = .ok (.invokestatic 247, 3) := by decide +kernel
theorem dX6_read_4 : decode cX6_read 4 = .ok (.ifCond .ne 22, 3) := by decide +kernel
theorem dX6_read_7 : decode cX6_read 7 = .ok (.iload_n 2, 1) := by decide +kernel
theorem dX6_read_8 : decode cX6_read 8 = .ok (.invokestatic 250, 3) := by decide +kernel
theorem dX6_read_11 : decode cX6_read 11 = .ok (.ifCond .ne 15, 3) := by decide +kernel
theorem dX6_read_14 : decode cX6_read 14 = .ok (.iload 4, 2) := by decide +kernel
theorem dX6_read_16 : decode cX6_read 16 = .ok (.ifCond .lt 10, 3) := by decide +kernel
theorem dX6_read_19 : decode cX6_read 19 = .ok (.iload 4, 2) := by decide +kernel
theorem dX6_read_21 : decode cX6_read 21 = .ok (.bipush 20, 2) := by decide +kernel
theorem dX6_read_23 : decode cX6_read 23 = .ok (.if_icmp .le 5, 3) := by decide +kernel
theorem dX6_read_26 : decode cX6_read 26 = .ok (.iconst (-1), 1) := by decide +kernel
theorem dX6_read_27 : decode cX6_read 27 = .ok (.ireturn, 1) := by decide +kernel
theorem dX6_read_28 : decode cX6_read 28 = .ok (.aload_n 0, 1) := by decide +kernel
theorem dX6_read_29 : decode cX6_read 29 = .ok (.getfield 34, 3) := by decide +kernel
theorem dX6_read_32 : decode cX6_read 32 = .ok (.getfield 171, 3) := by decide +kernel
theorem dX6_read_35 : decode cX6_read 35 = .ok (.astore 5, 2) := by decide +kernel
theorem dX6_read_37 : decode cX6_read 37 = .ok (.aload 5, 2) := by decide +kernel
theorem dX6_read_39 : decode cX6_read 39 = .ok (.aload_n 0, 1) := by decide +kernel
theorem dX6_read_40 : decode cX6_read 40 = .ok (.getfield 19, 3) := by decide +kernel
theorem dX6_read_43 : decode cX6_read 43 = .ok (.getfield 83, 3) := by decide +kernel
theorem dX6_read_46 : decode cX6_read 46 = .ok (.invokevirtual 189, 3) := by decide +kernel
theorem dX6_read_49 : decode cX6_read 49 = .ok (.iconst 0, 1) := by decide +kernel
theorem dX6_read_50 : decode cX6_read 50 = .ok (.istore 6, 2) := by decide +kernel
theorem dX6_read_52 : decode cX6_read 52 = .ok (.iconst 0, 1) := by decide +kernel
theorem dX6_read_53 : decode cX6_read 53 = .ok (.istore 7, 2) := by decide +kernel
theorem dX6_read_55 : decode cX6_read 55 = .ok (.iload 7, 2) := by decide +kernel
theorem dX6_read_57 : decode cX6_read 57 = .ok (.iload 4, 2) := by decide +kernel
theorem dX6_read_59 : decode cX6_read 59 = .ok (.if_icmp .ge 80, 3) := by decide +kernel
theorem dX6_read_62 : decode cX6_read 62 = .ok (.aload_n 0, 1) := by decide +kernel
theorem dX6_read_63 : decode cX6_read 63 = .ok (.getfield 47, 3) := by decide +kernel
theorem dX6_read_66 : decode cX6_read 66 = .ok (.iload_n 1, 1) := by decide +kernel
theorem dX6_read_67 : decode cX6_read 67 = .ok (.aaload, 1) := by decide +kernel
theorem dX6_read_68 : decode cX6_read 68 = .ok (.iload_n 2, 1) := by decide +kernel
theorem dX6_read_69 : decode cX6_read 69 = .ok (.iload_n 3, 1) := by decide +kernel
theorem dX6_read_70 : decode cX6_read 70 = .ok (.i2l, 1) := by decide +kernel
theorem dX6_read_71 : decode cX6_read 71 = .ok (.iload 7, 2) := by decide +kernel
theorem dX6_read_73 : decode cX6_read 73 = .ok (.i2l, 1) := by decide +kernel
theorem dX6_read_74 : decode cX6_read 74 = .ok (.ladd, 1) := by decide +kernel
theorem dX6_read_75 : decode cX6_read 75 = .ok (.invokevirtual 260, 3) := by decide +kernel
theorem dX6_read_78 : decode cX6_read 78 = .ok (.istore 6, 2) := by decide +kernel
theorem dX6_read_80 : decode cX6_read 80 = .ok (.iload 6, 2) := by decide +kernel
theorem dX6_read_82 : decode cX6_read 82 = .ok (.ifCond .eq 6, 3) := by decide +kernel
theorem dX6_read_85 : decode cX6_read 85 = .ok (.goto 54, 3) := by decide +kernel
theorem dX6_read_88 : decode cX6_read 88 = .ok (.aload_n 0, 1) := by decide +kernel
theorem dX6_read_89 : decode cX6_read 89 = .ok (.getfield 47, 3) := by decide +kernel
theorem dX6_read_92 : decode cX6_read 92 = .ok (.iload_n 1, 1) := by decide +kernel
theorem dX6_read_93 : decode cX6_read 93 = .ok (.aaload, 1) := by decide +kernel
theorem dX6_read_94 : decode cX6_read 94 = .ok (.getfield 267, 3) := by decide +kernel
theorem dX6_read_97 : decode cX6_read 97 = .ok (.iload_n 3, 1) := by decide +kernel
theorem dX6_read_98 : decode cX6_read 98 = .ok (.iload 7, 2) := by decide +kernel
theorem dX6_read_100 : decode cX6_read 100 = .ok (.iadd, 1) := by decide +kernel
theorem dX6_read_101 : decode cX6_read 101 = .ok (.iaload, 1) := by decide +kernel
theorem dX6_read_102 : decode cX6_read 102 = .ok (.istore 8, 2) := by decide +kernel
theorem dX6_read_104 : decode cX6_read 104 = .ok (.iload 8, 2) := by decide +kernel
theorem dX6_read_106 : decode cX6_read 106 = .ok (.invokestatic 153, 3) := by decide +kernel
theorem dX6_read_109 : decode cX6_read 109 = .ok (.ifCond .eq 11, 3) := by decide +kernel
theorem dX6_read_112 : decode cX6_read 112 = .ok (.aload 5, 2) := by decide +kernel
theorem dX6_read_114 : decode cX6_read 114 = .ok (.getfield 87, 3) := by decide +kernel
theorem dX6_read_117 : decode cX6_read 117 = .ok (.ifCond .ne 9, 3) := by decide +kernel
theorem dX6_read_120 : decode cX6_read 120 = .ok (.bipush (-20), 2) := by decide +kernel
theorem dX6_read_122 : decode cX6_read 122 = .ok (.iload 7, 2) := by decide +kernel
theorem dX6_read_124 : decode cX6_read 124 = .ok (.isub, 1) := by decide +kernel
theorem dX6_read_125 : decode cX6_read 125 = .ok (.ireturn, 1) := by decide +kernel
theorem dX6_read_126 : decode cX6_read 126 = .ok (.aload 5, 2) := by decide +kernel
theorem dX6_read_128 : decode cX6_read 128 = .ok (.iload 8, 2) := by decide +kernel
theorem dX6_read_130 : decode cX6_read 130 = .ok (.invokevirtual 160, 3) := by decide +kernel
theorem dX6_read_133 : decode cX6_read 133 = .ok (.iinc 7 1, 3) := by decide +kernel
theorem dX6_read_136 : decode cX6_read 136 = .ok (.goto (-81), 3) := by decide +kernel
theorem dX6_read_139 : decode cX6_read 139 = .ok (.aload_n 0, 1) := by decide +kernel
theorem dX6_read_140 : decode cX6_read 140 = .ok (.getfield 19, 3) := by decide +kernel
theorem dX6_read_143 : decode cX6_read 143 = .ok (.getfield 83, 3) := by decide +kernel
theorem dX6_read_146 : decode cX6_read 146 = .ok (.aload 5, 2) := by decide +kernel
theorem dX6_read_148 : decode cX6_read 148 = .ok (.invokevirtual 189, 3) := by decide +kernel
theorem dX6_read_151 : decode cX6_read 151 = .ok (.aload_n 0, 1) := by decide +kernel
theorem dX6_read_152 : decode cX6_read 152 = .ok (.iload 6, 2) := by decide +kernel
theorem dX6_read_154 : decode cX6_read 154 = .ok (.putfield 56, 3) := by decide +kernel
theorem dX6_read_157 : decode cX6_read 157 = .ok (.iload 7, 2) := by decide +kernel
theorem dX6_read_159 : decode cX6_read 159 = .ok (.ireturn, 1) := by decide +kernel
theorem dX6_torn_0 : decode cX6_torn 0 = .ok (.aload_n 0, 1) := by decide +kernel
theorem dX6_torn_1 : decode cX6_torn 1 = .ok (.getfield 56, 3) := by decide +kernel
theorem dX6_torn_4 : decode cX6_torn 4 = .ok (.ireturn, 1) := by decide +kernel
theorem dX6_count_0 : decode cX6_count 0 = .ok (.iload_n 1, 1) := by decide +kernel
theorem dX6_count_1 : decode cX6_count 1 = .ok (.tableswitch 161 0 5 #[39, 47, 77, 85, 113, 137], 39) := by decide +kernel
theorem dX6_count_40 : decode cX6_count 40 = .ok (.aload_n 0, 1) := by decide +kernel
theorem dX6_count_41 : decode cX6_count 41 = .ok (.getfield 19, 3) := by decide +kernel
theorem dX6_count_44 : decode cX6_count 44 = .ok (.getfield 235, 3) := by decide +kernel
theorem dX6_count_47 : decode cX6_count 47 = .ok (.ireturn, 1) := by decide +kernel
theorem dX6_count_48 : decode cX6_count 48 = .ok (.aload_n 0, 1) := by decide +kernel
theorem dX6_count_49 : decode cX6_count 49 = .ok (.getfield 27, 3) := by decide +kernel
theorem dX6_count_52 : decode cX6_count 52 = .ok (.iconst 0, 1) := by decide +kernel
theorem dX6_count_53 : decode cX6_count 53 = .ok (.baload, 1) := by decide +kernel
theorem dX6_count_54 : decode cX6_count 54 = .ok (.ifCond .eq 7, 3) := by decide +kernel
theorem dX6_count_57 : decode cX6_count 57 = .ok (.iconst 1, 1) := by decide +kernel
theorem dX6_count_58 : decode cX6_count 58 = .ok (.goto 4, 3) := by decide +kernel
theorem dX6_count_61 : decode cX6_count 61 = .ok (.iconst 0, 1) := by decide +kernel
theorem dX6_count_62 : decode cX6_count 62 = .ok (.aload_n 0, 1) := by decide +kernel
theorem dX6_count_63 : decode cX6_count 63 = .ok (.getfield 27, 3) := by decide +kernel
theorem dX6_count_66 : decode cX6_count 66 = .ok (.iconst 1, 1) := by decide +kernel
theorem dX6_count_67 : decode cX6_count 67 = .ok (.baload, 1) := by decide +kernel
theorem dX6_count_68 : decode cX6_count 68 = .ok (.ifCond .eq 7, 3) := by decide +kernel
theorem dX6_count_71 : decode cX6_count 71 = .ok (.iconst 1, 1) := by decide +kernel
theorem dX6_count_72 : decode cX6_count 72 = .ok (.goto 4, 3) := by decide +kernel
theorem dX6_count_75 : decode cX6_count 75 = .ok (.iconst 0, 1) := by decide +kernel
theorem dX6_count_76 : decode cX6_count 76 = .ok (.iadd, 1) := by decide +kernel
theorem dX6_count_77 : decode cX6_count 77 = .ok (.ireturn, 1) := by decide +kernel
theorem dX6_count_78 : decode cX6_count 78 = .ok (.aload_n 0, 1) := by decide +kernel
theorem dX6_count_79 : decode cX6_count 79 = .ok (.getfield 10, 3) := by decide +kernel
theorem dX6_count_82 : decode cX6_count 82 = .ok (.getfield 59, 3) := by decide +kernel
theorem dX6_count_85 : decode cX6_count 85 = .ok (.ireturn, 1) := by decide +kernel
theorem dX6_count_86 : decode cX6_count 86 = .ok (.aload_n 0, 1) := by decide +kernel
theorem dX6_count_87 : decode cX6_count 87 = .ok (.getfield 47, 3) := by decide +kernel
theorem dX6_count_90 : decode cX6_count 90 = .ok (.iconst 0, 1) := by decide +kernel
theorem dX6_count_91 : decode cX6_count 91 = .ok (.aaload, 1) := by decide +kernel
theorem dX6_count_92 : decode cX6_count 92 = .ok (.getfield 257, 3) := by decide +kernel
theorem dX6_count_95 : decode cX6_count 95 = .ok (.iconst (-1), 1) := by decide +kernel
theorem dX6_count_96 : decode cX6_count 96 = .ok (.if_icmp .ne 8, 3) := by decide +kernel
theorem dX6_count_99 : decode cX6_count 99 = .ok (.bipush (-4), 2) := by decide +kernel
theorem dX6_count_101 : decode cX6_count 101 = .ok (.goto 12, 3) := by decide +kernel
theorem dX6_count_104 : decode cX6_count 104 = .ok (.aload_n 0, 1) := by decide +kernel
theorem dX6_count_105 : decode cX6_count 105 = .ok (.getfield 47, 3) := by decide +kernel
theorem dX6_count_108 : decode cX6_count 108 = .ok (.iconst 0, 1) := by decide +kernel
theorem dX6_count_109 : decode cX6_count 109 = .ok (.aaload, 1) := by decide +kernel
theorem dX6_count_110 : decode cX6_count 110 = .ok (.getfield 270, 3) := by decide +kernel
theorem dX6_count_113 : decode cX6_count 113 = .ok (.ireturn, 1) := by decide +kernel
theorem dX6_count_114 : decode cX6_count 114 = .ok (.aload_n 0, 1) := by decide +kernel
theorem dX6_count_115 : decode cX6_count 115 = .ok (.getfield 19, 3) := by decide +kernel
theorem dX6_count_118 : decode cX6_count 118 = .ok (.getfield 83, 3) := by decide +kernel
theorem dX6_count_121 : decode cX6_count 121 = .ok (.getfield 114, 3) := by decide +kernel
theorem dX6_count_124 : decode cX6_count 124 = .ok (.aload_n 0, 1) := by decide +kernel
theorem dX6_count_125 : decode cX6_count 125 = .ok (.getfield 19, 3) := by decide +kernel
theorem dX6_count_128 : decode cX6_count 128 = .ok (.getfield 83, 3) := by decide +kernel
theorem dX6_count_131 : decode cX6_count 131 = .ok (.getfield 87, 3) := by decide +kernel
theorem dX6_count_134 : decode cX6_count 134 = .ok (.invokestatic 178, 3) := by decide +kernel
theorem dX6_count_137 : decode cX6_count 137 = .ok (.ireturn, 1) := by decide +kernel
theorem dX6_count_138 : decode cX6_count 138 = .ok (.aload_n 0, 1) := by decide +kernel
theorem dX6_count_139 : decode cX6_count 139 = .ok (.getfield 19, 3) := by decide +kernel
theorem dX6_count_142 : decode cX6_count 142 = .ok (.getfield 83, 3) := by decide +kernel
theorem dX6_count_145 : decode cX6_count 145 = .ok (.getfield 117, 3) := by decide +kernel
theorem dX6_count_148 : decode cX6_count 148 = .ok (.aload_n 0, 1) := by decide +kernel
theorem dX6_count_149 : decode cX6_count 149 = .ok (.getfield 19, 3) := by decide +kernel
theorem dX6_count_152 : decode cX6_count 152 = .ok (.getfield 83, 3) := by decide +kernel
theorem dX6_count_155 : decode cX6_count 155 = .ok (.getfield 87, 3) := by decide +kernel
theorem dX6_count_158 : decode cX6_count 158 = .ok (.invokestatic 178, 3) := by decide +kernel
theorem dX6_count_161 : decode cX6_count 161 = .ok (.ireturn, 1) := by decide +kernel
theorem dX6_count_162 : decode cX6_count 162 = .ok (.iconst (-1), 1) := by decide +kernel
theorem dX6_count_163 : decode cX6_count 163 = .ok (.ireturn, 1) := by decide +kernel
theorem dX6_isNobody_0 : decode cX6_isNobody 0 = .ok (.iload_n 1, 1) := by decide +kernel
theorem dX6_isNobody_1 : decode cX6_isNobody 1 = .ok (.ifCond .lt 17, 3) := by decide +kernel
theorem dX6_isNobody_4 : decode cX6_isNobody 4 = .ok (.iload_n 1, 1) := by decide +kernel
theorem dX6_isNobody_5 : decode cX6_isNobody 5 = .ok (.aload_n 0, 1) := by decide +kernel
theorem dX6_isNobody_6 : decode cX6_isNobody 6 = .ok (.getfield 19, 3) := by decide +kernel
theorem dX6_isNobody_9 : decode cX6_isNobody 9 = .ok (.getfield 83, 3) := by decide +kernel
theorem dX6_isNobody_12 : decode cX6_isNobody 12 = .ok (.getfield 87, 3) := by decide +kernel
theorem dX6_isNobody_15 : decode cX6_isNobody 15 = .ok (.if_icmp .lt 7, 3) := by decide +kernel
theorem dX6_isNobody_18 : decode cX6_isNobody 18 = .ok (.iconst 1, 1) := by decide +kernel
theorem dX6_isNobody_19 : decode cX6_isNobody 19 = .ok (.goto 4, 3) := by decide +kernel
theorem dX6_isNobody_22 : decode cX6_isNobody 22 = .ok (.iconst 0, 1) := by decide +kernel
theorem dX6_isNobody_23 : decode cX6_isNobody 23 = .ok (.ireturn, 1) := by decide +kernel
theorem dX6_isFigure_0 : decode cX6_isFigure 0 = .ok (.iload_n 0, 1) := by decide +kernel
theorem dX6_isFigure_1 : decode cX6_isFigure 1 = .ok (.ifCond .lt 12, 3) := by decide +kernel
theorem dX6_isFigure_4 : decode cX6_isFigure 4 = .ok (.iload_n 0, 1) := by decide +kernel
theorem dX6_isFigure_5 : decode cX6_isFigure 5 = .ok (.iconst 4, 1) := by decide +kernel
theorem dX6_isFigure_6 : decode cX6_isFigure 6 = .ok (.if_icmp .ge 7, 3) := by decide +kernel
theorem dX6_isFigure_9 : decode cX6_isFigure 9 = .ok (.iconst 1, 1) := by decide +kernel
theorem dX6_isFigure_10 : decode cX6_isFigure 10 = .ok (.goto 4, 3) := by decide +kernel
theorem dX6_isFigure_13 : decode cX6_isFigure 13 = .ok (.iconst 0, 1) := by decide +kernel
theorem dX6_isFigure_14 : decode cX6_isFigure 14 = .ok (.ireturn, 1) := by decide +kernel
theorem dX6_isNoSheet_0 : decode cX6_isNoSheet 0 = .ok (.iload_n 0, 1) := by decide +kernel
theorem dX6_isNoSheet_1 : decode cX6_isNoSheet 1 = .ok (.ifCond .lt 8, 3) := by decide +kernel
theorem dX6_isNoSheet_4 : decode cX6_isNoSheet 4 = .ok (.iload_n 0, 1) := by decide +kernel
theorem dX6_isNoSheet_5 : decode cX6_isNoSheet 5 = .ok (.iconst 4, 1) := by decide +kernel
theorem dX6_isNoSheet_6 : decode cX6_isNoSheet 6 = .ok (.if_icmp .lt 7, 3) := by decide +kernel
theorem dX6_isNoSheet_9 : decode cX6_isNoSheet 9 = .ok (.iconst 1, 1) := by decide +kernel
theorem dX6_isNoSheet_10 : decode cX6_isNoSheet 10 = .ok (.goto 4, 3) := by decide +kernel
theorem dX6_isNoSheet_13 : decode cX6_isNoSheet 13 = .ok (.iconst 0, 1) := by decide +kernel
theorem dX6_isNoSheet_14 : decode cX6_isNoSheet 14 = .ok (.ireturn, 1) := by decide +kernel
theorem dX6_isNoLane_0 : decode cX6_isNoLane 0 = .ok (.iload_n 0, 1) := by decide +kernel
theorem dX6_isNoLane_1 : decode cX6_isNoLane 1 = .ok (.ifCond .lt 8, 3) := by decide +kernel
theorem dX6_isNoLane_4 : decode cX6_isNoLane 4 = .ok (.iload_n 0, 1) := by decide +kernel
theorem dX6_isNoLane_5 : decode cX6_isNoLane 5 = .ok (.iconst 3, 1) := by decide +kernel
theorem dX6_isNoLane_6 : decode cX6_isNoLane 6 = .ok (.if_icmp .lt 7, 3) := by decide +kernel
theorem dX6_isNoLane_9 : decode cX6_isNoLane 9 = .ok (.iconst 1, 1) := by decide +kernel
theorem dX6_isNoLane_10 : decode cX6_isNoLane 10 = .ok (.goto 4, 3) := by decide +kernel
theorem dX6_isNoLane_13 : decode cX6_isNoLane 13 = .ok (.iconst 0, 1) := by decide +kernel
theorem dX6_isNoLane_14 : decode cX6_isNoLane 14 = .ok (.ireturn, 1) := by decide +kernel
theorem dX6_walkNow_0 : decode cX6_walkNow 0 = .ok (.aload_n 0, 1) := by decide +kernel
theorem dX6_walkNow_1 : decode cX6_walkNow 1 = .ok (.getfield 34, 3) := by decide +kernel
theorem dX6_walkNow_4 : decode cX6_walkNow 4 = .ok (.getfield 171, 3) := by decide +kernel
theorem dX6_walkNow_7 : decode cX6_walkNow 7 = .ok (.aload_n 0, 1) := by decide +kernel
theorem dX6_walkNow_8 : decode cX6_walkNow 8 = .ok (.getfield 19, 3) := by decide +kernel
theorem dX6_walkNow_11 : decode cX6_walkNow 11 = .ok (.getfield 83, 3) := by decide +kernel
theorem dX6_walkNow_14 : decode cX6_walkNow 14 = .ok (.invokevirtual 189, 3) := by decide +kernel
theorem dX6_walkNow_17 : decode cX6_walkNow 17 = .ok (.aload_n 0, 1) := by decide +kernel
theorem dX6_walkNow_18 : decode cX6_walkNow 18 = .ok (.getfield 34, 3) := by decide +kernel
theorem dX6_walkNow_21 : decode cX6_walkNow 21 = .ok (.aload_n 0, 1) := by decide +kernel
theorem dX6_walkNow_22 : decode cX6_walkNow 22 = .ok (.getfield 19, 3) := by decide +kernel
theorem dX6_walkNow_25 : decode cX6_walkNow 25 = .ok (.invokevirtual 271, 3) := by decide +kernel
theorem dX6_walkNow_28 : decode cX6_walkNow 28 = .ok (.return_, 1) := by decide +kernel
theorem dX6_walkIsAsSeen_0 : decode cX6_walkIsAsSeen 0 = .ok (.aload_n 0, 1) := by decide +kernel
theorem dX6_walkIsAsSeen_1 : decode cX6_walkIsAsSeen 1 = .ok (.getfield 34, 3) := by decide +kernel
theorem dX6_walkIsAsSeen_4 : decode cX6_walkIsAsSeen 4 = .ok (.aload_n 0, 1) := by decide +kernel
theorem dX6_walkIsAsSeen_5 : decode cX6_walkIsAsSeen 5 = .ok (.getfield 19, 3) := by decide +kernel
theorem dX6_walkIsAsSeen_8 : decode cX6_walkIsAsSeen 8 = .ok (.invokevirtual 271, 3) := by decide +kernel
theorem dX6_walkIsAsSeen_11 : decode cX6_walkIsAsSeen 11 = .ok (.iconst 0, 1) := by decide +kernel
theorem dX6_walkIsAsSeen_12 : decode cX6_walkIsAsSeen 12 = .ok (.istore_n 1, 1) := by decide +kernel
theorem dX6_walkIsAsSeen_13 : decode cX6_walkIsAsSeen 13 = .ok (.iload_n 1, 1) := by decide +kernel
theorem dX6_walkIsAsSeen_14 : decode cX6_walkIsAsSeen 14 = .ok (.aload_n 0, 1) := by decide +kernel
theorem dX6_walkIsAsSeen_15 : decode cX6_walkIsAsSeen 15 = .ok (.getfield 19, 3) := by decide +kernel
theorem dX6_walkIsAsSeen_18 : decode cX6_walkIsAsSeen 18 = .ok (.getfield 235, 3) := by decide +kernel
theorem dX6_walkIsAsSeen_21 : decode cX6_walkIsAsSeen 21 = .ok (.if_icmp .ge 48, 3) := by decide +kernel
theorem dX6_walkIsAsSeen_24 : decode cX6_walkIsAsSeen 24 = .ok (.aload_n 0, 1) := by decide +kernel
theorem dX6_walkIsAsSeen_25 : decode cX6_walkIsAsSeen 25 = .ok (.getfield 34, 3) := by decide +kernel
theorem dX6_walkIsAsSeen_28 : decode cX6_walkIsAsSeen 28 = .ok (.aload_n 0, 1) := by decide +kernel
theorem dX6_walkIsAsSeen_29 : decode cX6_walkIsAsSeen 29 = .ok (.getfield 19, 3) := by decide +kernel
theorem dX6_walkIsAsSeen_32 : decode cX6_walkIsAsSeen 32 = .ok (.getfield 274, 3) := by decide +kernel
theorem dX6_walkIsAsSeen_35 : decode cX6_walkIsAsSeen 35 = .ok (.iload_n 1, 1) := by decide +kernel
theorem dX6_walkIsAsSeen_36 : decode cX6_walkIsAsSeen 36 = .ok (.iaload, 1) := by decide +kernel
theorem dX6_walkIsAsSeen_37 : decode cX6_walkIsAsSeen 37 = .ok (.aload_n 0, 1) := by decide +kernel
theorem dX6_walkIsAsSeen_38 : decode cX6_walkIsAsSeen 38 = .ok (.getfield 19, 3) := by decide +kernel
theorem dX6_walkIsAsSeen_41 : decode cX6_walkIsAsSeen 41 = .ok (.getfield 277, 3) := by decide +kernel
theorem dX6_walkIsAsSeen_44 : decode cX6_walkIsAsSeen 44 = .ok (.iload_n 1, 1) := by decide +kernel
theorem dX6_walkIsAsSeen_45 : decode cX6_walkIsAsSeen 45 = .ok (.iaload, 1) := by decide +kernel
theorem dX6_walkIsAsSeen_46 : decode cX6_walkIsAsSeen 46 = .ok (.invokevirtual 182, 3) := by decide +kernel
theorem dX6_walkIsAsSeen_49 : decode cX6_walkIsAsSeen 49 = .ok (.aload_n 0, 1) := by decide +kernel
theorem dX6_walkIsAsSeen_50 : decode cX6_walkIsAsSeen 50 = .ok (.getfield 19, 3) := by decide +kernel
theorem dX6_walkIsAsSeen_53 : decode cX6_walkIsAsSeen 53 = .ok (.getfield 280, 3) := by decide +kernel
theorem dX6_walkIsAsSeen_56 : decode cX6_walkIsAsSeen 56 = .ok (.iload_n 1, 1) := by decide +kernel
theorem dX6_walkIsAsSeen_57 : decode cX6_walkIsAsSeen 57 = .ok (.iaload, 1) := by decide +kernel
theorem dX6_walkIsAsSeen_58 : decode cX6_walkIsAsSeen 58 = .ok (.if_icmp .eq 5, 3) := by decide +kernel
theorem dX6_walkIsAsSeen_61 : decode cX6_walkIsAsSeen 61 = .ok (.iconst 0, 1) := by decide +kernel
theorem dX6_walkIsAsSeen_62 : decode cX6_walkIsAsSeen 62 = .ok (.ireturn, 1) := by decide +kernel
theorem dX6_walkIsAsSeen_63 : decode cX6_walkIsAsSeen 63 = .ok (.iinc 1 1, 3) := by decide +kernel
theorem dX6_walkIsAsSeen_66 : decode cX6_walkIsAsSeen 66 = .ok (.goto (-53), 3) := by decide +kernel
theorem dX6_walkIsAsSeen_69 : decode cX6_walkIsAsSeen 69 = .ok (.iconst 1, 1) := by decide +kernel
theorem dX6_walkIsAsSeen_70 : decode cX6_walkIsAsSeen 70 = .ok (.ireturn, 1) := by decide +kernel
theorem dX6_meetingsBehind_0 : decode cX6_meetingsBehind 0 = .ok (.iconst 0, 1) := by decide +kernel
theorem dX6_meetingsBehind_1 : decode cX6_meetingsBehind 1 = .ok (.istore_n 2, 1) := by decide +kernel
theorem dX6_meetingsBehind_2 : decode cX6_meetingsBehind 2 = .ok (.iconst 0, 1) := by decide +kernel
theorem dX6_meetingsBehind_3 : decode cX6_meetingsBehind 3 = .ok (.istore_n 3, 1) := by decide +kernel
theorem dX6_meetingsBehind_4 : decode cX6_meetingsBehind 4 = .ok (.iload_n 3, 1) := by decide +kernel
theorem dX6_meetingsBehind_5 : decode cX6_meetingsBehind 5 = .ok (.aload_n 0, 1) := by decide +kernel
theorem dX6_meetingsBehind_6 : decode cX6_meetingsBehind 6 = .ok (.getfield 19, 3) := by decide +kernel
theorem dX6_meetingsBehind_9 : decode cX6_meetingsBehind 9 = .ok (.getfield 83, 3) := by decide +kernel
theorem dX6_meetingsBehind_12 : decode cX6_meetingsBehind 12 = .ok (.getfield 87, 3) := by decide +kernel
theorem dX6_meetingsBehind_15 : decode cX6_meetingsBehind 15 = .ok (.if_icmp .ge 32, 3) := by decide +kernel
theorem dX6_meetingsBehind_18 : decode cX6_meetingsBehind 18 = .ok (.aload_n 0, 1) := by decide +kernel
theorem dX6_meetingsBehind_19 : decode cX6_meetingsBehind 19 = .ok (.getfield 19, 3) := by decide +kernel
theorem dX6_meetingsBehind_22 : decode cX6_meetingsBehind 22 = .ok (.iload_n 3, 1) := by decide +kernel
theorem dX6_meetingsBehind_23 : decode cX6_meetingsBehind 23 = .ok (.aload_n 0, 1) := by decide +kernel
theorem dX6_meetingsBehind_24 : decode cX6_meetingsBehind 24 = .ok (.getfield 34, 3) := by decide +kernel
theorem dX6_meetingsBehind_27 : decode cX6_meetingsBehind 27 = .ok (.iload_n 3, 1) := by decide +kernel
theorem dX6_meetingsBehind_28 : decode cX6_meetingsBehind 28 = .ok (.iload_n 1, 1) := by decide +kernel
theorem dX6_meetingsBehind_29 : decode cX6_meetingsBehind 29 = .ok (.invokevirtual 182, 3) := by decide +kernel
theorem dX6_meetingsBehind_32 : decode cX6_meetingsBehind 32 = .ok (.invokevirtual 149, 3) := by decide +kernel
theorem dX6_meetingsBehind_35 : decode cX6_meetingsBehind 35 = .ok (.ifCond .eq 6, 3) := by decide +kernel
theorem dX6_meetingsBehind_38 : decode cX6_meetingsBehind 38 = .ok (.iinc 2 1, 3) := by decide +kernel
theorem dX6_meetingsBehind_41 : decode cX6_meetingsBehind 41 = .ok (.iinc 3 1, 3) := by decide +kernel
theorem dX6_meetingsBehind_44 : decode cX6_meetingsBehind 44 = .ok (.goto (-40), 3) := by decide +kernel
theorem dX6_meetingsBehind_47 : decode cX6_meetingsBehind 47 = .ok (.iload_n 2, 1) := by decide +kernel
theorem dX6_meetingsBehind_48 : decode cX6_meetingsBehind 48 = .ok (.ireturn, 1) := by decide +kernel
theorem dX6_allMeetings_0 : decode cX6_allMeetings 0 = .ok (.iconst 0, 1) := by decide +kernel
theorem dX6_allMeetings_1 : decode cX6_allMeetings 1 = .ok (.istore_n 1, 1) := by decide +kernel
theorem dX6_allMeetings_2 : decode cX6_allMeetings 2 = .ok (.iconst 1, 1) := by decide +kernel
theorem dX6_allMeetings_3 : decode cX6_allMeetings 3 = .ok (.istore_n 2, 1) := by decide +kernel
theorem dX6_allMeetings_4 : decode cX6_allMeetings 4 = .ok (.iload_n 2, 1) := by decide +kernel
theorem dX6_allMeetings_5 : decode cX6_allMeetings 5 = .ok (.aload_n 0, 1) := by decide +kernel
theorem dX6_allMeetings_6 : decode cX6_allMeetings 6 = .ok (.getfield 34, 3) := by decide +kernel
theorem dX6_allMeetings_9 : decode cX6_allMeetings 9 = .ok (.getfield 186, 3) := by decide +kernel
theorem dX6_allMeetings_12 : decode cX6_allMeetings 12 = .ok (.if_icmp .gt 17, 3) := by decide +kernel
theorem dX6_allMeetings_15 : decode cX6_allMeetings 15 = .ok (.iload_n 1, 1) := by decide +kernel
theorem dX6_allMeetings_16 : decode cX6_allMeetings 16 = .ok (.aload_n 0, 1) := by decide +kernel
theorem dX6_allMeetings_17 : decode cX6_allMeetings 17 = .ok (.iload_n 2, 1) := by decide +kernel
theorem dX6_allMeetings_18 : decode cX6_allMeetings 18 = .ok (.invokevirtual 283, 3) := by decide +kernel
theorem dX6_allMeetings_21 : decode cX6_allMeetings 21 = .ok (.iadd, 1) := by decide +kernel
theorem dX6_allMeetings_22 : decode cX6_allMeetings 22 = .ok (.istore_n 1, 1) := by decide +kernel
theorem dX6_allMeetings_23 : decode cX6_allMeetings 23 = .ok (.iinc 2 1, 3) := by decide +kernel
theorem dX6_allMeetings_26 : decode cX6_allMeetings 26 = .ok (.goto (-22), 3) := by decide +kernel
theorem dX6_allMeetings_29 : decode cX6_allMeetings 29 = .ok (.iload_n 1, 1) := by decide +kernel
theorem dX6_allMeetings_30 : decode cX6_allMeetings 30 = .ok (.ireturn, 1) := by decide +kernel
theorem dX6_firstMeeting_0 : decode cX6_firstMeeting 0 = .ok (.iconst 1, 1) := by decide +kernel
theorem dX6_firstMeeting_1 : decode cX6_firstMeeting 1 = .ok (.istore_n 1, 1) := by decide +kernel
theorem dX6_firstMeeting_2 : decode cX6_firstMeeting 2 = .ok (.iload_n 1, 1) := by decide +kernel
theorem dX6_firstMeeting_3 : decode cX6_firstMeeting 3 = .ok (.aload_n 0, 1) := by decide +kernel
theorem dX6_firstMeeting_4 : decode cX6_firstMeeting 4 = .ok (.getfield 34, 3) := by decide +kernel
theorem dX6_firstMeeting_7 : decode cX6_firstMeeting 7 = .ok (.getfield 186, 3) := by decide +kernel
theorem dX6_firstMeeting_10 : decode cX6_firstMeeting 10 = .ok (.if_icmp .gt 19, 3) := by decide +kernel
theorem dX6_firstMeeting_13 : decode cX6_firstMeeting 13 = .ok (.aload_n 0, 1) := by decide +kernel
theorem dX6_firstMeeting_14 : decode cX6_firstMeeting 14 = .ok (.iload_n 1, 1) := by decide +kernel
theorem dX6_firstMeeting_15 : decode cX6_firstMeeting 15 = .ok (.invokevirtual 283, 3) := by decide +kernel
theorem dX6_firstMeeting_18 : decode cX6_firstMeeting 18 = .ok (.ifCond .le 5, 3) := by decide +kernel
theorem dX6_firstMeeting_21 : decode cX6_firstMeeting 21 = .ok (.iload_n 1, 1) := by decide +kernel
theorem dX6_firstMeeting_22 : decode cX6_firstMeeting 22 = .ok (.ireturn, 1) := by decide +kernel
theorem dX6_firstMeeting_23 : decode cX6_firstMeeting 23 = .ok (.iinc 1 1, 3) := by decide +kernel
theorem dX6_firstMeeting_26 : decode cX6_firstMeeting 26 = .ok (.goto (-24), 3) := by decide +kernel
theorem dX6_firstMeeting_29 : decode cX6_firstMeeting 29 = .ok (.bipush (-4), 2) := by decide +kernel
theorem dX6_firstMeeting_31 : decode cX6_firstMeeting 31 = .ok (.ireturn, 1) := by decide +kernel
theorem dX6_roundRepeating_0 : decode cX6_roundRepeating 0 = .ok (.aload_n 0, 1) := by decide +kernel
theorem dX6_roundRepeating_1 : decode cX6_roundRepeating 1 = .ok (.getfield 34, 3) := by decide +kernel
theorem dX6_roundRepeating_4 : decode cX6_roundRepeating 4 = .ok (.getfield 171, 3) := by decide +kernel
theorem dX6_roundRepeating_7 : decode cX6_roundRepeating 7 = .ok (.astore_n 2, 1) := by decide +kernel
theorem dX6_roundRepeating_8 : decode cX6_roundRepeating 8 = .ok (.aload_n 2, 1) := by decide +kernel
theorem dX6_roundRepeating_9 : decode cX6_roundRepeating 9 = .ok (.aload_n 0, 1) := by decide +kernel
theorem dX6_roundRepeating_10 : decode cX6_roundRepeating 10 = .ok (.getfield 19, 3) := by decide +kernel
theorem dX6_roundRepeating_13 : decode cX6_roundRepeating 13 = .ok (.getfield 83, 3) := by decide +kernel
theorem dX6_roundRepeating_16 : decode cX6_roundRepeating 16 = .ok (.invokevirtual 189, 3) := by decide +kernel
theorem dX6_roundRepeating_19 : decode cX6_roundRepeating 19 = .ok (.iconst 0, 1) := by decide +kernel
theorem dX6_roundRepeating_20 : decode cX6_roundRepeating 20 = .ok (.istore_n 3, 1) := by decide +kernel
theorem dX6_roundRepeating_21 : decode cX6_roundRepeating 21 = .ok (.iload_n 3, 1) := by decide +kernel
theorem dX6_roundRepeating_22 : decode cX6_roundRepeating 22 = .ok (.aload_n 0, 1) := by decide +kernel
theorem dX6_roundRepeating_23 : decode cX6_roundRepeating 23 = .ok (.getfield 19, 3) := by decide +kernel
theorem dX6_roundRepeating_26 : decode cX6_roundRepeating 26 = .ok (.getfield 95, 3) := by decide +kernel
theorem dX6_roundRepeating_29 : decode cX6_roundRepeating 29 = .ok (.if_icmp .ge 44, 3) := by decide +kernel
theorem dX6_roundRepeating_32 : decode cX6_roundRepeating 32 = .ok (.aload_n 2, 1) := by decide +kernel
theorem dX6_roundRepeating_33 : decode cX6_roundRepeating 33 = .ok (.aload_n 0, 1) := by decide +kernel
theorem dX6_roundRepeating_34 : decode cX6_roundRepeating 34 = .ok (.getfield 19, 3) := by decide +kernel
theorem dX6_roundRepeating_37 : decode cX6_roundRepeating 37 = .ok (.getfield 139, 3) := by decide +kernel
theorem dX6_roundRepeating_40 : decode cX6_roundRepeating 40 = .ok (.iload_n 3, 1) := by decide +kernel
theorem dX6_roundRepeating_41 : decode cX6_roundRepeating 41 = .ok (.iaload, 1) := by decide +kernel
theorem dX6_roundRepeating_42 : decode cX6_roundRepeating 42 = .ok (.invokevirtual 160, 3) := by decide +kernel
theorem dX6_roundRepeating_45 : decode cX6_roundRepeating 45 = .ok (.iload_n 1, 1) := by decide +kernel
theorem dX6_roundRepeating_46 : decode cX6_roundRepeating 46 = .ok (.iload_n 3, 1) := by decide +kernel
theorem dX6_roundRepeating_47 : decode cX6_roundRepeating 47 = .ok (.ishr, 1) := by decide +kernel
theorem dX6_roundRepeating_48 : decode cX6_roundRepeating 48 = .ok (.iconst 1, 1) := by decide +kernel
theorem dX6_roundRepeating_49 : decode cX6_roundRepeating 49 = .ok (.iand, 1) := by decide +kernel
theorem dX6_roundRepeating_50 : decode cX6_roundRepeating 50 = .ok (.iconst 1, 1) := by decide +kernel
theorem dX6_roundRepeating_51 : decode cX6_roundRepeating 51 = .ok (.if_icmp .ne 16, 3) := by decide +kernel
theorem dX6_roundRepeating_54 : decode cX6_roundRepeating 54 = .ok (.aload_n 2, 1) := by decide +kernel
theorem dX6_roundRepeating_55 : decode cX6_roundRepeating 55 = .ok (.aload_n 0, 1) := by decide +kernel
theorem dX6_roundRepeating_56 : decode cX6_roundRepeating 56 = .ok (.getfield 19, 3) := by decide +kernel
theorem dX6_roundRepeating_59 : decode cX6_roundRepeating 59 = .ok (.getfield 139, 3) := by decide +kernel
theorem dX6_roundRepeating_62 : decode cX6_roundRepeating 62 = .ok (.iload_n 3, 1) := by decide +kernel
theorem dX6_roundRepeating_63 : decode cX6_roundRepeating 63 = .ok (.iaload, 1) := by decide +kernel
theorem dX6_roundRepeating_64 : decode cX6_roundRepeating 64 = .ok (.invokevirtual 160, 3) := by decide +kernel
theorem dX6_roundRepeating_67 : decode cX6_roundRepeating 67 = .ok (.iinc 3 1, 3) := by decide +kernel
theorem dX6_roundRepeating_70 : decode cX6_roundRepeating 70 = .ok (.goto (-49), 3) := by decide +kernel
theorem dX6_roundRepeating_73 : decode cX6_roundRepeating 73 = .ok (.aload_n 2, 1) := by decide +kernel
theorem dX6_roundRepeating_74 : decode cX6_roundRepeating 74 = .ok (.invokevirtual 101, 3) := by decide +kernel
theorem dX6_roundRepeating_77 : decode cX6_roundRepeating 77 = .ok (.ireturn, 1) := by decide +kernel
theorem dX6_weighed_0 : decode cX6_weighed 0 = .ok (.aload_n 0, 1) := by decide +kernel
theorem dX6_weighed_1 : decode cX6_weighed 1 = .ok (.getfield 19, 3) := by decide +kernel
theorem dX6_weighed_4 : decode cX6_weighed 4 = .ok (.getfield 83, 3) := by decide +kernel
theorem dX6_weighed_7 : decode cX6_weighed 7 = .ok (.getfield 87, 3) := by decide +kernel
theorem dX6_weighed_10 : decode cX6_weighed 10 = .ok (.istore_n 3, 1) := by decide +kernel
theorem dX6_weighed_11 : decode cX6_weighed 11 = .ok (.lconst 0, 1) := by decide +kernel
theorem dX6_weighed_12 : decode cX6_weighed 12 = .ok (.lstore 4, 2) := by decide +kernel
theorem dX6_weighed_14 : decode cX6_weighed 14 = .ok (.iconst 0, 1) := by decide +kernel
theorem dX6_weighed_15 : decode cX6_weighed 15 = .ok (.istore 6, 2) := by decide +kernel
theorem dX6_weighed_17 : decode cX6_weighed 17 = .ok (.iload 6, 2) := by decide +kernel
theorem dX6_weighed_19 : decode cX6_weighed 19 = .ok (.iconst 1, 1) := by decide +kernel
theorem dX6_weighed_20 : decode cX6_weighed 20 = .ok (.iload_n 3, 1) := by decide +kernel
theorem dX6_weighed_21 : decode cX6_weighed 21 = .ok (.ishl, 1) := by decide +kernel
theorem dX6_weighed_22 : decode cX6_weighed 22 = .ok (.if_icmp .ge 63, 3) := by decide +kernel
theorem dX6_weighed_25 : decode cX6_weighed 25 = .ok (.iload 6, 2) := by decide +kernel
theorem dX6_weighed_27 : decode cX6_weighed 27 = .ok (.invokestatic 163, 3) := by decide +kernel
theorem dX6_weighed_30 : decode cX6_weighed 30 = .ok (.istore 7, 2) := by decide +kernel
theorem dX6_weighed_32 : decode cX6_weighed 32 = .ok (.iload_n 1, 1) := by decide +kernel
theorem dX6_weighed_33 : decode cX6_weighed 33 = .ok (.iload 7, 2) := by decide +kernel
theorem dX6_weighed_35 : decode cX6_weighed 35 = .ok (.invokestatic 228, 3) := by decide +kernel
theorem dX6_weighed_38 : decode cX6_weighed 38 = .ok (.bipush 10, 2) := by decide +kernel
theorem dX6_weighed_40 : decode cX6_weighed 40 = .ok (.iload_n 1, 1) := by decide +kernel
theorem dX6_weighed_41 : decode cX6_weighed 41 = .ok (.isub, 1) := by decide +kernel
theorem dX6_weighed_42 : decode cX6_weighed 42 = .ok (.iload_n 3, 1) := by decide +kernel
theorem dX6_weighed_43 : decode cX6_weighed 43 = .ok (.iload 7, 2) := by decide +kernel
theorem dX6_weighed_45 : decode cX6_weighed 45 = .ok (.isub, 1) := by decide +kernel
theorem dX6_weighed_46 : decode cX6_weighed 46 = .ok (.invokestatic 228, 3) := by decide +kernel
theorem dX6_weighed_49 : decode cX6_weighed 49 = .ok (.lmul, 1) := by decide +kernel
theorem dX6_weighed_50 : decode cX6_weighed 50 = .ok (.lstore 8, 2) := by decide +kernel
theorem dX6_weighed_52 : decode cX6_weighed 52 = .ok (.lload 8, 2) := by decide +kernel
theorem dX6_weighed_54 : decode cX6_weighed 54 = .ok (.lconst 0, 1) := by decide +kernel
theorem dX6_weighed_55 : decode cX6_weighed 55 = .ok (.lcmp, 1) := by decide +kernel
theorem dX6_weighed_56 : decode cX6_weighed 56 = .ok (.ifCond .eq 23, 3) := by decide +kernel
theorem dX6_weighed_59 : decode cX6_weighed 59 = .ok (.lload 4, 2) := by decide +kernel
theorem dX6_weighed_61 : decode cX6_weighed 61 = .ok (.lload 8, 2) := by decide +kernel
theorem dX6_weighed_63 : decode cX6_weighed 63 = .ok (.aload_n 0, 1) := by decide +kernel
theorem dX6_weighed_64 : decode cX6_weighed 64 = .ok (.iload 6, 2) := by decide +kernel
theorem dX6_weighed_66 : decode cX6_weighed 66 = .ok (.invokevirtual 286, 3) := by decide +kernel
theorem dX6_weighed_69 : decode cX6_weighed 69 = .ok (.iload_n 2, 1) := by decide +kernel
theorem dX6_weighed_70 : decode cX6_weighed 70 = .ok (.iand, 1) := by decide +kernel
theorem dX6_weighed_71 : decode cX6_weighed 71 = .ok (.invokestatic 163, 3) := by decide +kernel
theorem dX6_weighed_74 : decode cX6_weighed 74 = .ok (.i2l, 1) := by decide +kernel
theorem dX6_weighed_75 : decode cX6_weighed 75 = .ok (.lmul, 1) := by decide +kernel
theorem dX6_weighed_76 : decode cX6_weighed 76 = .ok (.ladd, 1) := by decide +kernel
theorem dX6_weighed_77 : decode cX6_weighed 77 = .ok (.lstore 4, 2) := by decide +kernel
theorem dX6_weighed_79 : decode cX6_weighed 79 = .ok (.iinc 6 1, 3) := by decide +kernel
theorem dX6_weighed_82 : decode cX6_weighed 82 = .ok (.goto (-65), 3) := by decide +kernel
theorem dX6_weighed_85 : decode cX6_weighed 85 = .ok (.lload 4, 2) := by decide +kernel
theorem dX6_weighed_87 : decode cX6_weighed 87 = .ok (.lreturn, 1) := by decide +kernel
theorem dX6_roundWithBroken_0 : decode cX6_roundWithBroken 0 = .ok (.aload_n 0, 1) := by decide +kernel
theorem dX6_roundWithBroken_1 : decode cX6_roundWithBroken 1 = .ok (.getfield 34, 3) := by decide +kernel
theorem dX6_roundWithBroken_4 : decode cX6_roundWithBroken 4 = .ok (.getfield 171, 3) := by decide +kernel
theorem dX6_roundWithBroken_7 : decode cX6_roundWithBroken 7 = .ok (.aload_n 0, 1) := by decide +kernel
theorem dX6_roundWithBroken_8 : decode cX6_roundWithBroken 8 = .ok (.getfield 19, 3) := by decide +kernel
theorem dX6_roundWithBroken_11 : decode cX6_roundWithBroken 11 = .ok (.getfield 83, 3) := by decide +kernel
theorem dX6_roundWithBroken_14 : decode cX6_roundWithBroken 14 = .ok (.invokevirtual 189, 3) := by decide +kernel
theorem dX6_roundWithBroken_17 : decode cX6_roundWithBroken 17 = .ok (.iconst 0, 1) := by decide +kernel
theorem dX6_roundWithBroken_18 : decode cX6_roundWithBroken 18 = .ok (.istore_n 2, 1) := by decide +kernel
theorem dX6_roundWithBroken_19 : decode cX6_roundWithBroken 19 = .ok (.iload_n 2, 1) := by decide +kernel
theorem dX6_roundWithBroken_20 : decode cX6_roundWithBroken 20 = .ok (.aload_n 0, 1) := by decide +kernel
theorem dX6_roundWithBroken_21 : decode cX6_roundWithBroken 21 = .ok (.getfield 19, 3) := by decide +kernel
theorem dX6_roundWithBroken_24 : decode cX6_roundWithBroken 24 = .ok (.getfield 83, 3) := by decide +kernel
theorem dX6_roundWithBroken_27 : decode cX6_roundWithBroken 27 = .ok (.getfield 87, 3) := by decide +kernel
theorem dX6_roundWithBroken_30 : decode cX6_roundWithBroken 30 = .ok (.if_icmp .ge 31, 3) := by decide +kernel
theorem dX6_roundWithBroken_33 : decode cX6_roundWithBroken 33 = .ok (.iload_n 1, 1) := by decide +kernel
theorem dX6_roundWithBroken_34 : decode cX6_roundWithBroken 34 = .ok (.iload_n 2, 1) := by decide +kernel
theorem dX6_roundWithBroken_35 : decode cX6_roundWithBroken 35 = .ok (.ishr, 1) := by decide +kernel
theorem dX6_roundWithBroken_36 : decode cX6_roundWithBroken 36 = .ok (.iconst 1, 1) := by decide +kernel
theorem dX6_roundWithBroken_37 : decode cX6_roundWithBroken 37 = .ok (.iand, 1) := by decide +kernel
theorem dX6_roundWithBroken_38 : decode cX6_roundWithBroken 38 = .ok (.iconst 1, 1) := by decide +kernel
theorem dX6_roundWithBroken_39 : decode cX6_roundWithBroken 39 = .ok (.if_icmp .ne 16, 3) := by decide +kernel
theorem dX6_roundWithBroken_42 : decode cX6_roundWithBroken 42 = .ok (.aload_n 0, 1) := by decide +kernel
theorem dX6_roundWithBroken_43 : decode cX6_roundWithBroken 43 = .ok (.getfield 34, 3) := by decide +kernel
theorem dX6_roundWithBroken_46 : decode cX6_roundWithBroken 46 = .ok (.getfield 171, 3) := by decide +kernel
theorem dX6_roundWithBroken_49 : decode cX6_roundWithBroken 49 = .ok (.getfield 114, 3) := by decide +kernel
theorem dX6_roundWithBroken_52 : decode cX6_roundWithBroken 52 = .ok (.iload_n 2, 1) := by decide +kernel
theorem dX6_roundWithBroken_53 : decode cX6_roundWithBroken 53 = .ok (.iconst 0, 1) := by decide +kernel
theorem dX6_roundWithBroken_54 : decode cX6_roundWithBroken 54 = .ok (.iastore, 1) := by decide +kernel
theorem dX6_roundWithBroken_55 : decode cX6_roundWithBroken 55 = .ok (.iinc 2 1, 3) := by decide +kernel
theorem dX6_roundWithBroken_58 : decode cX6_roundWithBroken 58 = .ok (.goto (-39), 3) := by decide +kernel
theorem dX6_roundWithBroken_61 : decode cX6_roundWithBroken 61 = .ok (.aload_n 0, 1) := by decide +kernel
theorem dX6_roundWithBroken_62 : decode cX6_roundWithBroken 62 = .ok (.getfield 34, 3) := by decide +kernel
theorem dX6_roundWithBroken_65 : decode cX6_roundWithBroken 65 = .ok (.aload_n 0, 1) := by decide +kernel
theorem dX6_roundWithBroken_66 : decode cX6_roundWithBroken 66 = .ok (.getfield 19, 3) := by decide +kernel
theorem dX6_roundWithBroken_69 : decode cX6_roundWithBroken 69 = .ok (.invokevirtual 271, 3) := by decide +kernel
theorem dX6_roundWithBroken_72 : decode cX6_roundWithBroken 72 = .ok (.aload_n 0, 1) := by decide +kernel
theorem dX6_roundWithBroken_73 : decode cX6_roundWithBroken 73 = .ok (.getfield 34, 3) := by decide +kernel
theorem dX6_roundWithBroken_76 : decode cX6_roundWithBroken 76 = .ok (.getfield 171, 3) := by decide +kernel
theorem dX6_roundWithBroken_79 : decode cX6_roundWithBroken 79 = .ok (.invokevirtual 101, 3) := by decide +kernel
theorem dX6_roundWithBroken_82 : decode cX6_roundWithBroken 82 = .ok (.ireturn, 1) := by decide +kernel
theorem dX6_placeIn_0 : decode cX6_placeIn 0 = .ok (.iload_n 2, 1) := by decide +kernel
theorem dX6_placeIn_1 : decode cX6_placeIn 1 = .ok (.bipush 10, 2) := by decide +kernel
theorem dX6_placeIn_3 : decode cX6_placeIn 3 = .ok (.isub, 1) := by decide +kernel
theorem dX6_placeIn_4 : decode cX6_placeIn 4 = .ok (.istore_n 3, 1) := by decide +kernel
theorem dX6_placeIn_5 : decode cX6_placeIn 5 = .ok (.iload_n 3, 1) := by decide +kernel
theorem dX6_placeIn_6 : decode cX6_placeIn 6 = .ok (.ifCond .lt 14, 3) := by decide +kernel
theorem dX6_placeIn_9 : decode cX6_placeIn 9 = .ok (.iload_n 3, 1) := by decide +kernel
theorem dX6_placeIn_10 : decode cX6_placeIn 10 = .ok (.iload_n 1, 1) := by decide +kernel
theorem dX6_placeIn_11 : decode cX6_placeIn 11 = .ok (.if_icmp .ge 9, 3) := by decide +kernel
theorem dX6_placeIn_14 : decode cX6_placeIn 14 = .ok (.iload_n 3, 1) := by decide +kernel
theorem dX6_placeIn_15 : decode cX6_placeIn 15 = .ok (.aload_n 0, 1) := by decide +kernel
theorem dX6_placeIn_16 : decode cX6_placeIn 16 = .ok (.arraylength, 1) := by decide +kernel
theorem dX6_placeIn_17 : decode cX6_placeIn 17 = .ok (.if_icmp .lt 8, 3) := by decide +kernel
theorem dX6_placeIn_20 : decode cX6_placeIn 20 = .ok (.bipush (-4), 2) := by decide +kernel
theorem dX6_placeIn_22 : decode cX6_placeIn 22 = .ok (.goto 6, 3) := by decide +kernel
theorem dX6_placeIn_25 : decode cX6_placeIn 25 = .ok (.aload_n 0, 1) := by decide +kernel
theorem dX6_placeIn_26 : decode cX6_placeIn 26 = .ok (.iload_n 3, 1) := by decide +kernel
theorem dX6_placeIn_27 : decode cX6_placeIn 27 = .ok (.iaload, 1) := by decide +kernel
theorem dX6_placeIn_28 : decode cX6_placeIn 28 = .ok (.ireturn, 1) := by decide +kernel
theorem dX6_power_0 : decode cX6_power 0 = .ok (.lconst 1, 1) := by decide +kernel
theorem dX6_power_1 : decode cX6_power 1 = .ok (.lstore_n 2, 1) := by decide +kernel
theorem dX6_power_2 : decode cX6_power 2 = .ok (.iconst 0, 1) := by decide +kernel
theorem dX6_power_3 : decode cX6_power 3 = .ok (.istore 4, 2) := by decide +kernel
theorem dX6_power_5 : decode cX6_power 5 = .ok (.iload 4, 2) := by decide +kernel
theorem dX6_power_7 : decode cX6_power 7 = .ok (.iload_n 1, 1) := by decide +kernel
theorem dX6_power_8 : decode cX6_power 8 = .ok (.if_icmp .ge 14, 3) := by decide +kernel
theorem dX6_power_11 : decode cX6_power 11 = .ok (.lload_n 2, 1) := by decide +kernel
theorem dX6_power_12 : decode cX6_power 12 = .ok (.iload_n 0, 1) := by decide +kernel
theorem dX6_power_13 : decode cX6_power 13 = .ok (.i2l, 1) := by decide +kernel
theorem dX6_power_14 : decode cX6_power 14 = .ok (.lmul, 1) := by decide +kernel
theorem dX6_power_15 : decode cX6_power 15 = .ok (.lstore_n 2, 1) := by decide +kernel
theorem dX6_power_16 : decode cX6_power 16 = .ok (.iinc 4 1, 3) := by decide +kernel
theorem dX6_power_19 : decode cX6_power 19 = .ok (.goto (-14), 3) := by decide +kernel
theorem dX6_power_22 : decode cX6_power 22 = .ok (.lload_n 2, 1) := by decide +kernel
theorem dX6_power_23 : decode cX6_power 23 = .ok (.lreturn, 1) := by decide +kernel
theorem dX6_fraction_0 : decode cX6_fraction 0 = .ok (.lload_n 0, 1) := by decide +kernel
theorem dX6_fraction_1 : decode cX6_fraction 1 = .ok (.lload_n 2, 1) := by decide +kernel
theorem dX6_fraction_2 : decode cX6_fraction 2 = .ok (.invokestatic 289, 3) := by decide +kernel
theorem dX6_fraction_5 : decode cX6_fraction 5 = .ok (.lstore 5, 2) := by decide +kernel
theorem dX6_fraction_7 : decode cX6_fraction 7 = .ok (.lload 5, 2) := by decide +kernel
theorem dX6_fraction_9 : decode cX6_fraction 9 = .ok (.lconst 0, 1) := by decide +kernel
theorem dX6_fraction_10 : decode cX6_fraction 10 = .ok (.lcmp, 1) := by decide +kernel
theorem dX6_fraction_11 : decode cX6_fraction 11 = .ok (.ifCond .ne 7, 3) := by decide +kernel
theorem dX6_fraction_14 : decode cX6_fraction 14 = .ok (.ldc2_w 222, 3) := by decide +kernel
theorem dX6_fraction_17 : decode cX6_fraction 17 = .ok (.lreturn, 1) := by decide +kernel
theorem dX6_fraction_18 : decode cX6_fraction 18 = .ok (.iload 4, 2) := by decide +kernel
theorem dX6_fraction_20 : decode cX6_fraction 20 = .ok (.ifCond .ne 10, 3) := by decide +kernel
theorem dX6_fraction_23 : decode cX6_fraction 23 = .ok (.lload_n 0, 1) := by decide +kernel
theorem dX6_fraction_24 : decode cX6_fraction 24 = .ok (.lload 5, 2) := by decide +kernel
theorem dX6_fraction_26 : decode cX6_fraction 26 = .ok (.ldiv, 1) := by decide +kernel
theorem dX6_fraction_27 : decode cX6_fraction 27 = .ok (.goto 7, 3) := by decide +kernel
theorem dX6_fraction_30 : decode cX6_fraction 30 = .ok (.lload_n 2, 1) := by decide +kernel
theorem dX6_fraction_31 : decode cX6_fraction 31 = .ok (.lload 5, 2) := by decide +kernel
theorem dX6_fraction_33 : decode cX6_fraction 33 = .ok (.ldiv, 1) := by decide +kernel
theorem dX6_fraction_34 : decode cX6_fraction 34 = .ok (.lreturn, 1) := by decide +kernel
theorem dX6_greatestCommon_0 : decode cX6_greatestCommon 0 = .ok (.lload_n 0, 1) := by decide +kernel
theorem dX6_greatestCommon_1 : decode cX6_greatestCommon 1 = .ok (.lstore 4, 2) := by decide +kernel
theorem dX6_greatestCommon_3 : decode cX6_greatestCommon 3 = .ok (.lload_n 2, 1) := by decide +kernel
theorem dX6_greatestCommon_4 : decode cX6_greatestCommon 4 = .ok (.lstore 6, 2) := by decide +kernel
theorem dX6_greatestCommon_6 : decode cX6_greatestCommon 6 = .ok (.iconst 0, 1) := by decide +kernel
theorem dX6_greatestCommon_7 : decode cX6_greatestCommon 7 = .ok (.istore 8, 2) := by decide +kernel
theorem dX6_greatestCommon_9 : decode cX6_greatestCommon 9 = .ok (.iload 8, 2) := by decide +kernel
theorem dX6_greatestCommon_11 : decode cX6_greatestCommon 11 = .ok (.bipush 100, 2) := by decide +kernel
theorem dX6_greatestCommon_13 : decode cX6_greatestCommon 13 = .ok (.if_icmp .ge 31, 3) := by decide +kernel
theorem dX6_greatestCommon_16 : decode cX6_greatestCommon 16 = .ok (.lload 6, 2) := by decide +kernel
theorem dX6_greatestCommon_18 : decode cX6_greatestCommon 18 = .ok (.lconst 0, 1) := by decide +kernel
theorem dX6_greatestCommon_19 : decode cX6_greatestCommon 19 = .ok (.lcmp, 1) := by decide +kernel
theorem dX6_greatestCommon_20 : decode cX6_greatestCommon 20 = .ok (.ifCond .eq 24, 3) := by decide +kernel
theorem dX6_greatestCommon_23 : decode cX6_greatestCommon 23 = .ok (.lload 4, 2) := by decide +kernel
theorem dX6_greatestCommon_25 : decode cX6_greatestCommon 25 = .ok (.lload 6, 2) := by decide +kernel
theorem dX6_greatestCommon_27 : decode cX6_greatestCommon 27 = .ok (.lrem, 1) := by decide +kernel
theorem dX6_greatestCommon_28 : decode cX6_greatestCommon 28 = .ok (.lstore 9, 2) := by decide +kernel
theorem dX6_greatestCommon_30 : decode cX6_greatestCommon 30 = .ok (.lload 6, 2) := by decide +kernel
theorem dX6_greatestCommon_32 : decode cX6_greatestCommon 32 = .ok (.lstore 4, 2) := by decide +kernel
theorem dX6_greatestCommon_34 : decode cX6_greatestCommon 34 = .ok (.lload 9, 2) := by decide +kernel
theorem dX6_greatestCommon_36 : decode cX6_greatestCommon 36 = .ok (.lstore 6, 2) := by decide +kernel
theorem dX6_greatestCommon_38 : decode cX6_greatestCommon 38 = .ok (.iinc 8 1, 3) := by decide +kernel
theorem dX6_greatestCommon_41 : decode cX6_greatestCommon 41 = .ok (.goto (-32), 3) := by decide +kernel
theorem dX6_greatestCommon_44 : decode cX6_greatestCommon 44 = .ok (.lload 4, 2) := by decide +kernel
theorem dX6_greatestCommon_46 : decode cX6_greatestCommon 46 = .ok (.lreturn, 1) := by decide +kernel
theorem dX6_sum_0 : decode cX6_sum 0 = .ok (.iconst 0, 1) := by decide +kernel
theorem dX6_sum_1 : decode cX6_sum 1 = .ok (.istore_n 2, 1) := by decide +kernel
theorem dX6_sum_2 : decode cX6_sum 2 = .ok (.iconst 0, 1) := by decide +kernel
theorem dX6_sum_3 : decode cX6_sum 3 = .ok (.istore_n 3, 1) := by decide +kernel
theorem dX6_sum_4 : decode cX6_sum 4 = .ok (.iload_n 3, 1) := by decide +kernel
theorem dX6_sum_5 : decode cX6_sum 5 = .ok (.iload_n 1, 1) := by decide +kernel
theorem dX6_sum_6 : decode cX6_sum 6 = .ok (.if_icmp .ge 21, 3) := by decide +kernel
theorem dX6_sum_9 : decode cX6_sum 9 = .ok (.iload_n 3, 1) := by decide +kernel
theorem dX6_sum_10 : decode cX6_sum 10 = .ok (.aload_n 0, 1) := by decide +kernel
theorem dX6_sum_11 : decode cX6_sum 11 = .ok (.arraylength, 1) := by decide +kernel
theorem dX6_sum_12 : decode cX6_sum 12 = .ok (.if_icmp .ge 15, 3) := by decide +kernel
theorem dX6_sum_15 : decode cX6_sum 15 = .ok (.iload_n 2, 1) := by decide +kernel
theorem dX6_sum_16 : decode cX6_sum 16 = .ok (.aload_n 0, 1) := by decide +kernel
theorem dX6_sum_17 : decode cX6_sum 17 = .ok (.iload_n 3, 1) := by decide +kernel
theorem dX6_sum_18 : decode cX6_sum 18 = .ok (.iaload, 1) := by decide +kernel
theorem dX6_sum_19 : decode cX6_sum 19 = .ok (.iadd, 1) := by decide +kernel
theorem dX6_sum_20 : decode cX6_sum 20 = .ok (.istore_n 2, 1) := by decide +kernel
theorem dX6_sum_21 : decode cX6_sum 21 = .ok (.iinc 3 1, 3) := by decide +kernel
theorem dX6_sum_24 : decode cX6_sum 24 = .ok (.goto (-20), 3) := by decide +kernel
theorem dX6_sum_27 : decode cX6_sum 27 = .ok (.iload_n 2, 1) := by decide +kernel
theorem dX6_sum_28 : decode cX6_sum 28 = .ok (.ireturn, 1) := by decide +kernel
theorem dX7_init_0 : decode cX7_init 0 = .ok (.aload_n 0, 1) := by decide +kernel
theorem dX7_init_1 : decode cX7_init 1 = .ok (.invokespecial 1, 3) := by decide +kernel
theorem dX7_init_4 : decode cX7_init 4 = .ok (.aload_n 0, 1) := by decide +kernel
theorem dX7_init_5 : decode cX7_init 5 = .ok (.sipush 177, 3) := by decide +kernel
theorem dX7_init_8 : decode cX7_init 8 = .ok (.newarray .int, 2) := by decide +kernel
theorem dX7_init_10 : decode cX7_init 10 = .ok (.putfield 7, 3) := by decide +kernel
theorem dX7_init_13 : decode cX7_init 13 = .ok (.aload_n 0, 1) := by decide +kernel
theorem dX7_init_14 : decode cX7_init 14 = .ok (.bipush 59, 2) := by decide +kernel
theorem dX7_init_16 : decode cX7_init 16 = .ok (.newarray .int, 2) := by decide +kernel
theorem dX7_init_18 : decode cX7_init 18 = .ok (.putfield 13, 3) := by decide +kernel
theorem dX7_init_21 : decode cX7_init 21 = .ok (.aload_n 0, 1) := by decide +kernel
theorem dX7_init_22 : decode cX7_init 22 = .ok (.iconst 2, 1) := by decide +kernel
theorem dX7_init_23 : decode cX7_init 23 = .ok (.newarray .boolean, 2) := by decide +kernel
theorem dX7_init_25 : decode cX7_init 25 = .ok (.putfield 16, 3) := by decide +kernel
theorem dX7_init_28 : decode cX7_init 28 = .ok (.aload_n 0, 1) := by decide +kernel
theorem dX7_init_29 : decode cX7_init 29 = .ok (.bipush 59, 2) := by decide +kernel
theorem dX7_init_31 : decode cX7_init 31 = .ok (.newarray .int, 2) := by decide +kernel
theorem dX7_init_33 : decode cX7_init 33 = .ok (.putfield 20, 3) := by decide +kernel
theorem dX7_init_36 : decode cX7_init 36 = .ok (.aload_n 0, 1) := by decide +kernel
theorem dX7_init_37 : decode cX7_init 37 = .ok (.sipush 160, 3) := by decide +kernel
theorem dX7_init_40 : decode cX7_init 40 = .ok (.newarray .int, 2) := by decide +kernel
theorem dX7_init_42 : decode cX7_init 42 = .ok (.putfield 23, 3) := by decide +kernel
theorem dX7_init_45 : decode cX7_init 45 = .ok (.aload_n 0, 1) := by decide +kernel
theorem dX7_init_46 : decode cX7_init 46 = .ok (.iconst 5, 1) := by decide +kernel
theorem dX7_init_47 : decode cX7_init 47 = .ok (.newarray .int, 2) := by decide +kernel
theorem dX7_init_49 : decode cX7_init 49 = .ok (.putfield 26, 3) := by decide +kernel
theorem dX7_init_52 : decode cX7_init 52 = .ok (.aload_n 0, 1) := by decide +kernel
theorem dX7_init_53 : decode cX7_init 53 = .ok (.iconst 5, 1) := by decide +kernel
theorem dX7_init_54 : decode cX7_init 54 = .ok (.newarray .int, 2) := by decide +kernel
theorem dX7_init_56 : decode cX7_init 56 = .ok (.putfield 29, 3) := by decide +kernel
theorem dX7_init_59 : decode cX7_init 59 = .ok (.aload_n 0, 1) := by decide +kernel
theorem dX7_init_60 : decode cX7_init 60 = .ok (.iconst 4, 1) := by decide +kernel
theorem dX7_init_61 : decode cX7_init 61 = .ok (.newarray .int, 2) := by decide +kernel
theorem dX7_init_63 : decode cX7_init 63 = .ok (.putfield 32, 3) := by decide +kernel
theorem dX7_init_66 : decode cX7_init 66 = .ok (.aload_n 0, 1) := by decide +kernel
theorem dX7_init_67 : decode cX7_init 67 = .ok (.iconst 4, 1) := by decide +kernel
theorem dX7_init_68 : decode cX7_init 68 = .ok (.newarray .int, 2) := by decide +kernel
theorem dX7_init_70 : decode cX7_init 70 = .ok (.putfield 35, 3) := by decide +kernel
theorem dX7_init_73 : decode cX7_init 73 = .ok (.aload_n 0, 1) := by decide +kernel
theorem dX7_init_74 : decode cX7_init 74 = .ok (.sipush 160, 3) := by decide +kernel
theorem dX7_init_77 : decode cX7_init 77 = .ok (.newarray .int, 2) := by decide +kernel
theorem dX7_init_79 : decode cX7_init 79 = .ok (.putfield 38, 3) := by decide +kernel
theorem dX7_init_82 : decode cX7_init 82 = .ok (.aload_n 0, 1) := by decide +kernel
theorem dX7_init_83 : decode cX7_init 83 = .ok (.bipush 59, 2) := by decide +kernel
theorem dX7_init_85 : decode cX7_init 85 = .ok (.newarray .int, 2) := by decide +kernel
theorem dX7_init_87 : decode cX7_init 87 = .ok (.putfield 41, 3) := by decide +kernel
theorem dX7_init_90 : decode cX7_init 90 = .ok (.iconst 0, 1) := by decide +kernel
theorem dX7_init_91 : decode cX7_init 91 = .ok (.istore_n 1, 1) := by decide +kernel
theorem dX7_init_92 : decode cX7_init 92 = .ok (.iload_n 1, 1) := by decide +kernel
theorem dX7_init_93 : decode cX7_init 93 = .ok (.iconst 4, 1) := by decide +kernel
theorem dX7_init_94 : decode cX7_init 94 = .ok (.if_icmp .ge 17, 3) := by decide +kernel
theorem dX7_init_97 : decode cX7_init 97 = .ok (.aload_n 0, 1) := by decide +kernel
theorem dX7_init_98 : decode cX7_init 98 = .ok (.getfield 32, 3) := by decide +kernel
theorem dX7_init_101 : decode cX7_init 101 = .ok (.iload_n 1, 1) := by decide +kernel
theorem dX7_init_102 : decode cX7_init 102 = .ok (.bipush (-4), 2) := by decide +kernel
theorem dX7_init_104 : decode cX7_init 104 = .ok (.iastore, 1) := by decide +kernel
theorem dX7_init_105 : decode cX7_init 105 = .ok (.iinc 1 1, 3) := by decide +kernel
theorem dX7_init_108 : decode cX7_init 108 = .ok (.goto (-16), 3) := by decide +kernel
theorem dX7_init_111 : decode cX7_init 111 = .ok (.aload_n 0, 1) := by decide +kernel
theorem dX7_init_112 : decode cX7_init 112 = .ok (.invokevirtual 44, 3) := by decide +kernel
theorem dX7_init_115 : decode cX7_init 115 = .ok (.aload_n 0, 1) := by decide +kernel
theorem dX7_init_116 : decode cX7_init 116 = .ok (.invokevirtual 47, 3) := by decide +kernel
theorem dX7_init_119 : decode cX7_init 119 = .ok (.return_, 1) := by decide +kernel
theorem dX7_in_0 : decode cX7_in 0 = .ok (.lload_n 0, 1) := by decide +kernel
theorem dX7_in_1 : decode cX7_in 1 = .ok (.lload_n 2, 1) := by decide +kernel
theorem dX7_in_2 : decode cX7_in 2 = .ok (.lcmp, 1) := by decide +kernel
theorem dX7_in_3 : decode cX7_in 3 = .ok (.ifCond .lt 14, 3) := by decide +kernel
theorem dX7_in_6 : decode cX7_in 6 = .ok (.lload_n 0, 1) := by decide +kernel
theorem dX7_in_7 : decode cX7_in 7 = .ok (.lload 4, 2) := by decide +kernel
theorem dX7_in_9 : decode cX7_in 9 = .ok (.lcmp, 1) := by decide +kernel
theorem dX7_in_10 : decode cX7_in 10 = .ok (.ifCond .gt 7, 3) := by decide +kernel
theorem dX7_in_13 : decode cX7_in 13 = .ok (.iconst 1, 1) := by decide +kernel
theorem dX7_in_14 : decode cX7_in 14 = .ok (.goto 4, 3) := by decide +kernel
theorem dX7_in_17 : decode cX7_in 17 = .ok (.iconst 0, 1) := by decide +kernel
theorem dX7_in_18 : decode cX7_in 18 = .ok (.ireturn, 1) := by decide +kernel
theorem dX7_flag_0 : decode cX7_flag 0 = .ok (.iload_n 0, 1) := by decide +kernel
theorem dX7_flag_1 : decode cX7_flag 1 = .ok (.ifCond .eq 7, 3) := by decide +kernel
theorem dX7_flag_4 : decode cX7_flag 4 = .ok (.iconst 1, 1) := by decide +kernel
theorem dX7_flag_5 : decode cX7_flag 5 = .ok (.goto 4, 3) := by decide +kernel
theorem dX7_flag_8 : decode cX7_flag 8 = .ok (.iconst 0, 1) := by decide +kernel
theorem dX7_flag_9 : decode cX7_flag 9 = .ok (.ireturn, 1) := by decide +kernel
theorem dX7_firstDraft_0 : decode cX7_firstDraft 0 = .ok (.iconst 0, 1) := by decide +kernel
theorem dX7_firstDraft_1 : decode cX7_firstDraft 1 = .ok (.istore_n 1, 1) := by decide +kernel
theorem dX7_firstDraft_2 : decode cX7_firstDraft 2 = .ok (.iload_n 1, 1) := by decide +kernel
theorem dX7_firstDraft_3 : decode cX7_firstDraft 3 = .ok (.bipush 59, 2) := by decide +kernel
theorem dX7_firstDraft_5 : decode cX7_firstDraft 5 = .ok (.if_icmp .ge 16, 3) := by decide +kernel
theorem dX7_firstDraft_8 : decode cX7_firstDraft 8 = .ok (.aload_n 0, 1) := by decide +kernel
theorem dX7_firstDraft_9 : decode cX7_firstDraft 9 = .ok (.getfield 20, 3) := by decide +kernel
theorem dX7_firstDraft_12 : decode cX7_firstDraft 12 = .ok (.iload_n 1, 1) := by decide +kernel
theorem dX7_firstDraft_13 : decode cX7_firstDraft 13 = .ok (.iconst 0, 1) := by decide +kernel
theorem dX7_firstDraft_14 : decode cX7_firstDraft 14 = .ok (.iastore, 1) := by decide +kernel
theorem dX7_firstDraft_15 : decode cX7_firstDraft 15 = .ok (.iinc 1 1, 3) := by decide +kernel
theorem dX7_firstDraft_18 : decode cX7_firstDraft 18 = .ok (.goto (-16), 3) := by decide +kernel
theorem dX7_firstDraft_21 : decode cX7_firstDraft 21 = .ok (.iconst 0, 1) := by decide +kernel
theorem dX7_firstDraft_22 : decode cX7_firstDraft 22 = .ok (.istore_n 1, 1) := by decide +kernel
theorem dX7_firstDraft_23 : decode cX7_firstDraft 23 = .ok (.iload_n 1, 1) := by decide +kernel
theorem dX7_firstDraft_24 : decode cX7_firstDraft 24 = .ok (.iconst 5, 1) := by decide +kernel
theorem dX7_firstDraft_25 : decode cX7_firstDraft 25 = .ok (.if_icmp .ge 19, 3) := by decide +kernel
theorem dX7_firstDraft_28 : decode cX7_firstDraft 28 = .ok (.aload_n 0, 1) := by decide +kernel
theorem dX7_firstDraft_29 : decode cX7_firstDraft 29 = .ok (.getfield 20, 3) := by decide +kernel
theorem dX7_firstDraft_32 : decode cX7_firstDraft 32 = .ok (.bipush 20, 2) := by decide +kernel
theorem dX7_firstDraft_34 : decode cX7_firstDraft 34 = .ok (.iload_n 1, 1) := by decide +kernel
theorem dX7_firstDraft_35 : decode cX7_firstDraft 35 = .ok (.iadd, 1) := by decide +kernel
theorem dX7_firstDraft_36 : decode cX7_firstDraft 36 = .ok (.iload_n 1, 1) := by decide +kernel
theorem dX7_firstDraft_37 : decode cX7_firstDraft 37 = .ok (.iastore, 1) := by decide +kernel
theorem dX7_firstDraft_38 : decode cX7_firstDraft 38 = .ok (.iinc 1 1, 3) := by decide +kernel
theorem dX7_firstDraft_41 : decode cX7_firstDraft 41 = .ok (.goto (-18), 3) := by decide +kernel
theorem dX7_firstDraft_44 : decode cX7_firstDraft 44 = .ok (.aload_n 0, 1) := by decide +kernel
theorem dX7_firstDraft_45 : decode cX7_firstDraft 45 = .ok (.iconst 0, 1) := by decide +kernel
theorem dX7_firstDraft_46 : decode cX7_firstDraft 46 = .ok (.putfield 50, 3) := by decide +kernel
theorem dX7_firstDraft_49 : decode cX7_firstDraft 49 = .ok (.aload_n 0, 1) := by decide +kernel
theorem dX7_firstDraft_50 : decode cX7_firstDraft 50 = .ok (.iconst 0, 1) := by decide +kernel
theorem dX7_firstDraft_51 : decode cX7_firstDraft 51 = .ok (.putfield 54, 3) := by decide +kernel
theorem dX7_firstDraft_54 : decode cX7_firstDraft 54 = .ok (.aload_n 0, 1) := by decide +kernel
theorem dX7_firstDraft_55 : decode cX7_firstDraft 55 = .ok (.iconst 0, 1) := by decide +kernel
theorem dX7_firstDraft_56 : decode cX7_firstDraft 56 = .ok (.putfield 57, 3) := by decide +kernel
theorem dX7_firstDraft_59 : decode cX7_firstDraft 59 = .ok (.aload_n 0, 1) := by decide +kernel
theorem dX7_firstDraft_60 : decode cX7_firstDraft 60 = .ok (.bipush (-4), 2) := by decide +kernel
theorem dX7_firstDraft_62 : decode cX7_firstDraft 62 = .ok (.putfield 61, 3) := by decide +kernel
theorem dX7_firstDraft_65 : decode cX7_firstDraft 65 = .ok (.return_, 1) := by decide +kernel
theorem dX7_keepDraft_0 : decode cX7_keepDraft 0 = .ok (.iconst 0, 1) := by decide +kernel
theorem dX7_keepDraft_1 : decode cX7_keepDraft 1 = .ok (.istore_n 1, 1) := by decide +kernel
theorem dX7_keepDraft_2 : decode cX7_keepDraft 2 = .ok (.iload_n 1, 1) := by decide +kernel
theorem dX7_keepDraft_3 : decode cX7_keepDraft 3 = .ok (.bipush 59, 2) := by decide +kernel
theorem dX7_keepDraft_5 : decode cX7_keepDraft 5 = .ok (.if_icmp .ge 21, 3) := by decide +kernel
theorem dX7_keepDraft_8 : decode cX7_keepDraft 8 = .ok (.aload_n 0, 1) := by decide +kernel
theorem dX7_keepDraft_9 : decode cX7_keepDraft 9 = .ok (.getfield 7, 3) := by decide +kernel
theorem dX7_keepDraft_12 : decode cX7_keepDraft 12 = .ok (.iload_n 1, 1) := by decide +kernel
theorem dX7_keepDraft_13 : decode cX7_keepDraft 13 = .ok (.aload_n 0, 1) := by decide +kernel
theorem dX7_keepDraft_14 : decode cX7_keepDraft 14 = .ok (.getfield 20, 3) := by decide +kernel
theorem dX7_keepDraft_17 : decode cX7_keepDraft 17 = .ok (.iload_n 1, 1) := by decide +kernel
theorem dX7_keepDraft_18 : decode cX7_keepDraft 18 = .ok (.iaload, 1) := by decide +kernel
theorem dX7_keepDraft_19 : decode cX7_keepDraft 19 = .ok (.iastore, 1) := by decide +kernel
theorem dX7_keepDraft_20 : decode cX7_keepDraft 20 = .ok (.iinc 1 1, 3) := by decide +kernel
theorem dX7_keepDraft_23 : decode cX7_keepDraft 23 = .ok (.goto (-21), 3) := by decide +kernel
theorem dX7_keepDraft_26 : decode cX7_keepDraft 26 = .ok (.aload_n 0, 1) := by decide +kernel
theorem dX7_keepDraft_27 : decode cX7_keepDraft 27 = .ok (.aload_n 0, 1) := by decide +kernel
theorem dX7_keepDraft_28 : decode cX7_keepDraft 28 = .ok (.getfield 50, 3) := by decide +kernel
theorem dX7_keepDraft_31 : decode cX7_keepDraft 31 = .ok (.putfield 64, 3) := by decide +kernel
theorem dX7_keepDraft_34 : decode cX7_keepDraft 34 = .ok (.aload_n 0, 1) := by decide +kernel
theorem dX7_keepDraft_35 : decode cX7_keepDraft 35 = .ok (.getfield 16, 3) := by decide +kernel
theorem dX7_keepDraft_38 : decode cX7_keepDraft 38 = .ok (.iconst 0, 1) := by decide +kernel
theorem dX7_keepDraft_39 : decode cX7_keepDraft 39 = .ok (.iconst 0, 1) := by decide +kernel
theorem dX7_keepDraft_40 : decode cX7_keepDraft 40 = .ok (.bastore, 1) := by decide +kernel
theorem dX7_keepDraft_41 : decode cX7_keepDraft 41 = .ok (.aload_n 0, 1) := by decide +kernel
theorem dX7_keepDraft_42 : decode cX7_keepDraft 42 = .ok (.getfield 16, 3) := by decide +kernel
theorem dX7_keepDraft_45 : decode cX7_keepDraft 45 = .ok (.iconst 1, 1) := by decide +kernel
theorem dX7_keepDraft_46 : decode cX7_keepDraft 46 = .ok (.iconst 0, 1) := by decide +kernel
theorem dX7_keepDraft_47 : decode cX7_keepDraft 47 = .ok (.bastore, 1) := by decide +kernel
theorem dX7_keepDraft_48 : decode cX7_keepDraft 48 = .ok (.return_, 1) := by decide +kernel
theorem dX7_feed_0 : decode cX7_feed 0 = .ok (.iload_n 1, 1) := by decide +kernel
theorem dX7_feed_1 : decode cX7_feed 1 = .ok (.i2l, 1) := by decide +kernel
theorem dX7_feed_2 : decode cX7_feed 2 = .ok (.lconst 0, 1) := by decide +kernel
theorem dX7_feed_3 : decode cX7_feed 3 = .ok (.ldc2_w 67, 3) := by decide +kernel
theorem dX7_feed_6 : decode cX7_feed 6 = .ok (.invokestatic 69, 3) := by decide +kernel
theorem dX7_feed_9 : decode cX7_feed 9 = .ok (.ifCond .ne 5, 3) := by decide +kernel
theorem dX7_feed_12 : decode cX7_feed 12 = .ok (.iconst (-1), 1) := by decide +kernel
theorem dX7_feed_13 : decode cX7_feed 13 = .ok (.ireturn, 1) := by decide +kernel
theorem dX7_feed_14 : decode cX7_feed 14 = .ok (.aload_n 0, 1) := by decide +kernel
theorem dX7_feed_15 : decode cX7_feed 15 = .ok (.getfield 73, 3) := by decide +kernel
theorem dX7_feed_18 : decode cX7_feed 18 = .ok (.sipush 160, 3) := by decide +kernel
theorem dX7_feed_21 : decode cX7_feed 21 = .ok (.if_icmp .ne 6, 3) := by decide +kernel
theorem dX7_feed_24 : decode cX7_feed 24 = .ok (.bipush (-3), 2) := by decide +kernel
theorem dX7_feed_26 : decode cX7_feed 26 = .ok (.ireturn, 1) := by decide +kernel
theorem dX7_feed_27 : decode cX7_feed 27 = .ok (.aload_n 0, 1) := by decide +kernel
theorem dX7_feed_28 : decode cX7_feed 28 = .ok (.getfield 23, 3) := by decide +kernel
theorem dX7_feed_31 : decode cX7_feed 31 = .ok (.aload_n 0, 1) := by decide +kernel
theorem dX7_feed_32 : decode cX7_feed 32 = .ok (.getfield 73, 3) := by decide +kernel
theorem dX7_feed_35 : decode cX7_feed 35 = .ok (.iload_n 1, 1) := by decide +kernel
theorem dX7_feed_36 : decode cX7_feed 36 = .ok (.iastore, 1) := by decide +kernel
theorem dX7_feed_37 : decode cX7_feed 37 = .ok (.aload_n 0, 1) := by decide +kernel
theorem dX7_feed_38 : decode cX7_feed 38 = .ok (.dup, 1) := by decide +kernel
theorem dX7_feed_39 : decode cX7_feed 39 = .ok (.getfield 73, 3) := by decide +kernel
theorem dX7_feed_42 : decode cX7_feed 42 = .ok (.iconst 1, 1) := by decide +kernel
theorem dX7_feed_43 : decode cX7_feed 43 = .ok (.iadd, 1) := by decide +kernel
theorem dX7_feed_44 : decode cX7_feed 44 = .ok (.putfield 73, 3) := by decide +kernel
theorem dX7_feed_47 : decode cX7_feed 47 = .ok (.aload_n 0, 1) := by decide +kernel
theorem dX7_feed_48 : decode cX7_feed 48 = .ok (.getfield 73, 3) := by decide +kernel
theorem dX7_feed_51 : decode cX7_feed 51 = .ok (.ireturn, 1) := by decide +kernel
theorem dX7_end_0 : decode cX7_end 0 = .ok (.iload_n 1, 1) := by decide +kernel
theorem dX7_end_1 : decode cX7_end 1 = .ok (.i2l, 1) := by decide +kernel
theorem dX7_end_2 : decode cX7_end 2 = .ok (.lconst 0, 1) := by decide +kernel
theorem dX7_end_3 : decode cX7_end 3 = .ok (.aload_n 0, 1) := by decide +kernel
theorem dX7_end_4 : decode cX7_end 4 = .ok (.getfield 73, 3) := by decide +kernel
theorem dX7_end_7 : decode cX7_end 7 = .ok (.i2l, 1) := by decide +kernel
theorem dX7_end_8 : decode cX7_end 8 = .ok (.invokestatic 69, 3) := by decide +kernel
theorem dX7_end_11 : decode cX7_end 11 = .ok (.ifCond .ne 5, 3) := by decide +kernel
theorem dX7_end_14 : decode cX7_end 14 = .ok (.iconst (-1), 1) := by decide +kernel
theorem dX7_end_15 : decode cX7_end 15 = .ok (.ireturn, 1) := by decide +kernel
theorem dX7_end_16 : decode cX7_end 16 = .ok (.aload_n 0, 1) := by decide +kernel
theorem dX7_end_17 : decode cX7_end 17 = .ok (.getfield 73, 3) := by decide +kernel
theorem dX7_end_20 : decode cX7_end 20 = .ok (.istore_n 2, 1) := by decide +kernel
theorem dX7_end_21 : decode cX7_end 21 = .ok (.aload_n 0, 1) := by decide +kernel
theorem dX7_end_22 : decode cX7_end 22 = .ok (.iload_n 1, 1) := by decide +kernel
theorem dX7_end_23 : decode cX7_end 23 = .ok (.putfield 73, 3) := by decide +kernel
theorem dX7_end_26 : decode cX7_end 26 = .ok (.iload_n 2, 1) := by decide +kernel
theorem dX7_end_27 : decode cX7_end 27 = .ok (.ireturn, 1) := by decide +kernel
theorem dX7_needs_0 : decode cX7_needs 0 = .ok (.iload_n 1, 1) := by decide +kernel
theorem dX7_needs_1 : decode cX7_needs 1 = .ok (.ifCond .ne 23, 3) := by decide +kernel
theorem dX7_needs_4 : decode cX7_needs 4 = .ok (.aload_n 0, 1) := by decide +kernel
theorem dX7_needs_5 : decode cX7_needs 5 = .ok (.getfield 76, 3) := by decide +kernel
theorem dX7_needs_8 : decode cX7_needs 8 = .ok (.ifCond .ne 16, 3) := by decide +kernel
theorem dX7_needs_11 : decode cX7_needs 11 = .ok (.aload_n 0, 1) := by decide +kernel
theorem dX7_needs_12 : decode cX7_needs 12 = .ok (.iload_n 2, 1) := by decide +kernel
theorem dX7_needs_13 : decode cX7_needs 13 = .ok (.putfield 76, 3) := by decide +kernel
theorem dX7_needs_16 : decode cX7_needs 16 = .ok (.aload_n 0, 1) := by decide +kernel
theorem dX7_needs_17 : decode cX7_needs 17 = .ok (.aload_n 0, 1) := by decide +kernel
theorem dX7_needs_18 : decode cX7_needs 18 = .ok (.getfield 79, 3) := by decide +kernel
theorem dX7_needs_21 : decode cX7_needs 21 = .ok (.putfield 82, 3) := by decide +kernel
theorem dX7_needs_24 : decode cX7_needs 24 = .ok (.return_, 1) := by decide +kernel
theorem dX7_byteAt_0 : decode cX7_byteAt 0 = .ok (.iload_n 1, 1) := by decide +kernel
theorem dX7_byteAt_1 : decode cX7_byteAt 1 = .ok (.aload_n 0, 1) := by decide +kernel
theorem dX7_byteAt_2 : decode cX7_byteAt 2 = .ok (.getfield 73, 3) := by decide +kernel
theorem dX7_byteAt_5 : decode cX7_byteAt 5 = .ok (.if_icmp .ge 12, 3) := by decide +kernel
theorem dX7_byteAt_8 : decode cX7_byteAt 8 = .ok (.aload_n 0, 1) := by decide +kernel
theorem dX7_byteAt_9 : decode cX7_byteAt 9 = .ok (.getfield 23, 3) := by decide +kernel
theorem dX7_byteAt_12 : decode cX7_byteAt 12 = .ok (.iload_n 1, 1) := by decide +kernel
theorem dX7_byteAt_13 : decode cX7_byteAt 13 = .ok (.iaload, 1) := by decide +kernel
theorem dX7_byteAt_14 : decode cX7_byteAt 14 = .ok (.goto 4, 3) := by decide +kernel
theorem dX7_byteAt_17 : decode cX7_byteAt 17 = .ok (.iconst (-1), 1) := by decide +kernel
theorem dX7_byteAt_18 : decode cX7_byteAt 18 = .ok (.ireturn, 1) := by decide +kernel
theorem dX7_is_0 : decode cX7_is 0 = .ok (.aload_n 0, 1) := by decide +kernel
theorem dX7_is_1 : decode cX7_is 1 = .ok (.getfield 85, 3) := by decide +kernel
theorem dX7_is_4 : decode cX7_is 4 = .ok (.aload_n 0, 1) := by decide +kernel
theorem dX7_is_5 : decode cX7_is 5 = .ok (.getfield 79, 3) := by decide +kernel
theorem dX7_is_8 : decode cX7_is 8 = .ok (.isub, 1) := by decide +kernel
theorem dX7_is_9 : decode cX7_is 9 = .ok (.iload_n 1, 1) := by decide +kernel
theorem dX7_is_10 : decode cX7_is 10 = .ok (.if_icmp .ne 33, 3) := by decide +kernel
theorem dX7_is_13 : decode cX7_is 13 = .ok (.aload_n 0, 1) := by decide +kernel
theorem dX7_is_14 : decode cX7_is 14 = .ok (.aload_n 0, 1) := by decide +kernel
theorem dX7_is_15 : decode cX7_is 15 = .ok (.getfield 79, 3) := by decide +kernel
theorem dX7_is_18 : decode cX7_is 18 = .ok (.invokevirtual 88, 3) := by decide +kernel
theorem dX7_is_21 : decode cX7_is 21 = .ok (.iload_n 2, 1) := by decide +kernel
theorem dX7_is_22 : decode cX7_is 22 = .ok (.if_icmp .ne 21, 3) := by decide +kernel
theorem dX7_is_25 : decode cX7_is 25 = .ok (.aload_n 0, 1) := by decide +kernel
theorem dX7_is_26 : decode cX7_is 26 = .ok (.aload_n 0, 1) := by decide +kernel
theorem dX7_is_27 : decode cX7_is 27 = .ok (.getfield 79, 3) := by decide +kernel
theorem dX7_is_30 : decode cX7_is 30 = .ok (.iconst 1, 1) := by decide +kernel
theorem dX7_is_31 : decode cX7_is 31 = .ok (.iadd, 1) := by decide +kernel
theorem dX7_is_32 : decode cX7_is 32 = .ok (.invokevirtual 88, 3) := by decide +kernel
theorem dX7_is_35 : decode cX7_is 35 = .ok (.iload_n 3, 1) := by decide +kernel
theorem dX7_is_36 : decode cX7_is 36 = .ok (.if_icmp .ne 7, 3) := by decide +kernel
theorem dX7_is_39 : decode cX7_is 39 = .ok (.iconst 1, 1) := by decide +kernel
theorem dX7_is_40 : decode cX7_is 40 = .ok (.goto 4, 3) := by decide +kernel
theorem dX7_is_43 : decode cX7_is 43 = .ok (.iconst 0, 1) := by decide +kernel
theorem dX7_is_44 : decode cX7_is 44 = .ok (.ireturn, 1) := by decide +kernel
theorem dX7_ends_0 : decode cX7_ends 0 = .ok (.aload_n 0, 1) := by decide +kernel
theorem dX7_ends_1 : decode cX7_ends 1 = .ok (.aload_n 0, 1) := by decide +kernel
theorem dX7_ends_2 : decode cX7_ends 2 = .ok (.getfield 79, 3) := by decide +kernel
theorem dX7_ends_5 : decode cX7_ends 5 = .ok (.iconst 2, 1) := by decide +kernel
theorem dX7_ends_6 : decode cX7_ends 6 = .ok (.iadd, 1) := by decide +kernel
theorem dX7_ends_7 : decode cX7_ends 7 = .ok (.invokevirtual 88, 3) := by decide +kernel
theorem dX7_ends_10 : decode cX7_ends 10 = .ok (.iload_n 1, 1) := by decide +kernel
theorem dX7_ends_11 : decode cX7_ends 11 = .ok (.if_icmp .ne 84, 3) := by decide +kernel
theorem dX7_ends_14 : decode cX7_ends 14 = .ok (.iload_n 2, 1) := by decide +kernel
theorem dX7_ends_15 : decode cX7_ends 15 = .ok (.ifCond .eq 17, 3) := by decide +kernel
theorem dX7_ends_18 : decode cX7_ends 18 = .ok (.aload_n 0, 1) := by decide +kernel
theorem dX7_ends_19 : decode cX7_ends 19 = .ok (.aload_n 0, 1) := by decide +kernel
theorem dX7_ends_20 : decode cX7_ends 20 = .ok (.getfield 79, 3) := by decide +kernel
theorem dX7_ends_23 : decode cX7_ends 23 = .ok (.iconst 3, 1) := by decide +kernel
theorem dX7_ends_24 : decode cX7_ends 24 = .ok (.iadd, 1) := by decide +kernel
theorem dX7_ends_25 : decode cX7_ends 25 = .ok (.invokevirtual 88, 3) := by decide +kernel
theorem dX7_ends_28 : decode cX7_ends 28 = .ok (.iload_n 2, 1) := by decide +kernel
theorem dX7_ends_29 : decode cX7_ends 29 = .ok (.if_icmp .ne 66, 3) := by decide +kernel
theorem dX7_ends_32 : decode cX7_ends 32 = .ok (.iload_n 3, 1) := by decide +kernel
theorem dX7_ends_33 : decode cX7_ends 33 = .ok (.ifCond .eq 17, 3) := by decide +kernel
theorem dX7_ends_36 : decode cX7_ends 36 = .ok (.aload_n 0, 1) := by decide +kernel
theorem dX7_ends_37 : decode cX7_ends 37 = .ok (.aload_n 0, 1) := by decide +kernel
theorem dX7_ends_38 : decode cX7_ends 38 = .ok (.getfield 79, 3) := by decide +kernel
theorem dX7_ends_41 : decode cX7_ends 41 = .ok (.iconst 4, 1) := by decide +kernel
theorem dX7_ends_42 : decode cX7_ends 42 = .ok (.iadd, 1) := by decide +kernel
theorem dX7_ends_43 : decode cX7_ends 43 = .ok (.invokevirtual 88, 3) := by decide +kernel
theorem dX7_ends_46 : decode cX7_ends 46 = .ok (.iload_n 3, 1) := by decide +kernel
theorem dX7_ends_47 : decode cX7_ends 47 = .ok (.if_icmp .ne 48, 3) := by decide +kernel
theorem dX7_ends_50 : decode cX7_ends 50 = .ok (.iload 4, 2) := by decide +kernel
theorem dX7_ends_52 : decode cX7_ends 52 = .ok (.ifCond .eq 18, 3) := by decide +kernel
theorem dX7_ends_55 : decode cX7_ends 55 = .ok (.aload_n 0, 1) := by decide +kernel
theorem dX7_ends_56 : decode cX7_ends 56 = .ok (.aload_n 0, 1) := by decide +kernel
theorem dX7_ends_57 : decode cX7_ends 57 = .ok (.getfield 79, 3) := by decide +kernel
theorem dX7_ends_60 : decode cX7_ends 60 = .ok (.iconst 5, 1) := by decide +kernel
theorem dX7_ends_61 : decode cX7_ends 61 = .ok (.iadd, 1) := by decide +kernel
theorem dX7_ends_62 : decode cX7_ends 62 = .ok (.invokevirtual 88, 3) := by decide +kernel
theorem dX7_ends_65 : decode cX7_ends 65 = .ok (.iload 4, 2) := by decide +kernel
theorem dX7_ends_67 : decode cX7_ends 67 = .ok (.if_icmp .ne 28, 3) := by decide +kernel
theorem dX7_ends_70 : decode cX7_ends 70 = .ok (.iload 5, 2) := by decide +kernel
theorem dX7_ends_72 : decode cX7_ends 72 = .ok (.ifCond .eq 19, 3) := by decide +kernel
theorem dX7_ends_75 : decode cX7_ends 75 = .ok (.aload_n 0, 1) := by decide +kernel
theorem dX7_ends_76 : decode cX7_ends 76 = .ok (.aload_n 0, 1) := by decide +kernel
theorem dX7_ends_77 : decode cX7_ends 77 = .ok (.getfield 79, 3) := by decide +kernel
theorem dX7_ends_80 : decode cX7_ends 80 = .ok (.bipush 6, 2) := by decide +kernel
theorem dX7_ends_82 : decode cX7_ends 82 = .ok (.iadd, 1) := by decide +kernel
theorem dX7_ends_83 : decode cX7_ends 83 = .ok (.invokevirtual 88, 3) := by decide +kernel
theorem dX7_ends_86 : decode cX7_ends 86 = .ok (.iload 5, 2) := by decide +kernel
theorem dX7_ends_88 : decode cX7_ends 88 = .ok (.if_icmp .ne 7, 3) := by decide +kernel
theorem dX7_ends_91 : decode cX7_ends 91 = .ok (.iconst 1, 1) := by decide +kernel
theorem dX7_ends_92 : decode cX7_ends 92 = .ok (.goto 4, 3) := by decide +kernel
theorem dX7_ends_95 : decode cX7_ends 95 = .ok (.iconst 0, 1) := by decide +kernel
theorem dX7_ends_96 : decode cX7_ends 96 = .ok (.ireturn, 1) := by decide +kernel
theorem dX7_lineNow_0 : decode cX7_lineNow 0 = .ok (.aload_n 0, 1) := by decide +kernel
theorem dX7_lineNow_1 : decode cX7_lineNow 1 = .ok (.iconst 5, 1) := by decide +kernel
theorem dX7_lineNow_2 : decode cX7_lineNow 2 = .ok (.bipush 112, 2) := by decide +kernel
theorem dX7_lineNow_4 : decode cX7_lineNow 4 = .ok (.bipush 108, 2) := by decide +kernel
theorem dX7_lineNow_6 : decode cX7_lineNow 6 = .ok (.invokevirtual 92, 3) := by decide +kernel
theorem dX7_lineNow_9 : decode cX7_lineNow 9 = .ok (.ifCond .eq 20, 3) := by decide +kernel
theorem dX7_lineNow_12 : decode cX7_lineNow 12 = .ok (.aload_n 0, 1) := by decide +kernel
theorem dX7_lineNow_13 : decode cX7_lineNow 13 = .ok (.bipush 97, 2) := by decide +kernel
theorem dX7_lineNow_15 : decode cX7_lineNow 15 = .ok (.bipush 105, 2) := by decide +kernel
theorem dX7_lineNow_17 : decode cX7_lineNow 17 = .ok (.bipush 110, 2) := by decide +kernel
theorem dX7_lineNow_19 : decode cX7_lineNow 19 = .ok (.iconst 0, 1) := by decide +kernel
theorem dX7_lineNow_20 : decode cX7_lineNow 20 = .ok (.iconst 0, 1) := by decide +kernel
theorem dX7_lineNow_21 : decode cX7_lineNow 21 = .ok (.invokevirtual 96, 3) := by decide +kernel
theorem dX7_lineNow_24 : decode cX7_lineNow 24 = .ok (.ifCond .eq 5, 3) := by decide +kernel
theorem dX7_lineNow_27 : decode cX7_lineNow 27 = .ok (.iconst 0, 1) := by decide +kernel
theorem dX7_lineNow_28 : decode cX7_lineNow 28 = .ok (.ireturn, 1) := by decide +kernel
theorem dX7_lineNow_29 : decode cX7_lineNow 29 = .ok (.aload_n 0, 1) := by decide +kernel
theorem dX7_lineNow_30 : decode cX7_lineNow 30 = .ok (.bipush 6, 2) := by decide +kernel
theorem dX7_lineNow_32 : decode cX7_lineNow 32 = .ok (.bipush 98, 2) := by decide +kernel
theorem dX7_lineNow_34 : decode cX7_lineNow 34 = .ok (.bipush 111, 2) := by decide +kernel
theorem dX7_lineNow_36 : decode cX7_lineNow 36 = .ok (.invokevirtual 92, 3) := by decide +kernel
theorem dX7_lineNow_39 : decode cX7_lineNow 39 = .ok (.ifCond .eq 21, 3) := by decide +kernel
theorem dX7_lineNow_42 : decode cX7_lineNow 42 = .ok (.aload_n 0, 1) := by decide +kernel
theorem dX7_lineNow_43 : decode cX7_lineNow 43 = .ok (.bipush 111, 2) := by decide +kernel
theorem dX7_lineNow_45 : decode cX7_lineNow 45 = .ok (.bipush 116, 2) := by decide +kernel
theorem dX7_lineNow_47 : decode cX7_lineNow 47 = .ok (.bipush 101, 2) := by decide +kernel
theorem dX7_lineNow_49 : decode cX7_lineNow 49 = .ok (.bipush 100, 2) := by decide +kernel
theorem dX7_lineNow_51 : decode cX7_lineNow 51 = .ok (.iconst 0, 1) := by decide +kernel
theorem dX7_lineNow_52 : decode cX7_lineNow 52 = .ok (.invokevirtual 96, 3) := by decide +kernel
theorem dX7_lineNow_55 : decode cX7_lineNow 55 = .ok (.ifCond .eq 5, 3) := by decide +kernel
theorem dX7_lineNow_58 : decode cX7_lineNow 58 = .ok (.iconst 1, 1) := by decide +kernel
theorem dX7_lineNow_59 : decode cX7_lineNow 59 = .ok (.ireturn, 1) := by decide +kernel
theorem dX7_lineNow_60 : decode cX7_lineNow 60 = .ok (.aload_n 0, 1) := by decide +kernel
theorem dX7_lineNow_61 : decode cX7_lineNow 61 = .ok (.iconst 4, 1) := by decide +kernel
theorem dX7_lineNow_62 : decode cX7_lineNow 62 = .ok (.bipush 98, 2) := by decide +kernel
theorem dX7_lineNow_64 : decode cX7_lineNow 64 = .ok (.bipush 101, 2) := by decide +kernel
theorem dX7_lineNow_66 : decode cX7_lineNow 66 = .ok (.invokevirtual 92, 3) := by decide +kernel
theorem dX7_lineNow_69 : decode cX7_lineNow 69 = .ok (.ifCond .eq 19, 3) := by decide +kernel
theorem dX7_lineNow_72 : decode cX7_lineNow 72 = .ok (.aload_n 0, 1) := by decide +kernel
theorem dX7_lineNow_73 : decode cX7_lineNow 73 = .ok (.bipush 110, 2) := by decide +kernel
theorem dX7_lineNow_75 : decode cX7_lineNow 75 = .ok (.bipush 116, 2) := by decide +kernel
theorem dX7_lineNow_77 : decode cX7_lineNow 77 = .ok (.iconst 0, 1) := by decide +kernel
theorem dX7_lineNow_78 : decode cX7_lineNow 78 = .ok (.iconst 0, 1) := by decide +kernel
theorem dX7_lineNow_79 : decode cX7_lineNow 79 = .ok (.iconst 0, 1) := by decide +kernel
theorem dX7_lineNow_80 : decode cX7_lineNow 80 = .ok (.invokevirtual 96, 3) := by decide +kernel
theorem dX7_lineNow_83 : decode cX7_lineNow 83 = .ok (.ifCond .eq 5, 3) := by decide +kernel
theorem dX7_lineNow_86 : decode cX7_lineNow 86 = .ok (.iconst 2, 1) := by decide +kernel
theorem dX7_lineNow_87 : decode cX7_lineNow 87 = .ok (.ireturn, 1) := by decide +kernel
theorem dX7_lineNow_88 : decode cX7_lineNow 88 = .ok (.aload_n 0, 1) := by decide +kernel
theorem dX7_lineNow_89 : decode cX7_lineNow 89 = .ok (.bipush 6, 2) := by decide +kernel
theorem dX7_lineNow_91 : decode cX7_lineNow 91 = .ok (.bipush 104, 2) := by decide +kernel
theorem dX7_lineNow_93 : decode cX7_lineNow 93 = .ok (.bipush 101, 2) := by decide +kernel
theorem dX7_lineNow_95 : decode cX7_lineNow 95 = .ok (.invokevirtual 92, 3) := by decide +kernel
theorem dX7_lineNow_98 : decode cX7_lineNow 98 = .ok (.ifCond .eq 21, 3) := by decide +kernel
theorem dX7_lineNow_101 : decode cX7_lineNow 101 = .ok (.aload_n 0, 1) := by decide +kernel
theorem dX7_lineNow_102 : decode cX7_lineNow 102 = .ok (.bipush 97, 2) := by decide +kernel
theorem dX7_lineNow_104 : decode cX7_lineNow 104 = .ok (.bipush 114, 2) := by decide +kernel
theorem dX7_lineNow_106 : decode cX7_lineNow 106 = .ok (.bipush 116, 2) := by decide +kernel
theorem dX7_lineNow_108 : decode cX7_lineNow 108 = .ok (.bipush 104, 2) := by decide +kernel
theorem dX7_lineNow_110 : decode cX7_lineNow 110 = .ok (.iconst 0, 1) := by decide +kernel
theorem dX7_lineNow_111 : decode cX7_lineNow 111 = .ok (.invokevirtual 96, 3) := by decide +kernel
theorem dX7_lineNow_114 : decode cX7_lineNow 114 = .ok (.ifCond .eq 5, 3) := by decide +kernel
theorem dX7_lineNow_117 : decode cX7_lineNow 117 = .ok (.iconst 3, 1) := by decide +kernel
theorem dX7_lineNow_118 : decode cX7_lineNow 118 = .ok (.ireturn, 1) := by decide +kernel
theorem dX7_lineNow_119 : decode cX7_lineNow 119 = .ok (.aload_n 0, 1) := by decide +kernel
theorem dX7_lineNow_120 : decode cX7_lineNow 120 = .ok (.bipush 7, 2) := by decide +kernel
theorem dX7_lineNow_122 : decode cX7_lineNow 122 = .ok (.bipush 99, 2) := by decide +kernel
theorem dX7_lineNow_124 : decode cX7_lineNow 124 = .ok (.bipush 111, 2) := by decide +kernel
theorem dX7_lineNow_126 : decode cX7_lineNow 126 = .ok (.invokevirtual 92, 3) := by decide +kernel
theorem dX7_lineNow_129 : decode cX7_lineNow 129 = .ok (.ifCond .eq 24, 3) := by decide +kernel
theorem dX7_lineNow_132 : decode cX7_lineNow 132 = .ok (.aload_n 0, 1) := by decide +kernel
theorem dX7_lineNow_133 : decode cX7_lineNow 133 = .ok (.bipush 117, 2) := by decide +kernel
theorem dX7_lineNow_135 : decode cX7_lineNow 135 = .ok (.bipush 115, 2) := by decide +kernel
theorem dX7_lineNow_137 : decode cX7_lineNow 137 = .ok (.bipush 105, 2) := by decide +kernel
theorem dX7_lineNow_139 : decode cX7_lineNow 139 = .ok (.bipush 110, 2) := by decide +kernel
theorem dX7_lineNow_141 : decode cX7_lineNow 141 = .ok (.bipush 115, 2) := by decide +kernel
theorem dX7_lineNow_143 : decode cX7_lineNow 143 = .ok (.invokevirtual 96, 3) := by decide +kernel
theorem dX7_lineNow_146 : decode cX7_lineNow 146 = .ok (.ifCond .eq 7, 3) := by decide +kernel
theorem dX7_lineNow_149 : decode cX7_lineNow 149 = .ok (.iconst 4, 1) := by decide +kernel
theorem dX7_lineNow_150 : decode cX7_lineNow 150 = .ok (.goto 39, 3) := by decide +kernel
theorem dX7_lineNow_153 : decode cX7_lineNow 153 = .ok (.aload_n 0, 1) := by decide +kernel
theorem dX7_lineNow_154 : decode cX7_lineNow 154 = .ok (.bipush 7, 2) := by decide +kernel
theorem dX7_lineNow_156 : decode cX7_lineNow 156 = .ok (.bipush 112, 2) := by decide +kernel
theorem dX7_lineNow_158 : decode cX7_lineNow 158 = .ok (.bipush 114, 2) := by decide +kernel
theorem dX7_lineNow_160 : decode cX7_lineNow 160 = .ok (.invokevirtual 92, 3) := by decide +kernel
theorem dX7_lineNow_163 : decode cX7_lineNow 163 = .ok (.ifCond .eq 24, 3) := by decide +kernel
theorem dX7_lineNow_166 : decode cX7_lineNow 166 = .ok (.aload_n 0, 1) := by decide +kernel
theorem dX7_lineNow_167 : decode cX7_lineNow 167 = .ok (.bipush 111, 2) := by decide +kernel
theorem dX7_lineNow_169 : decode cX7_lineNow 169 = .ok (.bipush 103, 2) := by decide +kernel
theorem dX7_lineNow_171 : decode cX7_lineNow 171 = .ok (.bipush 114, 2) := by decide +kernel
theorem dX7_lineNow_173 : decode cX7_lineNow 173 = .ok (.bipush 97, 2) := by decide +kernel
theorem dX7_lineNow_175 : decode cX7_lineNow 175 = .ok (.bipush 109, 2) := by decide +kernel
theorem dX7_lineNow_177 : decode cX7_lineNow 177 = .ok (.invokevirtual 96, 3) := by decide +kernel
theorem dX7_lineNow_180 : decode cX7_lineNow 180 = .ok (.ifCond .eq 7, 3) := by decide +kernel
theorem dX7_lineNow_183 : decode cX7_lineNow 183 = .ok (.iconst 5, 1) := by decide +kernel
theorem dX7_lineNow_184 : decode cX7_lineNow 184 = .ok (.goto 5, 3) := by decide +kernel
theorem dX7_lineNow_187 : decode cX7_lineNow 187 = .ok (.bipush (-4), 2) := by decide +kernel
theorem dX7_lineNow_189 : decode cX7_lineNow 189 = .ok (.ireturn, 1) := by decide +kernel
theorem dX7_figureNow_0 : decode cX7_figureNow 0 = .ok (.aload_n 0, 1) := by decide +kernel
theorem dX7_figureNow_1 : decode cX7_figureNow 1 = .ok (.iconst 2, 1) := by decide +kernel
theorem dX7_figureNow_2 : decode cX7_figureNow 2 = .ok (.bipush 117, 2) := by decide +kernel
theorem dX7_figureNow_4 : decode cX7_figureNow 4 = .ok (.bipush 112, 2) := by decide +kernel
theorem dX7_figureNow_6 : decode cX7_figureNow 6 = .ok (.invokevirtual 92, 3) := by decide +kernel
theorem dX7_figureNow_9 : decode cX7_figureNow 9 = .ok (.ifCond .eq 5, 3) := by decide +kernel
theorem dX7_figureNow_12 : decode cX7_figureNow 12 = .ok (.iconst 0, 1) := by decide +kernel
theorem dX7_figureNow_13 : decode cX7_figureNow 13 = .ok (.ireturn, 1) := by decide +kernel
theorem dX7_figureNow_14 : decode cX7_figureNow 14 = .ok (.aload_n 0, 1) := by decide +kernel
theorem dX7_figureNow_15 : decode cX7_figureNow 15 = .ok (.iconst 4, 1) := by decide +kernel
theorem dX7_figureNow_16 : decode cX7_figureNow 16 = .ok (.bipush 100, 2) := by decide +kernel
theorem dX7_figureNow_18 : decode cX7_figureNow 18 = .ok (.bipush 111, 2) := by decide +kernel
theorem dX7_figureNow_20 : decode cX7_figureNow 20 = .ok (.invokevirtual 92, 3) := by decide +kernel
theorem dX7_figureNow_23 : decode cX7_figureNow 23 = .ok (.ifCond .eq 19, 3) := by decide +kernel
theorem dX7_figureNow_26 : decode cX7_figureNow 26 = .ok (.aload_n 0, 1) := by decide +kernel
theorem dX7_figureNow_27 : decode cX7_figureNow 27 = .ok (.bipush 119, 2) := by decide +kernel
theorem dX7_figureNow_29 : decode cX7_figureNow 29 = .ok (.bipush 110, 2) := by decide +kernel
theorem dX7_figureNow_31 : decode cX7_figureNow 31 = .ok (.iconst 0, 1) := by decide +kernel
theorem dX7_figureNow_32 : decode cX7_figureNow 32 = .ok (.iconst 0, 1) := by decide +kernel
theorem dX7_figureNow_33 : decode cX7_figureNow 33 = .ok (.iconst 0, 1) := by decide +kernel
theorem dX7_figureNow_34 : decode cX7_figureNow 34 = .ok (.invokevirtual 96, 3) := by decide +kernel
theorem dX7_figureNow_37 : decode cX7_figureNow 37 = .ok (.ifCond .eq 5, 3) := by decide +kernel
theorem dX7_figureNow_40 : decode cX7_figureNow 40 = .ok (.iconst 1, 1) := by decide +kernel
theorem dX7_figureNow_41 : decode cX7_figureNow 41 = .ok (.ireturn, 1) := by decide +kernel
theorem dX7_figureNow_42 : decode cX7_figureNow 42 = .ok (.aload_n 0, 1) := by decide +kernel
theorem dX7_figureNow_43 : decode cX7_figureNow 43 = .ok (.iconst 5, 1) := by decide +kernel
theorem dX7_figureNow_44 : decode cX7_figureNow 44 = .ok (.bipush 119, 2) := by decide +kernel
theorem dX7_figureNow_46 : decode cX7_figureNow 46 = .ok (.bipush 97, 2) := by decide +kernel
theorem dX7_figureNow_48 : decode cX7_figureNow 48 = .ok (.invokevirtual 92, 3) := by decide +kernel
theorem dX7_figureNow_51 : decode cX7_figureNow 51 = .ok (.ifCond .eq 22, 3) := by decide +kernel
theorem dX7_figureNow_54 : decode cX7_figureNow 54 = .ok (.aload_n 0, 1) := by decide +kernel
theorem dX7_figureNow_55 : decode cX7_figureNow 55 = .ok (.bipush 108, 2) := by decide +kernel
theorem dX7_figureNow_57 : decode cX7_figureNow 57 = .ok (.bipush 116, 2) := by decide +kernel
theorem dX7_figureNow_59 : decode cX7_figureNow 59 = .ok (.bipush 122, 2) := by decide +kernel
theorem dX7_figureNow_61 : decode cX7_figureNow 61 = .ok (.iconst 0, 1) := by decide +kernel
theorem dX7_figureNow_62 : decode cX7_figureNow 62 = .ok (.iconst 0, 1) := by decide +kernel
theorem dX7_figureNow_63 : decode cX7_figureNow 63 = .ok (.invokevirtual 96, 3) := by decide +kernel
theorem dX7_figureNow_66 : decode cX7_figureNow 66 = .ok (.ifCond .eq 7, 3) := by decide +kernel
theorem dX7_figureNow_69 : decode cX7_figureNow 69 = .ok (.iconst 2, 1) := by decide +kernel
theorem dX7_figureNow_70 : decode cX7_figureNow 70 = .ok (.goto 38, 3) := by decide +kernel
theorem dX7_figureNow_73 : decode cX7_figureNow 73 = .ok (.aload_n 0, 1) := by decide +kernel
theorem dX7_figureNow_74 : decode cX7_figureNow 74 = .ok (.bipush 6, 2) := by decide +kernel
theorem dX7_figureNow_76 : decode cX7_figureNow 76 = .ok (.bipush 109, 2) := by decide +kernel
theorem dX7_figureNow_78 : decode cX7_figureNow 78 = .ok (.bipush 105, 2) := by decide +kernel
theorem dX7_figureNow_80 : decode cX7_figureNow 80 = .ok (.invokevirtual 92, 3) := by decide +kernel
theorem dX7_figureNow_83 : decode cX7_figureNow 83 = .ok (.ifCond .eq 23, 3) := by decide +kernel
theorem dX7_figureNow_86 : decode cX7_figureNow 86 = .ok (.aload_n 0, 1) := by decide +kernel
theorem dX7_figureNow_87 : decode cX7_figureNow 87 = .ok (.bipush 114, 2) := by decide +kernel
theorem dX7_figureNow_89 : decode cX7_figureNow 89 = .ok (.bipush 114, 2) := by decide +kernel
theorem dX7_figureNow_91 : decode cX7_figureNow 91 = .ok (.bipush 111, 2) := by decide +kernel
theorem dX7_figureNow_93 : decode cX7_figureNow 93 = .ok (.bipush 114, 2) := by decide +kernel
theorem dX7_figureNow_95 : decode cX7_figureNow 95 = .ok (.iconst 0, 1) := by decide +kernel
theorem dX7_figureNow_96 : decode cX7_figureNow 96 = .ok (.invokevirtual 96, 3) := by decide +kernel
theorem dX7_figureNow_99 : decode cX7_figureNow 99 = .ok (.ifCond .eq 7, 3) := by decide +kernel
theorem dX7_figureNow_102 : decode cX7_figureNow 102 = .ok (.iconst 3, 1) := by decide +kernel
theorem dX7_figureNow_103 : decode cX7_figureNow 103 = .ok (.goto 5, 3) := by decide +kernel
theorem dX7_figureNow_106 : decode cX7_figureNow 106 = .ok (.bipush (-4), 2) := by decide +kernel
theorem dX7_figureNow_108 : decode cX7_figureNow 108 = .ok (.ireturn, 1) := by decide +kernel
theorem dX7_next_0 : decode cX7_next 0 = .ok (.aload_n 0, 1) := by decide +kernel
theorem dX7_next_1 : decode cX7_next 1 = .ok (.getfield 76, 3) := by decide +kernel
theorem dX7_next_4 : decode cX7_next 4 = .ok (.ifCond .le 4, 3) := by decide +kernel
theorem dX7_next_7 : decode cX7_next 7 = .ok (.return_, 1) := by decide +kernel
theorem dX7_next_8 : decode cX7_next 8 = .ok (.aload_n 0, 1) := by decide +kernel
theorem dX7_next_9 : decode cX7_next 9 = .ok (.aload_n 0, 1) := by decide +kernel
theorem dX7_next_10 : decode cX7_next 10 = .ok (.getfield 85, 3) := by decide +kernel
theorem dX7_next_13 : decode cX7_next 13 = .ok (.invokevirtual 88, 3) := by decide +kernel
theorem dX7_next_16 : decode cX7_next 16 = .ok (.bipush 32, 2) := by decide +kernel
theorem dX7_next_18 : decode cX7_next 18 = .ok (.if_icmp .ne 16, 3) := by decide +kernel
theorem dX7_next_21 : decode cX7_next 21 = .ok (.aload_n 0, 1) := by decide +kernel
theorem dX7_next_22 : decode cX7_next 22 = .ok (.dup, 1) := by decide +kernel
theorem dX7_next_23 : decode cX7_next 23 = .ok (.getfield 85, 3) := by decide +kernel
theorem dX7_next_26 : decode cX7_next 26 = .ok (.iconst 1, 1) := by decide +kernel
theorem dX7_next_27 : decode cX7_next 27 = .ok (.iadd, 1) := by decide +kernel
theorem dX7_next_28 : decode cX7_next 28 = .ok (.putfield 85, 3) := by decide +kernel
theorem dX7_next_31 : decode cX7_next 31 = .ok (.goto (-23), 3) := by decide +kernel
theorem dX7_next_34 : decode cX7_next 34 = .ok (.aload_n 0, 1) := by decide +kernel
theorem dX7_next_35 : decode cX7_next 35 = .ok (.aload_n 0, 1) := by decide +kernel
theorem dX7_next_36 : decode cX7_next 36 = .ok (.getfield 85, 3) := by decide +kernel
theorem dX7_next_39 : decode cX7_next 39 = .ok (.putfield 79, 3) := by decide +kernel
theorem dX7_next_42 : decode cX7_next 42 = .ok (.aload_n 0, 1) := by decide +kernel
theorem dX7_next_43 : decode cX7_next 43 = .ok (.aload_n 0, 1) := by decide +kernel
theorem dX7_next_44 : decode cX7_next 44 = .ok (.getfield 85, 3) := by decide +kernel
theorem dX7_next_47 : decode cX7_next 47 = .ok (.invokevirtual 88, 3) := by decide +kernel
theorem dX7_next_50 : decode cX7_next 50 = .ok (.istore_n 1, 1) := by decide +kernel
theorem dX7_next_51 : decode cX7_next 51 = .ok (.iload_n 1, 1) := by decide +kernel
theorem dX7_next_52 : decode cX7_next 52 = .ok (.ifCond .ge 11, 3) := by decide +kernel
theorem dX7_next_55 : decode cX7_next 55 = .ok (.aload_n 0, 1) := by decide +kernel
theorem dX7_next_56 : decode cX7_next 56 = .ok (.iconst 0, 1) := by decide +kernel
theorem dX7_next_57 : decode cX7_next 57 = .ok (.putfield 100, 3) := by decide +kernel
theorem dX7_next_60 : decode cX7_next 60 = .ok (.goto 214, 3) := by decide +kernel
theorem dX7_next_63 : decode cX7_next 63 = .ok (.iload_n 1, 1) := by decide +kernel
theorem dX7_next_64 : decode cX7_next 64 = .ok (.i2l, 1) := by decide +kernel
theorem dX7_next_65 : decode cX7_next 65 = .ok (.ldc2_w 103, 3) := by decide +kernel
theorem dX7_next_68 : decode cX7_next 68 = .ok (.ldc2_w 105, 3) := by decide +kernel
theorem dX7_next_71 : decode cX7_next 71 = .ok (.invokestatic 69, 3) := by decide +kernel
theorem dX7_next_74 : decode cX7_next 74 = .ok (.ifCond .eq 42, 3) := by decide +kernel
theorem dX7_next_77 : decode cX7_next 77 = .ok (.aload_n 0, 1) := by decide +kernel
theorem dX7_next_78 : decode cX7_next 78 = .ok (.iconst 1, 1) := by decide +kernel
theorem dX7_next_79 : decode cX7_next 79 = .ok (.putfield 100, 3) := by decide +kernel
theorem dX7_next_82 : decode cX7_next 82 = .ok (.aload_n 0, 1) := by decide +kernel
theorem dX7_next_83 : decode cX7_next 83 = .ok (.aload_n 0, 1) := by decide +kernel
theorem dX7_next_84 : decode cX7_next 84 = .ok (.getfield 85, 3) := by decide +kernel
theorem dX7_next_87 : decode cX7_next 87 = .ok (.invokevirtual 88, 3) := by decide +kernel
theorem dX7_next_90 : decode cX7_next 90 = .ok (.i2l, 1) := by decide +kernel
theorem dX7_next_91 : decode cX7_next 91 = .ok (.ldc2_w 103, 3) := by decide +kernel
theorem dX7_next_94 : decode cX7_next 94 = .ok (.ldc2_w 105, 3) := by decide +kernel
theorem dX7_next_97 : decode cX7_next 97 = .ok (.invokestatic 69, 3) := by decide +kernel
theorem dX7_next_100 : decode cX7_next 100 = .ok (.ifCond .eq 174, 3) := by decide +kernel
theorem dX7_next_103 : decode cX7_next 103 = .ok (.aload_n 0, 1) := by decide +kernel
theorem dX7_next_104 : decode cX7_next 104 = .ok (.dup, 1) := by decide +kernel
theorem dX7_next_105 : decode cX7_next 105 = .ok (.getfield 85, 3) := by decide +kernel
theorem dX7_next_108 : decode cX7_next 108 = .ok (.iconst 1, 1) := by decide +kernel
theorem dX7_next_109 : decode cX7_next 109 = .ok (.iadd, 1) := by decide +kernel
theorem dX7_next_110 : decode cX7_next 110 = .ok (.putfield 85, 3) := by decide +kernel
theorem dX7_next_113 : decode cX7_next 113 = .ok (.goto (-31), 3) := by decide +kernel
theorem dX7_next_116 : decode cX7_next 116 = .ok (.iload_n 1, 1) := by decide +kernel
theorem dX7_next_117 : decode cX7_next 117 = .ok (.i2l, 1) := by decide +kernel
theorem dX7_next_118 : decode cX7_next 118 = .ok (.ldc2_w 107, 3) := by decide +kernel
theorem dX7_next_121 : decode cX7_next 121 = .ok (.ldc2_w 109, 3) := by decide +kernel
theorem dX7_next_124 : decode cX7_next 124 = .ok (.invokestatic 69, 3) := by decide +kernel
theorem dX7_next_127 : decode cX7_next 127 = .ok (.ifCond .eq 116, 3) := by decide +kernel
theorem dX7_next_130 : decode cX7_next 130 = .ok (.aload_n 0, 1) := by decide +kernel
theorem dX7_next_131 : decode cX7_next 131 = .ok (.iconst 2, 1) := by decide +kernel
theorem dX7_next_132 : decode cX7_next 132 = .ok (.putfield 100, 3) := by decide +kernel
theorem dX7_next_135 : decode cX7_next 135 = .ok (.aload_n 0, 1) := by decide +kernel
theorem dX7_next_136 : decode cX7_next 136 = .ok (.iconst 0, 1) := by decide +kernel
theorem dX7_next_137 : decode cX7_next 137 = .ok (.putfield 111, 3) := by decide +kernel
theorem dX7_next_140 : decode cX7_next 140 = .ok (.aload_n 0, 1) := by decide +kernel
theorem dX7_next_141 : decode cX7_next 141 = .ok (.aload_n 0, 1) := by decide +kernel
theorem dX7_next_142 : decode cX7_next 142 = .ok (.getfield 85, 3) := by decide +kernel
theorem dX7_next_145 : decode cX7_next 145 = .ok (.invokevirtual 88, 3) := by decide +kernel
theorem dX7_next_148 : decode cX7_next 148 = .ok (.i2l, 1) := by decide +kernel
theorem dX7_next_149 : decode cX7_next 149 = .ok (.ldc2_w 107, 3) := by decide +kernel
theorem dX7_next_152 : decode cX7_next 152 = .ok (.ldc2_w 109, 3) := by decide +kernel
theorem dX7_next_155 : decode cX7_next 155 = .ok (.invokestatic 69, 3) := by decide +kernel
theorem dX7_next_158 : decode cX7_next 158 = .ok (.ifCond .eq 59, 3) := by decide +kernel
theorem dX7_next_161 : decode cX7_next 161 = .ok (.aload_n 0, 1) := by decide +kernel
theorem dX7_next_162 : decode cX7_next 162 = .ok (.aload_n 0, 1) := by decide +kernel
theorem dX7_next_163 : decode cX7_next 163 = .ok (.getfield 85, 3) := by decide +kernel
theorem dX7_next_166 : decode cX7_next 166 = .ok (.aload_n 0, 1) := by decide +kernel
theorem dX7_next_167 : decode cX7_next 167 = .ok (.getfield 79, 3) := by decide +kernel
theorem dX7_next_170 : decode cX7_next 170 = .ok (.isub, 1) := by decide +kernel
theorem dX7_next_171 : decode cX7_next 171 = .ok (.iconst 2, 1) := by decide +kernel
theorem dX7_next_172 : decode cX7_next 172 = .ok (.if_icmp .ge 25, 3) := by decide +kernel
theorem dX7_next_175 : decode cX7_next 175 = .ok (.bipush 10, 2) := by decide +kernel
theorem dX7_next_177 : decode cX7_next 177 = .ok (.aload_n 0, 1) := by decide +kernel
theorem dX7_next_178 : decode cX7_next 178 = .ok (.getfield 111, 3) := by decide +kernel
theorem dX7_next_181 : decode cX7_next 181 = .ok (.imul, 1) := by decide +kernel
theorem dX7_next_182 : decode cX7_next 182 = .ok (.aload_n 0, 1) := by decide +kernel
theorem dX7_next_183 : decode cX7_next 183 = .ok (.aload_n 0, 1) := by decide +kernel
theorem dX7_next_184 : decode cX7_next 184 = .ok (.getfield 85, 3) := by decide +kernel
theorem dX7_next_187 : decode cX7_next 187 = .ok (.invokevirtual 88, 3) := by decide +kernel
theorem dX7_next_190 : decode cX7_next 190 = .ok (.iadd, 1) := by decide +kernel
theorem dX7_next_191 : decode cX7_next 191 = .ok (.bipush 48, 2) := by decide +kernel
theorem dX7_next_193 : decode cX7_next 193 = .ok (.isub, 1) := by decide +kernel
theorem dX7_next_194 : decode cX7_next 194 = .ok (.goto 7, 3) := by decide +kernel
theorem dX7_next_197 : decode cX7_next 197 = .ok (.aload_n 0, 1) := by decide +kernel
theorem dX7_next_198 : decode cX7_next 198 = .ok (.getfield 111, 3) := by decide +kernel
theorem dX7_next_201 : decode cX7_next 201 = .ok (.putfield 111, 3) := by decide +kernel
theorem dX7_next_204 : decode cX7_next 204 = .ok (.aload_n 0, 1) := by decide +kernel
theorem dX7_next_205 : decode cX7_next 205 = .ok (.dup, 1) := by decide +kernel
theorem dX7_next_206 : decode cX7_next 206 = .ok (.getfield 85, 3) := by decide +kernel
theorem dX7_next_209 : decode cX7_next 209 = .ok (.iconst 1, 1) := by decide +kernel
theorem dX7_next_210 : decode cX7_next 210 = .ok (.iadd, 1) := by decide +kernel
theorem dX7_next_211 : decode cX7_next 211 = .ok (.putfield 85, 3) := by decide +kernel
theorem dX7_next_214 : decode cX7_next 214 = .ok (.goto (-74), 3) := by decide +kernel
theorem dX7_next_217 : decode cX7_next 217 = .ok (.aload_n 0, 1) := by decide +kernel
theorem dX7_next_218 : decode cX7_next 218 = .ok (.aload_n 0, 1) := by decide +kernel
theorem dX7_next_219 : decode cX7_next 219 = .ok (.getfield 85, 3) := by decide +kernel
theorem dX7_next_222 : decode cX7_next 222 = .ok (.aload_n 0, 1) := by decide +kernel
theorem dX7_next_223 : decode cX7_next 223 = .ok (.getfield 79, 3) := by decide +kernel
theorem dX7_next_226 : decode cX7_next 226 = .ok (.isub, 1) := by decide +kernel
theorem dX7_next_227 : decode cX7_next 227 = .ok (.iconst 2, 1) := by decide +kernel
theorem dX7_next_228 : decode cX7_next 228 = .ok (.if_icmp .gt 7, 3) := by decide +kernel
theorem dX7_next_231 : decode cX7_next 231 = .ok (.iconst 1, 1) := by decide +kernel
theorem dX7_next_232 : decode cX7_next 232 = .ok (.goto 4, 3) := by decide +kernel
theorem dX7_next_235 : decode cX7_next 235 = .ok (.iconst 0, 1) := by decide +kernel
theorem dX7_next_236 : decode cX7_next 236 = .ok (.iconst 1, 1) := by decide +kernel
theorem dX7_next_237 : decode cX7_next 237 = .ok (.invokevirtual 114, 3) := by decide +kernel
theorem dX7_next_240 : decode cX7_next 240 = .ok (.goto 34, 3) := by decide +kernel
theorem dX7_next_243 : decode cX7_next 243 = .ok (.aload_n 0, 1) := by decide +kernel
theorem dX7_next_244 : decode cX7_next 244 = .ok (.iconst 3, 1) := by decide +kernel
theorem dX7_next_245 : decode cX7_next 245 = .ok (.putfield 100, 3) := by decide +kernel
theorem dX7_next_248 : decode cX7_next 248 = .ok (.aload_n 0, 1) := by decide +kernel
theorem dX7_next_249 : decode cX7_next 249 = .ok (.iload_n 1, 1) := by decide +kernel
theorem dX7_next_250 : decode cX7_next 250 = .ok (.bipush 59, 2) := by decide +kernel
theorem dX7_next_252 : decode cX7_next 252 = .ok (.if_icmp .ne 7, 3) := by decide +kernel
theorem dX7_next_255 : decode cX7_next 255 = .ok (.iconst 1, 1) := by decide +kernel
theorem dX7_next_256 : decode cX7_next 256 = .ok (.goto 4, 3) := by decide +kernel
theorem dX7_next_259 : decode cX7_next 259 = .ok (.iconst 0, 1) := by decide +kernel
theorem dX7_next_260 : decode cX7_next 260 = .ok (.iconst 1, 1) := by decide +kernel
theorem dX7_next_261 : decode cX7_next 261 = .ok (.invokevirtual 114, 3) := by decide +kernel
theorem dX7_next_264 : decode cX7_next 264 = .ok (.aload_n 0, 1) := by decide +kernel
theorem dX7_next_265 : decode cX7_next 265 = .ok (.dup, 1) := by decide +kernel
theorem dX7_next_266 : decode cX7_next 266 = .ok (.getfield 85, 3) := by decide +kernel
theorem dX7_next_269 : decode cX7_next 269 = .ok (.iconst 1, 1) := by decide +kernel
theorem dX7_next_270 : decode cX7_next 270 = .ok (.iadd, 1) := by decide +kernel
theorem dX7_next_271 : decode cX7_next 271 = .ok (.putfield 85, 3) := by decide +kernel
theorem dX7_next_274 : decode cX7_next 274 = .ok (.return_, 1) := by decide +kernel
