theorem dX0_init_0 : decode cX0_init 0 = .ok (.aload_n 0, 1) := by decide +kernel
theorem dX0_init_1 : decode cX0_init 1 = .ok (.invokespecial 3, 3) := by decide +kernel
theorem dX0_init_4 : decode cX0_init 4 = .ok (.aload_n 0, 1) := by decide +kernel
theorem dX0_init_5 : decode cX0_init 5 = .ok (.new 9, 3) := by decide +kernel
theorem dX0_init_8 : decode cX0_init 8 = .ok (.dup, 1) := by decide +kernel
theorem dX0_init_9 : decode cX0_init 9 = .ok (.invokespecial 11, 3) := by decide +kernel
theorem dX0_init_12 : decode cX0_init 12 = .ok (.putfield 12, 3) := by decide +kernel
theorem dX0_init_15 : decode cX0_init 15 = .ok (.aload_n 0, 1) := by decide +kernel
theorem dX0_init_16 : decode cX0_init 16 = .ok (.iconst 5, 1) := by decide +kernel
theorem dX0_init_17 : decode cX0_init 17 = .ok (.newarray .int, 2) := by decide +kernel
theorem dX0_init_19 : decode cX0_init 19 = .ok (.putfield 18, 3) := by decide +kernel
theorem dX0_init_22 : decode cX0_init 22 = .ok (.aload_n 0, 1) := by decide +kernel
theorem dX0_init_23 : decode cX0_init 23 = .ok (.bipush 8, 2) := by decide +kernel
theorem dX0_init_25 : decode cX0_init 25 = .ok (.newarray .int, 2) := by decide +kernel
theorem dX0_init_27 : decode cX0_init 27 = .ok (.putfield 22, 3) := by decide +kernel
theorem dX0_init_30 : decode cX0_init 30 = .ok (.aload_n 0, 1) := by decide +kernel
theorem dX0_init_31 : decode cX0_init 31 = .ok (.bipush 6, 2) := by decide +kernel
theorem dX0_init_33 : decode cX0_init 33 = .ok (.newarray .int, 2) := by decide +kernel
theorem dX0_init_35 : decode cX0_init 35 = .ok (.putfield 25, 3) := by decide +kernel
theorem dX0_init_38 : decode cX0_init 38 = .ok (.aload_n 0, 1) := by decide +kernel
theorem dX0_init_39 : decode cX0_init 39 = .ok (.bipush 6, 2) := by decide +kernel
theorem dX0_init_41 : decode cX0_init 41 = .ok (.newarray .int, 2) := by decide +kernel
theorem dX0_init_43 : decode cX0_init 43 = .ok (.putfield 28, 3) := by decide +kernel
theorem dX0_init_46 : decode cX0_init 46 = .ok (.aload_n 0, 1) := by decide +kernel
theorem dX0_init_47 : decode cX0_init 47 = .ok (.bipush 6, 2) := by decide +kernel
theorem dX0_init_49 : decode cX0_init 49 = .ok (.newarray .int, 2) := by decide +kernel
theorem dX0_init_51 : decode cX0_init 51 = .ok (.putfield 31, 3) := by decide +kernel
theorem dX0_init_54 : decode cX0_init 54 = .ok (.return_, 1) := by decide +kernel
theorem dX0_copyFrom_0 : decode cX0_copyFrom 0 = .ok (.aload_n 0, 1) := by decide +kernel
theorem dX0_copyFrom_1 : decode cX0_copyFrom 1 = .ok (.getfield 12, 3) := by decide +kernel
theorem dX0_copyFrom_4 : decode cX0_copyFrom 4 = .ok (.aload_n 1, 1) := by decide +kernel
theorem dX0_copyFrom_5 : decode cX0_copyFrom 5 = .ok (.getfield 12, 3) := by decide +kernel
theorem dX0_copyFrom_8 : decode cX0_copyFrom 8 = .ok (.invokevirtual 34, 3) := by decide +kernel
theorem dX0_copyFrom_11 : decode cX0_copyFrom 11 = .ok (.aload_n 1, 1) := by decide +kernel
theorem dX0_copyFrom_12 : decode cX0_copyFrom 12 = .ok (.getfield 18, 3) := by decide +kernel
theorem dX0_copyFrom_15 : decode cX0_copyFrom 15 = .ok (.iconst 0, 1) := by decide +kernel
theorem dX0_copyFrom_16 : decode cX0_copyFrom 16 = .ok (.aload_n 0, 1) := by decide +kernel
theorem dX0_copyFrom_17 : decode cX0_copyFrom 17 = .ok (.getfield 18, 3) := by decide +kernel
theorem dX0_copyFrom_20 : decode cX0_copyFrom 20 = .ok (.iconst 0, 1) := by decide +kernel
theorem dX0_copyFrom_21 : decode cX0_copyFrom 21 = .ok (.iconst 5, 1) := by decide +kernel
theorem dX0_copyFrom_22 : decode cX0_copyFrom 22 = .ok (.invokestatic 38, 3) := by decide +kernel
theorem dX0_copyFrom_25 : decode cX0_copyFrom 25 = .ok (.aload_n 1, 1) := by decide +kernel
theorem dX0_copyFrom_26 : decode cX0_copyFrom 26 = .ok (.getfield 22, 3) := by decide +kernel
theorem dX0_copyFrom_29 : decode cX0_copyFrom 29 = .ok (.iconst 0, 1) := by decide +kernel
theorem dX0_copyFrom_30 : decode cX0_copyFrom 30 = .ok (.aload_n 0, 1) := by decide +kernel
theorem dX0_copyFrom_31 : decode cX0_copyFrom 31 = .ok (.getfield 22, 3) := by decide +kernel
theorem dX0_copyFrom_34 : decode cX0_copyFrom 34 = .ok (.iconst 0, 1) := by decide +kernel
theorem dX0_copyFrom_35 : decode cX0_copyFrom 35 = .ok (.bipush 8, 2) := by decide +kernel
theorem dX0_copyFrom_37 : decode cX0_copyFrom 37 = .ok (.invokestatic 38, 3) := by decide +kernel
theorem dX0_copyFrom_40 : decode cX0_copyFrom 40 = .ok (.aload_n 1, 1) := by decide +kernel
theorem dX0_copyFrom_41 : decode cX0_copyFrom 41 = .ok (.getfield 25, 3) := by decide +kernel
theorem dX0_copyFrom_44 : decode cX0_copyFrom 44 = .ok (.iconst 0, 1) := by decide +kernel
theorem dX0_copyFrom_45 : decode cX0_copyFrom 45 = .ok (.aload_n 0, 1) := by decide +kernel
theorem dX0_copyFrom_46 : decode cX0_copyFrom 46 = .ok (.getfield 25, 3) := by decide +kernel
theorem dX0_copyFrom_49 : decode cX0_copyFrom 49 = .ok (.iconst 0, 1) := by decide +kernel
theorem dX0_copyFrom_50 : decode cX0_copyFrom 50 = .ok (.bipush 6, 2) := by decide +kernel
theorem dX0_copyFrom_52 : decode cX0_copyFrom 52 = .ok (.invokestatic 38, 3) := by decide +kernel
theorem dX0_copyFrom_55 : decode cX0_copyFrom 55 = .ok (.aload_n 1, 1) := by decide +kernel
theorem dX0_copyFrom_56 : decode cX0_copyFrom 56 = .ok (.getfield 28, 3) := by decide +kernel
theorem dX0_copyFrom_59 : decode cX0_copyFrom 59 = .ok (.iconst 0, 1) := by decide +kernel
theorem dX0_copyFrom_60 : decode cX0_copyFrom 60 = .ok (.aload_n 0, 1) := by decide +kernel
theorem dX0_copyFrom_61 : decode cX0_copyFrom 61 = .ok (.getfield 28, 3) := by decide +kernel
theorem dX0_copyFrom_64 : decode cX0_copyFrom 64 = .ok (.iconst 0, 1) := by decide +kernel
theorem dX0_copyFrom_65 : decode cX0_copyFrom 65 = .ok (.bipush 6, 2) := by decide +kernel
theorem dX0_copyFrom_67 : decode cX0_copyFrom 67 = .ok (.invokestatic 38, 3) := by decide +kernel
theorem dX0_copyFrom_70 : decode cX0_copyFrom 70 = .ok (.aload_n 1, 1) := by decide +kernel
theorem dX0_copyFrom_71 : decode cX0_copyFrom 71 = .ok (.getfield 31, 3) := by decide +kernel
theorem dX0_copyFrom_74 : decode cX0_copyFrom 74 = .ok (.iconst 0, 1) := by decide +kernel
theorem dX0_copyFrom_75 : decode cX0_copyFrom 75 = .ok (.aload_n 0, 1) := by decide +kernel
theorem dX0_copyFrom_76 : decode cX0_copyFrom 76 = .ok (.getfield 31, 3) := by decide +kernel
theorem dX0_copyFrom_79 : decode cX0_copyFrom 79 = .ok (.iconst 0, 1) := by decide +kernel
theorem dX0_copyFrom_80 : decode cX0_copyFrom 80 = .ok (.bipush 6, 2) := by decide +kernel
theorem dX0_copyFrom_82 : decode cX0_copyFrom 82 = .ok (.invokestatic 38, 3) := by decide +kernel
theorem dX0_copyFrom_85 : decode cX0_copyFrom 85 = .ok (.aload_n 0, 1) := by decide +kernel
theorem dX0_copyFrom_86 : decode cX0_copyFrom 86 = .ok (.aload_n 1, 1) := by decide +kernel
theorem dX0_copyFrom_87 : decode cX0_copyFrom 87 = .ok (.getfield 44, 3) := by decide +kernel
theorem dX0_copyFrom_90 : decode cX0_copyFrom 90 = .ok (.putfield 44, 3) := by decide +kernel
theorem dX0_copyFrom_93 : decode cX0_copyFrom 93 = .ok (.aload_n 0, 1) := by decide +kernel
theorem dX0_copyFrom_94 : decode cX0_copyFrom 94 = .ok (.aload_n 1, 1) := by decide +kernel
theorem dX0_copyFrom_95 : decode cX0_copyFrom 95 = .ok (.getfield 48, 3) := by decide +kernel
theorem dX0_copyFrom_98 : decode cX0_copyFrom 98 = .ok (.putfield 48, 3) := by decide +kernel
theorem dX0_copyFrom_101 : decode cX0_copyFrom 101 = .ok (.return_, 1) := by decide +kernel
theorem dX0_empty_0 : decode cX0_empty 0 = .ok (.aload_n 0, 1) := by decide +kernel
theorem dX0_empty_1 : decode cX0_empty 1 = .ok (.getfield 12, 3) := by decide +kernel
theorem dX0_empty_4 : decode cX0_empty 4 = .ok (.iconst 0, 1) := by decide +kernel
theorem dX0_empty_5 : decode cX0_empty 5 = .ok (.putfield 51, 3) := by decide +kernel
theorem dX0_empty_8 : decode cX0_empty 8 = .ok (.aload_n 0, 1) := by decide +kernel
theorem dX0_empty_9 : decode cX0_empty 9 = .ok (.getfield 12, 3) := by decide +kernel
theorem dX0_empty_12 : decode cX0_empty 12 = .ok (.iconst 0, 1) := by decide +kernel
theorem dX0_empty_13 : decode cX0_empty 13 = .ok (.putfield 54, 3) := by decide +kernel
theorem dX0_empty_16 : decode cX0_empty 16 = .ok (.aload_n 0, 1) := by decide +kernel
theorem dX0_empty_17 : decode cX0_empty 17 = .ok (.getfield 18, 3) := by decide +kernel
theorem dX0_empty_20 : decode cX0_empty 20 = .ok (.iconst 0, 1) := by decide +kernel
theorem dX0_empty_21 : decode cX0_empty 21 = .ok (.invokestatic 57, 3) := by decide +kernel
theorem dX0_empty_24 : decode cX0_empty 24 = .ok (.aload_n 0, 1) := by decide +kernel
theorem dX0_empty_25 : decode cX0_empty 25 = .ok (.iconst 0, 1) := by decide +kernel
theorem dX0_empty_26 : decode cX0_empty 26 = .ok (.putfield 44, 3) := by decide +kernel
theorem dX0_empty_29 : decode cX0_empty 29 = .ok (.aload_n 0, 1) := by decide +kernel
theorem dX0_empty_30 : decode cX0_empty 30 = .ok (.iconst 0, 1) := by decide +kernel
theorem dX0_empty_31 : decode cX0_empty 31 = .ok (.putfield 48, 3) := by decide +kernel
theorem dX0_empty_34 : decode cX0_empty 34 = .ok (.return_, 1) := by decide +kernel
theorem dX0_areKin_0 : decode cX0_areKin 0 = .ok (.aload_n 0, 1) := by decide +kernel
theorem dX0_areKin_1 : decode cX0_areKin 1 = .ok (.getfield 18, 3) := by decide +kernel
theorem dX0_areKin_4 : decode cX0_areKin 4 = .ok (.iload_n 1, 1) := by decide +kernel
theorem dX0_areKin_5 : decode cX0_areKin 5 = .ok (.iaload, 1) := by decide +kernel
theorem dX0_areKin_6 : decode cX0_areKin 6 = .ok (.iload_n 2, 1) := by decide +kernel
theorem dX0_areKin_7 : decode cX0_areKin 7 = .ok (.ishr, 1) := by decide +kernel
theorem dX0_areKin_8 : decode cX0_areKin 8 = .ok (.iconst 1, 1) := by decide +kernel
theorem dX0_areKin_9 : decode cX0_areKin 9 = .ok (.iand, 1) := by decide +kernel
theorem dX0_areKin_10 : decode cX0_areKin 10 = .ok (.iconst 1, 1) := by decide +kernel
theorem dX0_areKin_11 : decode cX0_areKin 11 = .ok (.if_icmp .ne 7, 3) := by decide +kernel
theorem dX0_areKin_14 : decode cX0_areKin 14 = .ok (.iconst 1, 1) := by decide +kernel
theorem dX0_areKin_15 : decode cX0_areKin 15 = .ok (.goto 4, 3) := by decide +kernel
theorem dX0_areKin_18 : decode cX0_areKin 18 = .ok (.iconst 0, 1) := by decide +kernel
theorem dX0_areKin_19 : decode cX0_areKin 19 = .ok (.ireturn, 1) := by decide +kernel
theorem dX0_allKin_0 : decode cX0_allKin 0 = .ok (.iconst 0, 1) := by decide +kernel
theorem dX0_allKin_1 : decode cX0_allKin 1 = .ok (.istore_n 1, 1) := by decide +kernel
theorem dX0_allKin_2 : decode cX0_allKin 2 = .ok (.iconst 0, 1) := by decide +kernel
theorem dX0_allKin_3 : decode cX0_allKin 3 = .ok (.istore_n 2, 1) := by decide +kernel
theorem dX0_allKin_4 : decode cX0_allKin 4 = .ok (.iload_n 2, 1) := by decide +kernel
theorem dX0_allKin_5 : decode cX0_allKin 5 = .ok (.iconst 5, 1) := by decide +kernel
theorem dX0_allKin_6 : decode cX0_allKin 6 = .ok (.if_icmp .ge 21, 3) := by decide +kernel
theorem dX0_allKin_9 : decode cX0_allKin 9 = .ok (.iload_n 1, 1) := by decide +kernel
theorem dX0_allKin_10 : decode cX0_allKin 10 = .ok (.aload_n 0, 1) := by decide +kernel
theorem dX0_allKin_11 : decode cX0_allKin 11 = .ok (.getfield 18, 3) := by decide +kernel
theorem dX0_allKin_14 : decode cX0_allKin 14 = .ok (.iload_n 2, 1) := by decide +kernel
theorem dX0_allKin_15 : decode cX0_allKin 15 = .ok (.iaload, 1) := by decide +kernel
theorem dX0_allKin_16 : decode cX0_allKin 16 = .ok (.invokestatic 63, 3) := by decide +kernel
theorem dX0_allKin_19 : decode cX0_allKin 19 = .ok (.iadd, 1) := by decide +kernel
theorem dX0_allKin_20 : decode cX0_allKin 20 = .ok (.istore_n 1, 1) := by decide +kernel
theorem dX0_allKin_21 : decode cX0_allKin 21 = .ok (.iinc 2 1, 3) := by decide +kernel
theorem dX0_allKin_24 : decode cX0_allKin 24 = .ok (.goto (-20), 3) := by decide +kernel
theorem dX0_allKin_27 : decode cX0_allKin 27 = .ok (.iload_n 1, 1) := by decide +kernel
theorem dX0_allKin_28 : decode cX0_allKin 28 = .ok (.ireturn, 1) := by decide +kernel
theorem dX0_hasStrangers_0 : decode cX0_hasStrangers 0 = .ok (.iconst 0, 1) := by decide +kernel
theorem dX0_hasStrangers_1 : decode cX0_hasStrangers 1 = .ok (.istore_n 1, 1) := by decide +kernel
theorem dX0_hasStrangers_2 : decode cX0_hasStrangers 2 = .ok (.iload_n 1, 1) := by decide +kernel
theorem dX0_hasStrangers_3 : decode cX0_hasStrangers 3 = .ok (.iconst 5, 1) := by decide +kernel
theorem dX0_hasStrangers_4 : decode cX0_hasStrangers 4 = .ok (.if_icmp .ge 51, 3) := by decide +kernel
theorem dX0_hasStrangers_7 : decode cX0_hasStrangers 7 = .ok (.iload_n 1, 1) := by decide +kernel
theorem dX0_hasStrangers_8 : decode cX0_hasStrangers 8 = .ok (.aload_n 0, 1) := by decide +kernel
theorem dX0_hasStrangers_9 : decode cX0_hasStrangers 9 = .ok (.getfield 12, 3) := by decide +kernel
theorem dX0_hasStrangers_12 : decode cX0_hasStrangers 12 = .ok (.getfield 51, 3) := by decide +kernel
theorem dX0_hasStrangers_15 : decode cX0_hasStrangers 15 = .ok (.if_icmp .ge 17, 3) := by decide +kernel
theorem dX0_hasStrangers_18 : decode cX0_hasStrangers 18 = .ok (.iconst 1, 1) := by decide +kernel
theorem dX0_hasStrangers_19 : decode cX0_hasStrangers 19 = .ok (.aload_n 0, 1) := by decide +kernel
theorem dX0_hasStrangers_20 : decode cX0_hasStrangers 20 = .ok (.getfield 12, 3) := by decide +kernel
theorem dX0_hasStrangers_23 : decode cX0_hasStrangers 23 = .ok (.getfield 51, 3) := by decide +kernel
theorem dX0_hasStrangers_26 : decode cX0_hasStrangers 26 = .ok (.ishl, 1) := by decide +kernel
theorem dX0_hasStrangers_27 : decode cX0_hasStrangers 27 = .ok (.iconst 1, 1) := by decide +kernel
theorem dX0_hasStrangers_28 : decode cX0_hasStrangers 28 = .ok (.isub, 1) := by decide +kernel
theorem dX0_hasStrangers_29 : decode cX0_hasStrangers 29 = .ok (.goto 4, 3) := by decide +kernel
theorem dX0_hasStrangers_32 : decode cX0_hasStrangers 32 = .ok (.iconst 0, 1) := by decide +kernel
theorem dX0_hasStrangers_33 : decode cX0_hasStrangers 33 = .ok (.istore_n 2, 1) := by decide +kernel
theorem dX0_hasStrangers_34 : decode cX0_hasStrangers 34 = .ok (.aload_n 0, 1) := by decide +kernel
theorem dX0_hasStrangers_35 : decode cX0_hasStrangers 35 = .ok (.getfield 18, 3) := by decide +kernel
theorem dX0_hasStrangers_38 : decode cX0_hasStrangers 38 = .ok (.iload_n 1, 1) := by decide +kernel
theorem dX0_hasStrangers_39 : decode cX0_hasStrangers 39 = .ok (.iaload, 1) := by decide +kernel
theorem dX0_hasStrangers_40 : decode cX0_hasStrangers 40 = .ok (.iload_n 2, 1) := by decide +kernel
theorem dX0_hasStrangers_41 : decode cX0_hasStrangers 41 = .ok (.iconst (-1), 1) := by decide +kernel
theorem dX0_hasStrangers_42 : decode cX0_hasStrangers 42 = .ok (.ixor, 1) := by decide +kernel
theorem dX0_hasStrangers_43 : decode cX0_hasStrangers 43 = .ok (.iand, 1) := by decide +kernel
theorem dX0_hasStrangers_44 : decode cX0_hasStrangers 44 = .ok (.ifCond .eq 5, 3) := by decide +kernel
theorem dX0_hasStrangers_47 : decode cX0_hasStrangers 47 = .ok (.iconst 1, 1) := by decide +kernel
theorem dX0_hasStrangers_48 : decode cX0_hasStrangers 48 = .ok (.ireturn, 1) := by decide +kernel
theorem dX0_hasStrangers_49 : decode cX0_hasStrangers 49 = .ok (.iinc 1 1, 3) := by decide +kernel
theorem dX0_hasStrangers_52 : decode cX0_hasStrangers 52 = .ok (.goto (-50), 3) := by decide +kernel
theorem dX0_hasStrangers_55 : decode cX0_hasStrangers 55 = .ok (.iconst 0, 1) := by decide +kernel
theorem dX0_hasStrangers_56 : decode cX0_hasStrangers 56 = .ok (.ireturn, 1) := by decide +kernel
theorem dX0_cousinsMeet_0 : decode cX0_cousinsMeet 0 = .ok (.iconst 0, 1) := by decide +kernel
theorem dX0_cousinsMeet_1 : decode cX0_cousinsMeet 1 = .ok (.istore_n 2, 1) := by decide +kernel
theorem dX0_cousinsMeet_2 : decode cX0_cousinsMeet 2 = .ok (.iload_n 2, 1) := by decide +kernel
theorem dX0_cousinsMeet_3 : decode cX0_cousinsMeet 3 = .ok (.aload_n 1, 1) := by decide +kernel
theorem dX0_cousinsMeet_4 : decode cX0_cousinsMeet 4 = .ok (.getfield 51, 3) := by decide +kernel
theorem dX0_cousinsMeet_7 : decode cX0_cousinsMeet 7 = .ok (.if_icmp .ge 25, 3) := by decide +kernel
theorem dX0_cousinsMeet_10 : decode cX0_cousinsMeet 10 = .ok (.aload_n 0, 1) := by decide +kernel
theorem dX0_cousinsMeet_11 : decode cX0_cousinsMeet 11 = .ok (.iload_n 2, 1) := by decide +kernel
theorem dX0_cousinsMeet_12 : decode cX0_cousinsMeet 12 = .ok (.aload_n 1, 1) := by decide +kernel
theorem dX0_cousinsMeet_13 : decode cX0_cousinsMeet 13 = .ok (.getfield 69, 3) := by decide +kernel
theorem dX0_cousinsMeet_16 : decode cX0_cousinsMeet 16 = .ok (.iload_n 2, 1) := by decide +kernel
theorem dX0_cousinsMeet_17 : decode cX0_cousinsMeet 17 = .ok (.iaload, 1) := by decide +kernel
theorem dX0_cousinsMeet_18 : decode cX0_cousinsMeet 18 = .ok (.invokevirtual 72, 3) := by decide +kernel
theorem dX0_cousinsMeet_21 : decode cX0_cousinsMeet 21 = .ok (.ifCond .eq 5, 3) := by decide +kernel
theorem dX0_cousinsMeet_24 : decode cX0_cousinsMeet 24 = .ok (.iconst 1, 1) := by decide +kernel
theorem dX0_cousinsMeet_25 : decode cX0_cousinsMeet 25 = .ok (.ireturn, 1) := by decide +kernel
theorem dX0_cousinsMeet_26 : decode cX0_cousinsMeet 26 = .ok (.iinc 2 1, 3) := by decide +kernel
theorem dX0_cousinsMeet_29 : decode cX0_cousinsMeet 29 = .ok (.goto (-27), 3) := by decide +kernel
theorem dX0_cousinsMeet_32 : decode cX0_cousinsMeet 32 = .ok (.iconst 0, 1) := by decide +kernel
theorem dX0_cousinsMeet_33 : decode cX0_cousinsMeet 33 = .ok (.ireturn, 1) := by decide +kernel
theorem dX0_addFigure_0 : decode cX0_addFigure 0 = .ok (.aload_n 0, 1) := by decide +kernel
theorem dX0_addFigure_1 : decode cX0_addFigure 1 = .ok (.getfield 44, 3) := by decide +kernel
theorem dX0_addFigure_4 : decode cX0_addFigure 4 = .ok (.bipush 8, 2) := by decide +kernel
theorem dX0_addFigure_6 : decode cX0_addFigure 6 = .ok (.if_icmp .ge 23, 3) := by decide +kernel
theorem dX0_addFigure_9 : decode cX0_addFigure 9 = .ok (.aload_n 0, 1) := by decide +kernel
theorem dX0_addFigure_10 : decode cX0_addFigure 10 = .ok (.getfield 22, 3) := by decide +kernel
theorem dX0_addFigure_13 : decode cX0_addFigure 13 = .ok (.aload_n 0, 1) := by decide +kernel
theorem dX0_addFigure_14 : decode cX0_addFigure 14 = .ok (.getfield 44, 3) := by decide +kernel
theorem dX0_addFigure_17 : decode cX0_addFigure 17 = .ok (.iload_n 1, 1) := by decide +kernel
theorem dX0_addFigure_18 : decode cX0_addFigure 18 = .ok (.iastore, 1) := by decide +kernel
theorem dX0_addFigure_19 : decode cX0_addFigure 19 = .ok (.aload_n 0, 1) := by decide +kernel
theorem dX0_addFigure_20 : decode cX0_addFigure 20 = .ok (.dup, 1) := by decide +kernel
theorem dX0_addFigure_21 : decode cX0_addFigure 21 = .ok (.getfield 44, 3) := by decide +kernel
theorem dX0_addFigure_24 : decode cX0_addFigure 24 = .ok (.iconst 1, 1) := by decide +kernel
theorem dX0_addFigure_25 : decode cX0_addFigure 25 = .ok (.iadd, 1) := by decide +kernel
theorem dX0_addFigure_26 : decode cX0_addFigure 26 = .ok (.putfield 44, 3) := by decide +kernel
theorem dX0_addFigure_29 : decode cX0_addFigure 29 = .ok (.return_, 1) := by decide +kernel
theorem dX0_addSeen_0 : decode cX0_addSeen 0 = .ok (.aload_n 0, 1) := by decide +kernel
theorem dX0_addSeen_1 : decode cX0_addSeen 1 = .ok (.getfield 48, 3) := by decide +kernel
theorem dX0_addSeen_4 : decode cX0_addSeen 4 = .ok (.bipush 6, 2) := by decide +kernel
theorem dX0_addSeen_6 : decode cX0_addSeen 6 = .ok (.if_icmp .ge 43, 3) := by decide +kernel
theorem dX0_addSeen_9 : decode cX0_addSeen 9 = .ok (.aload_n 0, 1) := by decide +kernel
theorem dX0_addSeen_10 : decode cX0_addSeen 10 = .ok (.getfield 25, 3) := by decide +kernel
theorem dX0_addSeen_13 : decode cX0_addSeen 13 = .ok (.aload_n 0, 1) := by decide +kernel
theorem dX0_addSeen_14 : decode cX0_addSeen 14 = .ok (.getfield 48, 3) := by decide +kernel
theorem dX0_addSeen_17 : decode cX0_addSeen 17 = .ok (.iload_n 1, 1) := by decide +kernel
theorem dX0_addSeen_18 : decode cX0_addSeen 18 = .ok (.iastore, 1) := by decide +kernel
theorem dX0_addSeen_19 : decode cX0_addSeen 19 = .ok (.aload_n 0, 1) := by decide +kernel
theorem dX0_addSeen_20 : decode cX0_addSeen 20 = .ok (.getfield 28, 3) := by decide +kernel
theorem dX0_addSeen_23 : decode cX0_addSeen 23 = .ok (.aload_n 0, 1) := by decide +kernel
theorem dX0_addSeen_24 : decode cX0_addSeen 24 = .ok (.getfield 48, 3) := by decide +kernel
theorem dX0_addSeen_27 : decode cX0_addSeen 27 = .ok (.iload_n 2, 1) := by decide +kernel
theorem dX0_addSeen_28 : decode cX0_addSeen 28 = .ok (.iastore, 1) := by decide +kernel
theorem dX0_addSeen_29 : decode cX0_addSeen 29 = .ok (.aload_n 0, 1) := by decide +kernel
theorem dX0_addSeen_30 : decode cX0_addSeen 30 = .ok (.getfield 31, 3) := by decide +kernel
theorem dX0_addSeen_33 : decode cX0_addSeen 33 = .ok (.aload_n 0, 1) := by decide +kernel
theorem dX0_addSeen_34 : decode cX0_addSeen 34 = .ok (.getfield 48, 3) := by decide +kernel
theorem dX0_addSeen_37 : decode cX0_addSeen 37 = .ok (.iload_n 3, 1) := by decide +kernel
theorem dX0_addSeen_38 : decode cX0_addSeen 38 = .ok (.iastore, 1) := by decide +kernel
theorem dX0_addSeen_39 : decode cX0_addSeen 39 = .ok (.aload_n 0, 1) := by decide +kernel
theorem dX0_addSeen_40 : decode cX0_addSeen 40 = .ok (.dup, 1) := by decide +kernel
theorem dX0_addSeen_41 : decode cX0_addSeen 41 = .ok (.getfield 48, 3) := by decide +kernel
theorem dX0_addSeen_44 : decode cX0_addSeen 44 = .ok (.iconst 1, 1) := by decide +kernel
theorem dX0_addSeen_45 : decode cX0_addSeen 45 = .ok (.iadd, 1) := by decide +kernel
theorem dX0_addSeen_46 : decode cX0_addSeen 46 = .ok (.putfield 48, 3) := by decide +kernel
theorem dX0_addSeen_49 : decode cX0_addSeen 49 = .ok (.return_, 1) := by decide +kernel
theorem dX1_init_0 : decode cX1_init 0 = .ok (.aload_n 0, 1) := by decide +kernel
theorem dX1_init_1 : decode cX1_init 1 = .ok (.invokespecial 3, 3) := by decide +kernel
theorem dX1_init_4 : decode cX1_init 4 = .ok (.aload_n 0, 1) := by decide +kernel
theorem dX1_init_5 : decode cX1_init 5 = .ok (.iconst 5, 1) := by decide +kernel
theorem dX1_init_6 : decode cX1_init 6 = .ok (.newarray .int, 2) := by decide +kernel
theorem dX1_init_8 : decode cX1_init 8 = .ok (.putfield 9, 3) := by decide +kernel
theorem dX1_init_11 : decode cX1_init 11 = .ok (.aload_n 0, 1) := by decide +kernel
theorem dX1_init_12 : decode cX1_init 12 = .ok (.iconst 5, 1) := by decide +kernel
theorem dX1_init_13 : decode cX1_init 13 = .ok (.newarray .int, 2) := by decide +kernel
theorem dX1_init_15 : decode cX1_init 15 = .ok (.putfield 15, 3) := by decide +kernel
theorem dX1_init_18 : decode cX1_init 18 = .ok (.aload_n 0, 1) := by decide +kernel
theorem dX1_init_19 : decode cX1_init 19 = .ok (.iconst 5, 1) := by decide +kernel
theorem dX1_init_20 : decode cX1_init 20 = .ok (.newarray .int, 2) := by decide +kernel
theorem dX1_init_22 : decode cX1_init 22 = .ok (.putfield 18, 3) := by decide +kernel
theorem dX1_init_25 : decode cX1_init 25 = .ok (.aload_n 0, 1) := by decide +kernel
theorem dX1_init_26 : decode cX1_init 26 = .ok (.iconst 5, 1) := by decide +kernel
theorem dX1_init_27 : decode cX1_init 27 = .ok (.newarray .int, 2) := by decide +kernel
theorem dX1_init_29 : decode cX1_init 29 = .ok (.putfield 21, 3) := by decide +kernel
theorem dX1_init_32 : decode cX1_init 32 = .ok (.aload_n 0, 1) := by decide +kernel
theorem dX1_init_33 : decode cX1_init 33 = .ok (.iconst 5, 1) := by decide +kernel
theorem dX1_init_34 : decode cX1_init 34 = .ok (.newarray .int, 2) := by decide +kernel
theorem dX1_init_36 : decode cX1_init 36 = .ok (.putfield 24, 3) := by decide +kernel
theorem dX1_init_39 : decode cX1_init 39 = .ok (.aload_n 0, 1) := by decide +kernel
theorem dX1_init_40 : decode cX1_init 40 = .ok (.iconst 5, 1) := by decide +kernel
theorem dX1_init_41 : decode cX1_init 41 = .ok (.newarray .int, 2) := by decide +kernel
theorem dX1_init_43 : decode cX1_init 43 = .ok (.putfield 27, 3) := by decide +kernel
theorem dX1_init_46 : decode cX1_init 46 = .ok (.aload_n 0, 1) := by decide +kernel
theorem dX1_init_47 : decode cX1_init 47 = .ok (.iconst 5, 1) := by decide +kernel
theorem dX1_init_48 : decode cX1_init 48 = .ok (.newarray .int, 2) := by decide +kernel
theorem dX1_init_50 : decode cX1_init 50 = .ok (.putfield 30, 3) := by decide +kernel
theorem dX1_init_53 : decode cX1_init 53 = .ok (.aload_n 0, 1) := by decide +kernel
theorem dX1_init_54 : decode cX1_init 54 = .ok (.iconst 5, 1) := by decide +kernel
theorem dX1_init_55 : decode cX1_init 55 = .ok (.newarray .int, 2) := by decide +kernel
theorem dX1_init_57 : decode cX1_init 57 = .ok (.putfield 33, 3) := by decide +kernel
theorem dX1_init_60 : decode cX1_init 60 = .ok (.return_, 1) := by decide +kernel
theorem dX1_copyFrom_0 : decode cX1_copyFrom 0 = .ok (.aload_n 0, 1) := by decide +kernel
theorem dX1_copyFrom_1 : decode cX1_copyFrom 1 = .ok (.aload_n 1, 1) := by decide +kernel
theorem dX1_copyFrom_2 : decode cX1_copyFrom 2 = .ok (.getfield 36, 3) := by decide +kernel
theorem dX1_copyFrom_5 : decode cX1_copyFrom 5 = .ok (.putfield 36, 3) := by decide +kernel
theorem dX1_copyFrom_8 : decode cX1_copyFrom 8 = .ok (.aload_n 0, 1) := by decide +kernel
theorem dX1_copyFrom_9 : decode cX1_copyFrom 9 = .ok (.aload_n 1, 1) := by decide +kernel
theorem dX1_copyFrom_10 : decode cX1_copyFrom 10 = .ok (.getfield 40, 3) := by decide +kernel
theorem dX1_copyFrom_13 : decode cX1_copyFrom 13 = .ok (.putfield 40, 3) := by decide +kernel
theorem dX1_copyFrom_16 : decode cX1_copyFrom 16 = .ok (.iconst 0, 1) := by decide +kernel
theorem dX1_copyFrom_17 : decode cX1_copyFrom 17 = .ok (.istore_n 2, 1) := by decide +kernel
theorem dX1_copyFrom_18 : decode cX1_copyFrom 18 = .ok (.iload_n 2, 1) := by decide +kernel
theorem dX1_copyFrom_19 : decode cX1_copyFrom 19 = .ok (.aload_n 0, 1) := by decide +kernel
theorem dX1_copyFrom_20 : decode cX1_copyFrom 20 = .ok (.getfield 36, 3) := by decide +kernel
theorem dX1_copyFrom_23 : decode cX1_copyFrom 23 = .ok (.if_icmp .ge 69, 3) := by decide +kernel
theorem dX1_copyFrom_26 : decode cX1_copyFrom 26 = .ok (.aload_n 0, 1) := by decide +kernel
theorem dX1_copyFrom_27 : decode cX1_copyFrom 27 = .ok (.getfield 9, 3) := by decide +kernel
theorem dX1_copyFrom_30 : decode cX1_copyFrom 30 = .ok (.iload_n 2, 1) := by decide +kernel
theorem dX1_copyFrom_31 : decode cX1_copyFrom 31 = .ok (.aload_n 1, 1) := by decide +kernel
theorem dX1_copyFrom_32 : decode cX1_copyFrom 32 = .ok (.getfield 9, 3) := by decide +kernel
theorem dX1_copyFrom_35 : decode cX1_copyFrom 35 = .ok (.iload_n 2, 1) := by decide +kernel
theorem dX1_copyFrom_36 : decode cX1_copyFrom 36 = .ok (.iaload, 1) := by decide +kernel
theorem dX1_copyFrom_37 : decode cX1_copyFrom 37 = .ok (.iastore, 1) := by decide +kernel
theorem dX1_copyFrom_38 : decode cX1_copyFrom 38 = .ok (.aload_n 0, 1) := by decide +kernel
theorem dX1_copyFrom_39 : decode cX1_copyFrom 39 = .ok (.getfield 15, 3) := by decide +kernel
theorem dX1_copyFrom_42 : decode cX1_copyFrom 42 = .ok (.iload_n 2, 1) := by decide +kernel
theorem dX1_copyFrom_43 : decode cX1_copyFrom 43 = .ok (.aload_n 1, 1) := by decide +kernel
theorem dX1_copyFrom_44 : decode cX1_copyFrom 44 = .ok (.getfield 15, 3) := by decide +kernel
theorem dX1_copyFrom_47 : decode cX1_copyFrom 47 = .ok (.iload_n 2, 1) := by decide +kernel
theorem dX1_copyFrom_48 : decode cX1_copyFrom 48 = .ok (.iaload, 1) := by decide +kernel
theorem dX1_copyFrom_49 : decode cX1_copyFrom 49 = .ok (.iastore, 1) := by decide +kernel
theorem dX1_copyFrom_50 : decode cX1_copyFrom 50 = .ok (.aload_n 0, 1) := by decide +kernel
theorem dX1_copyFrom_51 : decode cX1_copyFrom 51 = .ok (.getfield 18, 3) := by decide +kernel
theorem dX1_copyFrom_54 : decode cX1_copyFrom 54 = .ok (.iload_n 2, 1) := by decide +kernel
theorem dX1_copyFrom_55 : decode cX1_copyFrom 55 = .ok (.aload_n 1, 1) := by decide +kernel
theorem dX1_copyFrom_56 : decode cX1_copyFrom 56 = .ok (.getfield 18, 3) := by decide +kernel
theorem dX1_copyFrom_59 : decode cX1_copyFrom 59 = .ok (.iload_n 2, 1) := by decide +kernel
theorem dX1_copyFrom_60 : decode cX1_copyFrom 60 = .ok (.iaload, 1) := by decide +kernel
theorem dX1_copyFrom_61 : decode cX1_copyFrom 61 = .ok (.iastore, 1) := by decide +kernel
theorem dX1_copyFrom_62 : decode cX1_copyFrom 62 = .ok (.aload_n 0, 1) := by decide +kernel
theorem dX1_copyFrom_63 : decode cX1_copyFrom 63 = .ok (.getfield 21, 3) := by decide +kernel
theorem dX1_copyFrom_66 : decode cX1_copyFrom 66 = .ok (.iload_n 2, 1) := by decide +kernel
theorem dX1_copyFrom_67 : decode cX1_copyFrom 67 = .ok (.aload_n 1, 1) := by decide +kernel
theorem dX1_copyFrom_68 : decode cX1_copyFrom 68 = .ok (.getfield 21, 3) := by decide +kernel
theorem dX1_copyFrom_71 : decode cX1_copyFrom 71 = .ok (.iload_n 2, 1) := by decide +kernel
theorem dX1_copyFrom_72 : decode cX1_copyFrom 72 = .ok (.iaload, 1) := by decide +kernel
theorem dX1_copyFrom_73 : decode cX1_copyFrom 73 = .ok (.iastore, 1) := by decide +kernel
theorem dX1_copyFrom_74 : decode cX1_copyFrom 74 = .ok (.aload_n 0, 1) := by decide +kernel
theorem dX1_copyFrom_75 : decode cX1_copyFrom 75 = .ok (.getfield 24, 3) := by decide +kernel
theorem dX1_copyFrom_78 : decode cX1_copyFrom 78 = .ok (.iload_n 2, 1) := by decide +kernel
theorem dX1_copyFrom_79 : decode cX1_copyFrom 79 = .ok (.aload_n 1, 1) := by decide +kernel
theorem dX1_copyFrom_80 : decode cX1_copyFrom 80 = .ok (.getfield 24, 3) := by decide +kernel
theorem dX1_copyFrom_83 : decode cX1_copyFrom 83 = .ok (.iload_n 2, 1) := by decide +kernel
theorem dX1_copyFrom_84 : decode cX1_copyFrom 84 = .ok (.iaload, 1) := by decide +kernel
theorem dX1_copyFrom_85 : decode cX1_copyFrom 85 = .ok (.iastore, 1) := by decide +kernel
theorem dX1_copyFrom_86 : decode cX1_copyFrom 86 = .ok (.iinc 2 1, 3) := by decide +kernel
theorem dX1_copyFrom_89 : decode cX1_copyFrom 89 = .ok (.goto (-71), 3) := by decide +kernel
theorem dX1_copyFrom_92 : decode cX1_copyFrom 92 = .ok (.return_, 1) := by decide +kernel
theorem dX1_addMan_0 : decode cX1_addMan 0 = .ok (.aload_n 0, 1) := by decide +kernel
theorem dX1_addMan_1 : decode cX1_addMan 1 = .ok (.getfield 36, 3) := by decide +kernel
theorem dX1_addMan_4 : decode cX1_addMan 4 = .ok (.iconst 5, 1) := by decide +kernel
theorem dX1_addMan_5 : decode cX1_addMan 5 = .ok (.if_icmp .ge 66, 3) := by decide +kernel
theorem dX1_addMan_8 : decode cX1_addMan 8 = .ok (.aload_n 0, 1) := by decide +kernel
theorem dX1_addMan_9 : decode cX1_addMan 9 = .ok (.getfield 9, 3) := by decide +kernel
theorem dX1_addMan_12 : decode cX1_addMan 12 = .ok (.aload_n 0, 1) := by decide +kernel
theorem dX1_addMan_13 : decode cX1_addMan 13 = .ok (.getfield 36, 3) := by decide +kernel
theorem dX1_addMan_16 : decode cX1_addMan 16 = .ok (.iload_n 1, 1) := by decide +kernel
theorem dX1_addMan_17 : decode cX1_addMan 17 = .ok (.iastore, 1) := by decide +kernel
theorem dX1_addMan_18 : decode cX1_addMan 18 = .ok (.aload_n 0, 1) := by decide +kernel
theorem dX1_addMan_19 : decode cX1_addMan 19 = .ok (.getfield 15, 3) := by decide +kernel
theorem dX1_addMan_22 : decode cX1_addMan 22 = .ok (.aload_n 0, 1) := by decide +kernel
theorem dX1_addMan_23 : decode cX1_addMan 23 = .ok (.getfield 36, 3) := by decide +kernel
theorem dX1_addMan_26 : decode cX1_addMan 26 = .ok (.iload_n 2, 1) := by decide +kernel
theorem dX1_addMan_27 : decode cX1_addMan 27 = .ok (.iastore, 1) := by decide +kernel
theorem dX1_addMan_28 : decode cX1_addMan 28 = .ok (.aload_n 0, 1) := by decide +kernel
theorem dX1_addMan_29 : decode cX1_addMan 29 = .ok (.getfield 18, 3) := by decide +kernel
theorem dX1_addMan_32 : decode cX1_addMan 32 = .ok (.aload_n 0, 1) := by decide +kernel
theorem dX1_addMan_33 : decode cX1_addMan 33 = .ok (.getfield 36, 3) := by decide +kernel
theorem dX1_addMan_36 : decode cX1_addMan 36 = .ok (.iload_n 3, 1) := by decide +kernel
theorem dX1_addMan_37 : decode cX1_addMan 37 = .ok (.iastore, 1) := by decide +kernel
theorem dX1_addMan_38 : decode cX1_addMan 38 = .ok (.aload_n 0, 1) := by decide +kernel
theorem dX1_addMan_39 : decode cX1_addMan 39 = .ok (.getfield 21, 3) := by decide +kernel
theorem dX1_addMan_42 : decode cX1_addMan 42 = .ok (.aload_n 0, 1) := by decide +kernel
theorem dX1_addMan_43 : decode cX1_addMan 43 = .ok (.getfield 36, 3) := by decide +kernel
theorem dX1_addMan_46 : decode cX1_addMan 46 = .ok (.iconst 0, 1) := by decide +kernel
theorem dX1_addMan_47 : decode cX1_addMan 47 = .ok (.iastore, 1) := by decide +kernel
theorem dX1_addMan_48 : decode cX1_addMan 48 = .ok (.aload_n 0, 1) := by decide +kernel
theorem dX1_addMan_49 : decode cX1_addMan 49 = .ok (.getfield 24, 3) := by decide +kernel
theorem dX1_addMan_52 : decode cX1_addMan 52 = .ok (.aload_n 0, 1) := by decide +kernel
theorem dX1_addMan_53 : decode cX1_addMan 53 = .ok (.getfield 36, 3) := by decide +kernel
theorem dX1_addMan_56 : decode cX1_addMan 56 = .ok (.aload_n 0, 1) := by decide +kernel
theorem dX1_addMan_57 : decode cX1_addMan 57 = .ok (.getfield 36, 3) := by decide +kernel
theorem dX1_addMan_60 : decode cX1_addMan 60 = .ok (.iastore, 1) := by decide +kernel
theorem dX1_addMan_61 : decode cX1_addMan 61 = .ok (.aload_n 0, 1) := by decide +kernel
theorem dX1_addMan_62 : decode cX1_addMan 62 = .ok (.dup, 1) := by decide +kernel
theorem dX1_addMan_63 : decode cX1_addMan 63 = .ok (.getfield 36, 3) := by decide +kernel
theorem dX1_addMan_66 : decode cX1_addMan 66 = .ok (.iconst 1, 1) := by decide +kernel
theorem dX1_addMan_67 : decode cX1_addMan 67 = .ok (.iadd, 1) := by decide +kernel
theorem dX1_addMan_68 : decode cX1_addMan 68 = .ok (.putfield 36, 3) := by decide +kernel
theorem dX1_addMan_71 : decode cX1_addMan 71 = .ok (.return_, 1) := by decide +kernel
theorem dX1_rowOf_0 : decode cX1_rowOf 0 = .ok (.iload_n 1, 1) := by decide +kernel
theorem dX1_rowOf_1 : decode cX1_rowOf 1 = .ok (.tableswitch 42 0 2 #[27, 32, 37], 27) := by decide +kernel
theorem dX1_rowOf_28 : decode cX1_rowOf 28 = .ok (.aload_n 0, 1) := by decide +kernel
theorem dX1_rowOf_29 : decode cX1_rowOf 29 = .ok (.getfield 9, 3) := by decide +kernel
theorem dX1_rowOf_32 : decode cX1_rowOf 32 = .ok (.areturn, 1) := by decide +kernel
theorem dX1_rowOf_33 : decode cX1_rowOf 33 = .ok (.aload_n 0, 1) := by decide +kernel
theorem dX1_rowOf_34 : decode cX1_rowOf 34 = .ok (.getfield 15, 3) := by decide +kernel
theorem dX1_rowOf_37 : decode cX1_rowOf 37 = .ok (.areturn, 1) := by decide +kernel
theorem dX1_rowOf_38 : decode cX1_rowOf 38 = .ok (.aload_n 0, 1) := by decide +kernel
theorem dX1_rowOf_39 : decode cX1_rowOf 39 = .ok (.getfield 18, 3) := by decide +kernel
theorem dX1_rowOf_42 : decode cX1_rowOf 42 = .ok (.areturn, 1) := by decide +kernel
theorem dX1_rowOf_43 : decode cX1_rowOf 43 = .ok (.aload_n 0, 1) := by decide +kernel
theorem dX1_rowOf_44 : decode cX1_rowOf 44 = .ok (.getfield 21, 3) := by decide +kernel
theorem dX1_rowOf_47 : decode cX1_rowOf 47 = .ok (.areturn, 1) := by decide +kernel
theorem dX1_stature_0 : decode cX1_stature 0 = .ok (.aload_n 0, 1) := by decide +kernel
theorem dX1_stature_1 : decode cX1_stature 1 = .ok (.getfield 15, 3) := by decide +kernel
theorem dX1_stature_4 : decode cX1_stature 4 = .ok (.iload_n 1, 1) := by decide +kernel
theorem dX1_stature_5 : decode cX1_stature 5 = .ok (.iaload, 1) := by decide +kernel
theorem dX1_stature_6 : decode cX1_stature 6 = .ok (.aload_n 0, 1) := by decide +kernel
theorem dX1_stature_7 : decode cX1_stature 7 = .ok (.getfield 18, 3) := by decide +kernel
theorem dX1_stature_10 : decode cX1_stature 10 = .ok (.iload_n 1, 1) := by decide +kernel
theorem dX1_stature_11 : decode cX1_stature 11 = .ok (.iaload, 1) := by decide +kernel
theorem dX1_stature_12 : decode cX1_stature 12 = .ok (.iadd, 1) := by decide +kernel
theorem dX1_stature_13 : decode cX1_stature 13 = .ok (.istore_n 2, 1) := by decide +kernel
theorem dX1_stature_14 : decode cX1_stature 14 = .ok (.aload_n 0, 1) := by decide +kernel
theorem dX1_stature_15 : decode cX1_stature 15 = .ok (.getfield 9, 3) := by decide +kernel
theorem dX1_stature_18 : decode cX1_stature 18 = .ok (.iload_n 1, 1) := by decide +kernel
theorem dX1_stature_19 : decode cX1_stature 19 = .ok (.iaload, 1) := by decide +kernel
theorem dX1_stature_20 : decode cX1_stature 20 = .ok (.iconst 2, 1) := by decide +kernel
theorem dX1_stature_21 : decode cX1_stature 21 = .ok (.if_icmp .ne 7, 3) := by decide +kernel
theorem dX1_stature_24 : decode cX1_stature 24 = .ok (.iload_n 2, 1) := by decide +kernel
theorem dX1_stature_25 : decode cX1_stature 25 = .ok (.iconst 2, 1) := by decide +kernel
theorem dX1_stature_26 : decode cX1_stature 26 = .ok (.isub, 1) := by decide +kernel
theorem dX1_stature_27 : decode cX1_stature 27 = .ok (.ireturn, 1) := by decide +kernel
theorem dX1_stature_28 : decode cX1_stature 28 = .ok (.aload_n 0, 1) := by decide +kernel
theorem dX1_stature_29 : decode cX1_stature 29 = .ok (.getfield 9, 3) := by decide +kernel
theorem dX1_stature_32 : decode cX1_stature 32 = .ok (.iload_n 1, 1) := by decide +kernel
theorem dX1_stature_33 : decode cX1_stature 33 = .ok (.iaload, 1) := by decide +kernel
theorem dX1_stature_34 : decode cX1_stature 34 = .ok (.iconst 3, 1) := by decide +kernel
theorem dX1_stature_35 : decode cX1_stature 35 = .ok (.if_icmp .ne 9, 3) := by decide +kernel
theorem dX1_stature_38 : decode cX1_stature 38 = .ok (.iload_n 2, 1) := by decide +kernel
theorem dX1_stature_39 : decode cX1_stature 39 = .ok (.iconst 3, 1) := by decide +kernel
theorem dX1_stature_40 : decode cX1_stature 40 = .ok (.iadd, 1) := by decide +kernel
theorem dX1_stature_41 : decode cX1_stature 41 = .ok (.goto 4, 3) := by decide +kernel
theorem dX1_stature_44 : decode cX1_stature 44 = .ok (.iload_n 2, 1) := by decide +kernel
theorem dX1_stature_45 : decode cX1_stature 45 = .ok (.ireturn, 1) := by decide +kernel
theorem dX1_lineUp_0 : decode cX1_lineUp 0 = .ok (.iconst 0, 1) := by decide +kernel
theorem dX1_lineUp_1 : decode cX1_lineUp 1 = .ok (.istore_n 1, 1) := by decide +kernel
theorem dX1_lineUp_2 : decode cX1_lineUp 2 = .ok (.iload_n 1, 1) := by decide +kernel
theorem dX1_lineUp_3 : decode cX1_lineUp 3 = .ok (.aload_n 0, 1) := by decide +kernel
theorem dX1_lineUp_4 : decode cX1_lineUp 4 = .ok (.getfield 36, 3) := by decide +kernel
theorem dX1_lineUp_7 : decode cX1_lineUp 7 = .ok (.if_icmp .ge 69, 3) := by decide +kernel
theorem dX1_lineUp_10 : decode cX1_lineUp 10 = .ok (.aload_n 0, 1) := by decide +kernel
theorem dX1_lineUp_11 : decode cX1_lineUp 11 = .ok (.getfield 27, 3) := by decide +kernel
theorem dX1_lineUp_14 : decode cX1_lineUp 14 = .ok (.iload_n 1, 1) := by decide +kernel
theorem dX1_lineUp_15 : decode cX1_lineUp 15 = .ok (.aload_n 0, 1) := by decide +kernel
theorem dX1_lineUp_16 : decode cX1_lineUp 16 = .ok (.iload_n 1, 1) := by decide +kernel
theorem dX1_lineUp_17 : decode cX1_lineUp 17 = .ok (.invokevirtual 43, 3) := by decide +kernel
theorem dX1_lineUp_20 : decode cX1_lineUp 20 = .ok (.iastore, 1) := by decide +kernel
theorem dX1_lineUp_21 : decode cX1_lineUp 21 = .ok (.iload_n 1, 1) := by decide +kernel
theorem dX1_lineUp_22 : decode cX1_lineUp 22 = .ok (.istore_n 2, 1) := by decide +kernel
theorem dX1_lineUp_23 : decode cX1_lineUp 23 = .ok (.iload_n 2, 1) := by decide +kernel
theorem dX1_lineUp_24 : decode cX1_lineUp 24 = .ok (.ifCond .le 39, 3) := by decide +kernel
theorem dX1_lineUp_27 : decode cX1_lineUp 27 = .ok (.aload_n 0, 1) := by decide +kernel
theorem dX1_lineUp_28 : decode cX1_lineUp 28 = .ok (.iload_n 1, 1) := by decide +kernel
theorem dX1_lineUp_29 : decode cX1_lineUp 29 = .ok (.aload_n 0, 1) := by decide +kernel
theorem dX1_lineUp_30 : decode cX1_lineUp 30 = .ok (.getfield 30, 3) := by decide +kernel
theorem dX1_lineUp_33 : decode cX1_lineUp 33 = .ok (.iload_n 2, 1) := by decide +kernel
theorem dX1_lineUp_34 : decode cX1_lineUp 34 = .ok (.iconst 1, 1) := by decide +kernel
theorem dX1_lineUp_35 : decode cX1_lineUp 35 = .ok (.isub, 1) := by decide +kernel
theorem dX1_lineUp_36 : decode cX1_lineUp 36 = .ok (.iaload, 1) := by decide +kernel
theorem dX1_lineUp_37 : decode cX1_lineUp 37 = .ok (.invokevirtual 47, 3) := by decide +kernel
theorem dX1_lineUp_40 : decode cX1_lineUp 40 = .ok (.ifCond .eq 23, 3) := by decide +kernel
theorem dX1_lineUp_43 : decode cX1_lineUp 43 = .ok (.aload_n 0, 1) := by decide +kernel
theorem dX1_lineUp_44 : decode cX1_lineUp 44 = .ok (.getfield 30, 3) := by decide +kernel
theorem dX1_lineUp_47 : decode cX1_lineUp 47 = .ok (.iload_n 2, 1) := by decide +kernel
theorem dX1_lineUp_48 : decode cX1_lineUp 48 = .ok (.aload_n 0, 1) := by decide +kernel
theorem dX1_lineUp_49 : decode cX1_lineUp 49 = .ok (.getfield 30, 3) := by decide +kernel
theorem dX1_lineUp_52 : decode cX1_lineUp 52 = .ok (.iload_n 2, 1) := by decide +kernel
theorem dX1_lineUp_53 : decode cX1_lineUp 53 = .ok (.iconst 1, 1) := by decide +kernel
theorem dX1_lineUp_54 : decode cX1_lineUp 54 = .ok (.isub, 1) := by decide +kernel
theorem dX1_lineUp_55 : decode cX1_lineUp 55 = .ok (.iaload, 1) := by decide +kernel
theorem dX1_lineUp_56 : decode cX1_lineUp 56 = .ok (.iastore, 1) := by decide +kernel
theorem dX1_lineUp_57 : decode cX1_lineUp 57 = .ok (.iinc 2 (-1), 3) := by decide +kernel
theorem dX1_lineUp_60 : decode cX1_lineUp 60 = .ok (.goto (-37), 3) := by decide +kernel
theorem dX1_lineUp_63 : decode cX1_lineUp 63 = .ok (.aload_n 0, 1) := by decide +kernel
theorem dX1_lineUp_64 : decode cX1_lineUp 64 = .ok (.getfield 30, 3) := by decide +kernel
theorem dX1_lineUp_67 : decode cX1_lineUp 67 = .ok (.iload_n 2, 1) := by decide +kernel
theorem dX1_lineUp_68 : decode cX1_lineUp 68 = .ok (.iload_n 1, 1) := by decide +kernel
theorem dX1_lineUp_69 : decode cX1_lineUp 69 = .ok (.iastore, 1) := by decide +kernel
theorem dX1_lineUp_70 : decode cX1_lineUp 70 = .ok (.iinc 1 1, 3) := by decide +kernel
theorem dX1_lineUp_73 : decode cX1_lineUp 73 = .ok (.goto (-71), 3) := by decide +kernel
theorem dX1_lineUp_76 : decode cX1_lineUp 76 = .ok (.iconst 0, 1) := by decide +kernel
theorem dX1_lineUp_77 : decode cX1_lineUp 77 = .ok (.istore_n 1, 1) := by decide +kernel
theorem dX1_lineUp_78 : decode cX1_lineUp 78 = .ok (.iload_n 1, 1) := by decide +kernel
theorem dX1_lineUp_79 : decode cX1_lineUp 79 = .ok (.aload_n 0, 1) := by decide +kernel
theorem dX1_lineUp_80 : decode cX1_lineUp 80 = .ok (.getfield 36, 3) := by decide +kernel
theorem dX1_lineUp_83 : decode cX1_lineUp 83 = .ok (.if_icmp .ge 21, 3) := by decide +kernel
theorem dX1_lineUp_86 : decode cX1_lineUp 86 = .ok (.aload_n 0, 1) := by decide +kernel
theorem dX1_lineUp_87 : decode cX1_lineUp 87 = .ok (.getfield 33, 3) := by decide +kernel
theorem dX1_lineUp_90 : decode cX1_lineUp 90 = .ok (.aload_n 0, 1) := by decide +kernel
theorem dX1_lineUp_91 : decode cX1_lineUp 91 = .ok (.getfield 30, 3) := by decide +kernel
theorem dX1_lineUp_94 : decode cX1_lineUp 94 = .ok (.iload_n 1, 1) := by decide +kernel
theorem dX1_lineUp_95 : decode cX1_lineUp 95 = .ok (.iaload, 1) := by decide +kernel
theorem dX1_lineUp_96 : decode cX1_lineUp 96 = .ok (.iload_n 1, 1) := by decide +kernel
theorem dX1_lineUp_97 : decode cX1_lineUp 97 = .ok (.iastore, 1) := by decide +kernel
theorem dX1_lineUp_98 : decode cX1_lineUp 98 = .ok (.iinc 1 1, 3) := by decide +kernel
theorem dX1_lineUp_101 : decode cX1_lineUp 101 = .ok (.goto (-23), 3) := by decide +kernel
theorem dX1_lineUp_104 : decode cX1_lineUp 104 = .ok (.return_, 1) := by decide +kernel
theorem dX1_standsAhead_0 : decode cX1_standsAhead 0 = .ok (.aload_n 0, 1) := by decide +kernel
theorem dX1_standsAhead_1 : decode cX1_standsAhead 1 = .ok (.getfield 27, 3) := by decide +kernel
theorem dX1_standsAhead_4 : decode cX1_standsAhead 4 = .ok (.iload_n 1, 1) := by decide +kernel
theorem dX1_standsAhead_5 : decode cX1_standsAhead 5 = .ok (.iaload, 1) := by decide +kernel
theorem dX1_standsAhead_6 : decode cX1_standsAhead 6 = .ok (.aload_n 0, 1) := by decide +kernel
theorem dX1_standsAhead_7 : decode cX1_standsAhead 7 = .ok (.getfield 27, 3) := by decide +kernel
theorem dX1_standsAhead_10 : decode cX1_standsAhead 10 = .ok (.iload_n 2, 1) := by decide +kernel
theorem dX1_standsAhead_11 : decode cX1_standsAhead 11 = .ok (.iaload, 1) := by decide +kernel
theorem dX1_standsAhead_12 : decode cX1_standsAhead 12 = .ok (.isub, 1) := by decide +kernel
theorem dX1_standsAhead_13 : decode cX1_standsAhead 13 = .ok (.istore_n 3, 1) := by decide +kernel
theorem dX1_standsAhead_14 : decode cX1_standsAhead 14 = .ok (.iload_n 3, 1) := by decide +kernel
theorem dX1_standsAhead_15 : decode cX1_standsAhead 15 = .ok (.ifCond .lt 22, 3) := by decide +kernel
theorem dX1_standsAhead_18 : decode cX1_standsAhead 18 = .ok (.iload_n 3, 1) := by decide +kernel
theorem dX1_standsAhead_19 : decode cX1_standsAhead 19 = .ok (.ifCond .ne 22, 3) := by decide +kernel
theorem dX1_standsAhead_22 : decode cX1_standsAhead 22 = .ok (.aload_n 0, 1) := by decide +kernel
theorem dX1_standsAhead_23 : decode cX1_standsAhead 23 = .ok (.getfield 21, 3) := by decide +kernel
theorem dX1_standsAhead_26 : decode cX1_standsAhead 26 = .ok (.iload_n 1, 1) := by decide +kernel
theorem dX1_standsAhead_27 : decode cX1_standsAhead 27 = .ok (.iaload, 1) := by decide +kernel
theorem dX1_standsAhead_28 : decode cX1_standsAhead 28 = .ok (.aload_n 0, 1) := by decide +kernel
theorem dX1_standsAhead_29 : decode cX1_standsAhead 29 = .ok (.getfield 21, 3) := by decide +kernel
theorem dX1_standsAhead_32 : decode cX1_standsAhead 32 = .ok (.iload_n 2, 1) := by decide +kernel
theorem dX1_standsAhead_33 : decode cX1_standsAhead 33 = .ok (.iaload, 1) := by decide +kernel
theorem dX1_standsAhead_34 : decode cX1_standsAhead 34 = .ok (.if_icmp .le 7, 3) := by decide +kernel
theorem dX1_standsAhead_37 : decode cX1_standsAhead 37 = .ok (.iconst 1, 1) := by decide +kernel
theorem dX1_standsAhead_38 : decode cX1_standsAhead 38 = .ok (.goto 4, 3) := by decide +kernel
theorem dX1_standsAhead_41 : decode cX1_standsAhead 41 = .ok (.iconst 0, 1) := by decide +kernel
theorem dX1_standsAhead_42 : decode cX1_standsAhead 42 = .ok (.ireturn, 1) := by decide +kernel
theorem dX1_step_0 : decode cX1_step 0 = .ok (.aload_n 0, 1) := by decide +kernel
theorem dX1_step_1 : decode cX1_step 1 = .ok (.invokevirtual 51, 3) := by decide +kernel
theorem dX1_step_4 : decode cX1_step 4 = .ok (.aload_n 0, 1) := by decide +kernel
theorem dX1_step_5 : decode cX1_step 5 = .ok (.iload_n 1, 1) := by decide +kernel
theorem dX1_step_6 : decode cX1_step 6 = .ok (.invokevirtual 54, 3) := by decide +kernel
theorem dX1_step_9 : decode cX1_step 9 = .ok (.aload_n 0, 1) := by decide +kernel
theorem dX1_step_10 : decode cX1_step 10 = .ok (.invokevirtual 58, 3) := by decide +kernel
theorem dX1_step_13 : decode cX1_step 13 = .ok (.aload_n 0, 1) := by decide +kernel
theorem dX1_step_14 : decode cX1_step 14 = .ok (.invokevirtual 61, 3) := by decide +kernel
theorem dX1_step_17 : decode cX1_step 17 = .ok (.aload_n 0, 1) := by decide +kernel
theorem dX1_step_18 : decode cX1_step 18 = .ok (.aload_n 0, 1) := by decide +kernel
theorem dX1_step_19 : decode cX1_step 19 = .ok (.getfield 40, 3) := by decide +kernel
theorem dX1_step_22 : decode cX1_step 22 = .ok (.iconst 1, 1) := by decide +kernel
theorem dX1_step_23 : decode cX1_step 23 = .ok (.iadd, 1) := by decide +kernel
theorem dX1_step_24 : decode cX1_step 24 = .ok (.sipush 999, 3) := by decide +kernel
theorem dX1_step_27 : decode cX1_step 27 = .ok (.invokestatic 64, 3) := by decide +kernel
theorem dX1_step_30 : decode cX1_step 30 = .ok (.putfield 40, 3) := by decide +kernel
theorem dX1_step_33 : decode cX1_step 33 = .ok (.return_, 1) := by decide +kernel
theorem dX1_change_0 : decode cX1_change 0 = .ok (.iconst 0, 1) := by decide +kernel
theorem dX1_change_1 : decode cX1_change 1 = .ok (.istore_n 2, 1) := by decide +kernel
theorem dX1_change_2 : decode cX1_change 2 = .ok (.iload_n 2, 1) := by decide +kernel
theorem dX1_change_3 : decode cX1_change 3 = .ok (.aload_n 0, 1) := by decide +kernel
theorem dX1_change_4 : decode cX1_change 4 = .ok (.getfield 36, 3) := by decide +kernel
theorem dX1_change_7 : decode cX1_change 7 = .ok (.if_icmp .ge 36, 3) := by decide +kernel
theorem dX1_change_10 : decode cX1_change 10 = .ok (.aload_n 0, 1) := by decide +kernel
theorem dX1_change_11 : decode cX1_change 11 = .ok (.getfield 24, 3) := by decide +kernel
theorem dX1_change_14 : decode cX1_change 14 = .ok (.iload_n 2, 1) := by decide +kernel
theorem dX1_change_15 : decode cX1_change 15 = .ok (.aload_n 0, 1) := by decide +kernel
theorem dX1_change_16 : decode cX1_change 16 = .ok (.getfield 30, 3) := by decide +kernel
theorem dX1_change_19 : decode cX1_change 19 = .ok (.aload_n 0, 1) := by decide +kernel
theorem dX1_change_20 : decode cX1_change 20 = .ok (.iload_n 1, 1) := by decide +kernel
theorem dX1_change_21 : decode cX1_change 21 = .ok (.aload_n 0, 1) := by decide +kernel
theorem dX1_change_22 : decode cX1_change 22 = .ok (.getfield 33, 3) := by decide +kernel
theorem dX1_change_25 : decode cX1_change 25 = .ok (.aload_n 0, 1) := by decide +kernel
theorem dX1_change_26 : decode cX1_change 26 = .ok (.getfield 24, 3) := by decide +kernel
theorem dX1_change_29 : decode cX1_change 29 = .ok (.iload_n 2, 1) := by decide +kernel
theorem dX1_change_30 : decode cX1_change 30 = .ok (.iaload, 1) := by decide +kernel
theorem dX1_change_31 : decode cX1_change 31 = .ok (.iaload, 1) := by decide +kernel
theorem dX1_change_32 : decode cX1_change 32 = .ok (.invokevirtual 70, 3) := by decide +kernel
theorem dX1_change_35 : decode cX1_change 35 = .ok (.iaload, 1) := by decide +kernel
theorem dX1_change_36 : decode cX1_change 36 = .ok (.iastore, 1) := by decide +kernel
theorem dX1_change_37 : decode cX1_change 37 = .ok (.iinc 2 1, 3) := by decide +kernel
theorem dX1_change_40 : decode cX1_change 40 = .ok (.goto (-38), 3) := by decide +kernel
theorem dX1_change_43 : decode cX1_change 43 = .ok (.return_, 1) := by decide +kernel
theorem dX1_nextRank_0 : decode cX1_nextRank 0 = .ok (.aload_n 0, 1) := by decide +kernel
theorem dX1_nextRank_1 : decode cX1_nextRank 1 = .ok (.getfield 36, 3) := by decide +kernel
theorem dX1_nextRank_4 : decode cX1_nextRank 4 = .ok (.iconst 1, 1) := by decide +kernel
theorem dX1_nextRank_5 : decode cX1_nextRank 5 = .ok (.if_icmp .ge 5, 3) := by decide +kernel
theorem dX1_nextRank_8 : decode cX1_nextRank 8 = .ok (.iconst 0, 1) := by decide +kernel
theorem dX1_nextRank_9 : decode cX1_nextRank 9 = .ok (.ireturn, 1) := by decide +kernel
theorem dX1_nextRank_10 : decode cX1_nextRank 10 = .ok (.iload_n 1, 1) := by decide +kernel
theorem dX1_nextRank_11 : decode cX1_nextRank 11 = .ok (.tableswitch 57 0 2 #[25, 34, 48], 25) := by decide +kernel
theorem dX1_nextRank_36 : decode cX1_nextRank 36 = .ok (.iload_n 2, 1) := by decide +kernel
theorem dX1_nextRank_37 : decode cX1_nextRank 37 = .ok (.iconst 1, 1) := by decide +kernel
theorem dX1_nextRank_38 : decode cX1_nextRank 38 = .ok (.iadd, 1) := by decide +kernel
theorem dX1_nextRank_39 : decode cX1_nextRank 39 = .ok (.aload_n 0, 1) := by decide +kernel
theorem dX1_nextRank_40 : decode cX1_nextRank 40 = .ok (.getfield 36, 3) := by decide +kernel
theorem dX1_nextRank_43 : decode cX1_nextRank 43 = .ok (.irem, 1) := by decide +kernel
theorem dX1_nextRank_44 : decode cX1_nextRank 44 = .ok (.ireturn, 1) := by decide +kernel
theorem dX1_nextRank_45 : decode cX1_nextRank 45 = .ok (.iload_n 2, 1) := by decide +kernel
theorem dX1_nextRank_46 : decode cX1_nextRank 46 = .ok (.aload_n 0, 1) := by decide +kernel
theorem dX1_nextRank_47 : decode cX1_nextRank 47 = .ok (.getfield 36, 3) := by decide +kernel
theorem dX1_nextRank_50 : decode cX1_nextRank 50 = .ok (.iadd, 1) := by decide +kernel
theorem dX1_nextRank_51 : decode cX1_nextRank 51 = .ok (.iconst 1, 1) := by decide +kernel
theorem dX1_nextRank_52 : decode cX1_nextRank 52 = .ok (.isub, 1) := by decide +kernel
theorem dX1_nextRank_53 : decode cX1_nextRank 53 = .ok (.aload_n 0, 1) := by decide +kernel
theorem dX1_nextRank_54 : decode cX1_nextRank 54 = .ok (.getfield 36, 3) := by decide +kernel
theorem dX1_nextRank_57 : decode cX1_nextRank 57 = .ok (.irem, 1) := by decide +kernel
theorem dX1_nextRank_58 : decode cX1_nextRank 58 = .ok (.ireturn, 1) := by decide +kernel
theorem dX1_nextRank_59 : decode cX1_nextRank 59 = .ok (.iload_n 2, 1) := by decide +kernel
theorem dX1_nextRank_60 : decode cX1_nextRank 60 = .ok (.iconst 2, 1) := by decide +kernel
theorem dX1_nextRank_61 : decode cX1_nextRank 61 = .ok (.iadd, 1) := by decide +kernel
theorem dX1_nextRank_62 : decode cX1_nextRank 62 = .ok (.aload_n 0, 1) := by decide +kernel
theorem dX1_nextRank_63 : decode cX1_nextRank 63 = .ok (.getfield 36, 3) := by decide +kernel
theorem dX1_nextRank_66 : decode cX1_nextRank 66 = .ok (.irem, 1) := by decide +kernel
theorem dX1_nextRank_67 : decode cX1_nextRank 67 = .ok (.ireturn, 1) := by decide +kernel
theorem dX1_nextRank_68 : decode cX1_nextRank 68 = .ok (.aload_n 0, 1) := by decide +kernel
theorem dX1_nextRank_69 : decode cX1_nextRank 69 = .ok (.getfield 36, 3) := by decide +kernel
theorem dX1_nextRank_72 : decode cX1_nextRank 72 = .ok (.iconst 1, 1) := by decide +kernel
theorem dX1_nextRank_73 : decode cX1_nextRank 73 = .ok (.isub, 1) := by decide +kernel
theorem dX1_nextRank_74 : decode cX1_nextRank 74 = .ok (.iload_n 2, 1) := by decide +kernel
theorem dX1_nextRank_75 : decode cX1_nextRank 75 = .ok (.isub, 1) := by decide +kernel
theorem dX1_nextRank_76 : decode cX1_nextRank 76 = .ok (.ireturn, 1) := by decide +kernel
theorem dX1_wear_0 : decode cX1_wear 0 = .ok (.aload_n 0, 1) := by decide +kernel
theorem dX1_wear_1 : decode cX1_wear 1 = .ok (.getfield 40, 3) := by decide +kernel
theorem dX1_wear_4 : decode cX1_wear 4 = .ok (.iconst 2, 1) := by decide +kernel
theorem dX1_wear_5 : decode cX1_wear 5 = .ok (.irem, 1) := by decide +kernel
theorem dX1_wear_6 : decode cX1_wear 6 = .ok (.iconst 1, 1) := by decide +kernel
theorem dX1_wear_7 : decode cX1_wear 7 = .ok (.if_icmp .ne 7, 3) := by decide +kernel
theorem dX1_wear_10 : decode cX1_wear 10 = .ok (.iconst 1, 1) := by decide +kernel
theorem dX1_wear_11 : decode cX1_wear 11 = .ok (.goto 4, 3) := by decide +kernel
theorem dX1_wear_14 : decode cX1_wear 14 = .ok (.iconst 0, 1) := by decide +kernel
theorem dX1_wear_15 : decode cX1_wear 15 = .ok (.istore_n 1, 1) := by decide +kernel
theorem dX1_wear_16 : decode cX1_wear 16 = .ok (.iconst 0, 1) := by decide +kernel
theorem dX1_wear_17 : decode cX1_wear 17 = .ok (.istore_n 2, 1) := by decide +kernel
theorem dX1_wear_18 : decode cX1_wear 18 = .ok (.iload_n 2, 1) := by decide +kernel
theorem dX1_wear_19 : decode cX1_wear 19 = .ok (.aload_n 0, 1) := by decide +kernel
theorem dX1_wear_20 : decode cX1_wear 20 = .ok (.getfield 36, 3) := by decide +kernel
theorem dX1_wear_23 : decode cX1_wear 23 = .ok (.if_icmp .ge 62, 3) := by decide +kernel
theorem dX1_wear_26 : decode cX1_wear 26 = .ok (.aload_n 0, 1) := by decide +kernel
theorem dX1_wear_27 : decode cX1_wear 27 = .ok (.getfield 9, 3) := by decide +kernel
theorem dX1_wear_30 : decode cX1_wear 30 = .ok (.iload_n 2, 1) := by decide +kernel
theorem dX1_wear_31 : decode cX1_wear 31 = .ok (.iaload, 1) := by decide +kernel
theorem dX1_wear_32 : decode cX1_wear 32 = .ok (.iconst 1, 1) := by decide +kernel
theorem dX1_wear_33 : decode cX1_wear 33 = .ok (.if_icmp .ne 7, 3) := by decide +kernel
theorem dX1_wear_36 : decode cX1_wear 36 = .ok (.iload_n 1, 1) := by decide +kernel
theorem dX1_wear_37 : decode cX1_wear 37 = .ok (.goto 18, 3) := by decide +kernel
theorem dX1_wear_40 : decode cX1_wear 40 = .ok (.aload_n 0, 1) := by decide +kernel
theorem dX1_wear_41 : decode cX1_wear 41 = .ok (.getfield 9, 3) := by decide +kernel
theorem dX1_wear_44 : decode cX1_wear 44 = .ok (.iload_n 2, 1) := by decide +kernel
theorem dX1_wear_45 : decode cX1_wear 45 = .ok (.iaload, 1) := by decide +kernel
theorem dX1_wear_46 : decode cX1_wear 46 = .ok (.iconst 3, 1) := by decide +kernel
theorem dX1_wear_47 : decode cX1_wear 47 = .ok (.if_icmp .eq 7, 3) := by decide +kernel
theorem dX1_wear_50 : decode cX1_wear 50 = .ok (.iconst 1, 1) := by decide +kernel
theorem dX1_wear_51 : decode cX1_wear 51 = .ok (.goto 4, 3) := by decide +kernel
theorem dX1_wear_54 : decode cX1_wear 54 = .ok (.iconst 0, 1) := by decide +kernel
theorem dX1_wear_55 : decode cX1_wear 55 = .ok (.istore_n 3, 1) := by decide +kernel
theorem dX1_wear_56 : decode cX1_wear 56 = .ok (.iload_n 3, 1) := by decide +kernel
theorem dX1_wear_57 : decode cX1_wear 57 = .ok (.ifCond .eq 22, 3) := by decide +kernel
theorem dX1_wear_60 : decode cX1_wear 60 = .ok (.aload_n 0, 1) := by decide +kernel
theorem dX1_wear_61 : decode cX1_wear 61 = .ok (.getfield 18, 3) := by decide +kernel
theorem dX1_wear_64 : decode cX1_wear 64 = .ok (.iload_n 2, 1) := by decide +kernel
theorem dX1_wear_65 : decode cX1_wear 65 = .ok (.iaload, 1) := by decide +kernel
theorem dX1_wear_66 : decode cX1_wear 66 = .ok (.ifCond .le 13, 3) := by decide +kernel
theorem dX1_wear_69 : decode cX1_wear 69 = .ok (.aload_n 0, 1) := by decide +kernel
theorem dX1_wear_70 : decode cX1_wear 70 = .ok (.getfield 18, 3) := by decide +kernel
theorem dX1_wear_73 : decode cX1_wear 73 = .ok (.iload_n 2, 1) := by decide +kernel
theorem dX1_wear_74 : decode cX1_wear 74 = .ok (.dup2, 1) := by decide +kernel
theorem dX1_wear_75 : decode cX1_wear 75 = .ok (.iaload, 1) := by decide +kernel
theorem dX1_wear_76 : decode cX1_wear 76 = .ok (.iconst 1, 1) := by decide +kernel
theorem dX1_wear_77 : decode cX1_wear 77 = .ok (.isub, 1) := by decide +kernel
theorem dX1_wear_78 : decode cX1_wear 78 = .ok (.iastore, 1) := by decide +kernel
theorem dX1_wear_79 : decode cX1_wear 79 = .ok (.iinc 2 1, 3) := by decide +kernel
theorem dX1_wear_82 : decode cX1_wear 82 = .ok (.goto (-64), 3) := by decide +kernel
theorem dX1_wear_85 : decode cX1_wear 85 = .ok (.return_, 1) := by decide +kernel
theorem dX1_warm_0 : decode cX1_warm 0 = .ok (.iconst 0, 1) := by decide +kernel
theorem dX1_warm_1 : decode cX1_warm 1 = .ok (.istore_n 1, 1) := by decide +kernel
theorem dX1_warm_2 : decode cX1_warm 2 = .ok (.iload_n 1, 1) := by decide +kernel
theorem dX1_warm_3 : decode cX1_warm 3 = .ok (.aload_n 0, 1) := by decide +kernel
theorem dX1_warm_4 : decode cX1_warm 4 = .ok (.getfield 36, 3) := by decide +kernel
theorem dX1_warm_7 : decode cX1_warm 7 = .ok (.if_icmp .ge 38, 3) := by decide +kernel
theorem dX1_warm_10 : decode cX1_warm 10 = .ok (.aload_n 0, 1) := by decide +kernel
theorem dX1_warm_11 : decode cX1_warm 11 = .ok (.getfield 24, 3) := by decide +kernel
theorem dX1_warm_14 : decode cX1_warm 14 = .ok (.iload_n 1, 1) := by decide +kernel
theorem dX1_warm_15 : decode cX1_warm 15 = .ok (.iaload, 1) := by decide +kernel
theorem dX1_warm_16 : decode cX1_warm 16 = .ok (.iload_n 1, 1) := by decide +kernel
theorem dX1_warm_17 : decode cX1_warm 17 = .ok (.if_icmp .ne 22, 3) := by decide +kernel
theorem dX1_warm_20 : decode cX1_warm 20 = .ok (.aload_n 0, 1) := by decide +kernel
theorem dX1_warm_21 : decode cX1_warm 21 = .ok (.getfield 21, 3) := by decide +kernel
theorem dX1_warm_24 : decode cX1_warm 24 = .ok (.iload_n 1, 1) := by decide +kernel
theorem dX1_warm_25 : decode cX1_warm 25 = .ok (.aload_n 0, 1) := by decide +kernel
theorem dX1_warm_26 : decode cX1_warm 26 = .ok (.getfield 21, 3) := by decide +kernel
theorem dX1_warm_29 : decode cX1_warm 29 = .ok (.iload_n 1, 1) := by decide +kernel
theorem dX1_warm_30 : decode cX1_warm 30 = .ok (.iaload, 1) := by decide +kernel
theorem dX1_warm_31 : decode cX1_warm 31 = .ok (.iconst 1, 1) := by decide +kernel
theorem dX1_warm_32 : decode cX1_warm 32 = .ok (.iadd, 1) := by decide +kernel
theorem dX1_warm_33 : decode cX1_warm 33 = .ok (.bipush 9, 2) := by decide +kernel
theorem dX1_warm_35 : decode cX1_warm 35 = .ok (.invokestatic 64, 3) := by decide +kernel
theorem dX1_warm_38 : decode cX1_warm 38 = .ok (.iastore, 1) := by decide +kernel
theorem dX1_warm_39 : decode cX1_warm 39 = .ok (.iinc 1 1, 3) := by decide +kernel
theorem dX1_warm_42 : decode cX1_warm 42 = .ok (.goto (-40), 3) := by decide +kernel
theorem dX1_warm_45 : decode cX1_warm 45 = .ok (.return_, 1) := by decide +kernel
theorem dX1_roundBits_0 : decode cX1_roundBits 0 = .ok (.iconst 0, 1) := by decide +kernel
theorem dX1_roundBits_1 : decode cX1_roundBits 1 = .ok (.istore_n 1, 1) := by decide +kernel
theorem dX1_roundBits_2 : decode cX1_roundBits 2 = .ok (.iconst 0, 1) := by decide +kernel
theorem dX1_roundBits_3 : decode cX1_roundBits 3 = .ok (.istore_n 2, 1) := by decide +kernel
theorem dX1_roundBits_4 : decode cX1_roundBits 4 = .ok (.iload_n 2, 1) := by decide +kernel
theorem dX1_roundBits_5 : decode cX1_roundBits 5 = .ok (.aload_n 0, 1) := by decide +kernel
theorem dX1_roundBits_6 : decode cX1_roundBits 6 = .ok (.getfield 36, 3) := by decide +kernel
theorem dX1_roundBits_9 : decode cX1_roundBits 9 = .ok (.if_icmp .ge 25, 3) := by decide +kernel
theorem dX1_roundBits_12 : decode cX1_roundBits 12 = .ok (.aload_n 0, 1) := by decide +kernel
theorem dX1_roundBits_13 : decode cX1_roundBits 13 = .ok (.getfield 24, 3) := by decide +kernel
theorem dX1_roundBits_16 : decode cX1_roundBits 16 = .ok (.iload_n 2, 1) := by decide +kernel
theorem dX1_roundBits_17 : decode cX1_roundBits 17 = .ok (.iaload, 1) := by decide +kernel
theorem dX1_roundBits_18 : decode cX1_roundBits 18 = .ok (.iload_n 2, 1) := by decide +kernel
theorem dX1_roundBits_19 : decode cX1_roundBits 19 = .ok (.if_icmp .ne 9, 3) := by decide +kernel
theorem dX1_roundBits_22 : decode cX1_roundBits 22 = .ok (.iload_n 1, 1) := by decide +kernel
theorem dX1_roundBits_23 : decode cX1_roundBits 23 = .ok (.iconst 1, 1) := by decide +kernel
theorem dX1_roundBits_24 : decode cX1_roundBits 24 = .ok (.iload_n 2, 1) := by decide +kernel
theorem dX1_roundBits_25 : decode cX1_roundBits 25 = .ok (.ishl, 1) := by decide +kernel
theorem dX1_roundBits_26 : decode cX1_roundBits 26 = .ok (.ior, 1) := by decide +kernel
theorem dX1_roundBits_27 : decode cX1_roundBits 27 = .ok (.istore_n 1, 1) := by decide +kernel
theorem dX1_roundBits_28 : decode cX1_roundBits 28 = .ok (.iinc 2 1, 3) := by decide +kernel
theorem dX1_roundBits_31 : decode cX1_roundBits 31 = .ok (.goto (-27), 3) := by decide +kernel
theorem dX1_roundBits_34 : decode cX1_roundBits 34 = .ok (.iload_n 1, 1) := by decide +kernel
theorem dX1_roundBits_35 : decode cX1_roundBits 35 = .ok (.ireturn, 1) := by decide +kernel
theorem dX1_womanWith_0 : decode cX1_womanWith 0 = .ok (.iconst 0, 1) := by decide +kernel
theorem dX1_womanWith_1 : decode cX1_womanWith 1 = .ok (.istore_n 2, 1) := by decide +kernel
theorem dX1_womanWith_2 : decode cX1_womanWith 2 = .ok (.iload_n 2, 1) := by decide +kernel
theorem dX1_womanWith_3 : decode cX1_womanWith 3 = .ok (.aload_n 0, 1) := by decide +kernel
theorem dX1_womanWith_4 : decode cX1_womanWith 4 = .ok (.getfield 36, 3) := by decide +kernel
theorem dX1_womanWith_7 : decode cX1_womanWith 7 = .ok (.if_icmp .ge 21, 3) := by decide +kernel
theorem dX1_womanWith_10 : decode cX1_womanWith 10 = .ok (.aload_n 0, 1) := by decide +kernel
theorem dX1_womanWith_11 : decode cX1_womanWith 11 = .ok (.getfield 24, 3) := by decide +kernel
theorem dX1_womanWith_14 : decode cX1_womanWith 14 = .ok (.iload_n 2, 1) := by decide +kernel
theorem dX1_womanWith_15 : decode cX1_womanWith 15 = .ok (.iaload, 1) := by decide +kernel
theorem dX1_womanWith_16 : decode cX1_womanWith 16 = .ok (.iload_n 1, 1) := by decide +kernel
theorem dX1_womanWith_17 : decode cX1_womanWith 17 = .ok (.if_icmp .ne 5, 3) := by decide +kernel
theorem dX1_womanWith_20 : decode cX1_womanWith 20 = .ok (.iload_n 2, 1) := by decide +kernel
theorem dX1_womanWith_21 : decode cX1_womanWith 21 = .ok (.ireturn, 1) := by decide +kernel
theorem dX1_womanWith_22 : decode cX1_womanWith 22 = .ok (.iinc 2 1, 3) := by decide +kernel
theorem dX1_womanWith_25 : decode cX1_womanWith 25 = .ok (.goto (-23), 3) := by decide +kernel
theorem dX1_womanWith_28 : decode cX1_womanWith 28 = .ok (.bipush (-4), 2) := by decide +kernel
theorem dX1_womanWith_30 : decode cX1_womanWith 30 = .ok (.ireturn, 1) := by decide +kernel
theorem dX1_isPairedAs_0 : decode cX1_isPairedAs 0 = .ok (.iconst 0, 1) := by decide +kernel
theorem dX1_isPairedAs_1 : decode cX1_isPairedAs 1 = .ok (.istore_n 2, 1) := by decide +kernel
theorem dX1_isPairedAs_2 : decode cX1_isPairedAs 2 = .ok (.iload_n 2, 1) := by decide +kernel
theorem dX1_isPairedAs_3 : decode cX1_isPairedAs 3 = .ok (.aload_n 0, 1) := by decide +kernel
theorem dX1_isPairedAs_4 : decode cX1_isPairedAs 4 = .ok (.getfield 36, 3) := by decide +kernel
theorem dX1_isPairedAs_7 : decode cX1_isPairedAs 7 = .ok (.if_icmp .ge 26, 3) := by decide +kernel
theorem dX1_isPairedAs_10 : decode cX1_isPairedAs 10 = .ok (.aload_n 0, 1) := by decide +kernel
theorem dX1_isPairedAs_11 : decode cX1_isPairedAs 11 = .ok (.getfield 24, 3) := by decide +kernel
theorem dX1_isPairedAs_14 : decode cX1_isPairedAs 14 = .ok (.iload_n 2, 1) := by decide +kernel
theorem dX1_isPairedAs_15 : decode cX1_isPairedAs 15 = .ok (.iaload, 1) := by decide +kernel
theorem dX1_isPairedAs_16 : decode cX1_isPairedAs 16 = .ok (.aload_n 1, 1) := by decide +kernel
theorem dX1_isPairedAs_17 : decode cX1_isPairedAs 17 = .ok (.getfield 24, 3) := by decide +kernel
theorem dX1_isPairedAs_20 : decode cX1_isPairedAs 20 = .ok (.iload_n 2, 1) := by decide +kernel
theorem dX1_isPairedAs_21 : decode cX1_isPairedAs 21 = .ok (.iaload, 1) := by decide +kernel
theorem dX1_isPairedAs_22 : decode cX1_isPairedAs 22 = .ok (.if_icmp .eq 5, 3) := by decide +kernel
theorem dX1_isPairedAs_25 : decode cX1_isPairedAs 25 = .ok (.iconst 0, 1) := by decide +kernel
theorem dX1_isPairedAs_26 : decode cX1_isPairedAs 26 = .ok (.ireturn, 1) := by decide +kernel
theorem dX1_isPairedAs_27 : decode cX1_isPairedAs 27 = .ok (.iinc 2 1, 3) := by decide +kernel
theorem dX1_isPairedAs_30 : decode cX1_isPairedAs 30 = .ok (.goto (-28), 3) := by decide +kernel
theorem dX1_isPairedAs_33 : decode cX1_isPairedAs 33 = .ok (.iconst 1, 1) := by decide +kernel
theorem dX1_isPairedAs_34 : decode cX1_isPairedAs 34 = .ok (.ireturn, 1) := by decide +kernel
theorem dX2_init_0 : decode cX2_init 0 = .ok (.aload_n 0, 1) := by decide +kernel
theorem dX2_init_1 : decode cX2_init 1 = .ok (.invokespecial 3, 3) := by decide +kernel
theorem dX2_init_4 : decode cX2_init 4 = .ok (.aload_n 0, 1) := by decide +kernel
theorem dX2_init_5 : decode cX2_init 5 = .ok (.bipush 6, 2) := by decide +kernel
theorem dX2_init_7 : decode cX2_init 7 = .ok (.anewarray 9, 3) := by decide +kernel
theorem dX2_init_10 : decode cX2_init 10 = .ok (.putfield 11, 3) := by decide +kernel
theorem dX2_init_13 : decode cX2_init 13 = .ok (.aload_n 0, 1) := by decide +kernel
theorem dX2_init_14 : decode cX2_init 14 = .ok (.iconst 5, 1) := by decide +kernel
theorem dX2_init_15 : decode cX2_init 15 = .ok (.newarray .int, 2) := by decide +kernel
theorem dX2_init_17 : decode cX2_init 17 = .ok (.putfield 17, 3) := by decide +kernel
theorem dX2_init_20 : decode cX2_init 20 = .ok (.aload_n 0, 1) := by decide +kernel
theorem dX2_init_21 : decode cX2_init 21 = .ok (.iconst 5, 1) := by decide +kernel
theorem dX2_init_22 : decode cX2_init 22 = .ok (.newarray .int, 2) := by decide +kernel
theorem dX2_init_24 : decode cX2_init 24 = .ok (.putfield 21, 3) := by decide +kernel
theorem dX2_init_27 : decode cX2_init 27 = .ok (.aload_n 0, 1) := by decide +kernel
theorem dX2_init_28 : decode cX2_init 28 = .ok (.iconst 5, 1) := by decide +kernel
theorem dX2_init_29 : decode cX2_init 29 = .ok (.newarray .int, 2) := by decide +kernel
theorem dX2_init_31 : decode cX2_init 31 = .ok (.putfield 24, 3) := by decide +kernel
theorem dX2_init_34 : decode cX2_init 34 = .ok (.iconst 0, 1) := by decide +kernel
theorem dX2_init_35 : decode cX2_init 35 = .ok (.istore_n 1, 1) := by decide +kernel
theorem dX2_init_36 : decode cX2_init 36 = .ok (.iload_n 1, 1) := by decide +kernel
theorem dX2_init_37 : decode cX2_init 37 = .ok (.iconst 5, 1) := by decide +kernel
theorem dX2_init_38 : decode cX2_init 38 = .ok (.if_icmp .gt 22, 3) := by decide +kernel
theorem dX2_init_41 : decode cX2_init 41 = .ok (.aload_n 0, 1) := by decide +kernel
theorem dX2_init_42 : decode cX2_init 42 = .ok (.getfield 11, 3) := by decide +kernel
theorem dX2_init_45 : decode cX2_init 45 = .ok (.iload_n 1, 1) := by decide +kernel
theorem dX2_init_46 : decode cX2_init 46 = .ok (.new 9, 3) := by decide +kernel
theorem dX2_init_49 : decode cX2_init 49 = .ok (.dup, 1) := by decide +kernel
theorem dX2_init_50 : decode cX2_init 50 = .ok (.invokespecial 27, 3) := by decide +kernel
theorem dX2_init_53 : decode cX2_init 53 = .ok (.aastore, 1) := by decide +kernel
theorem dX2_init_54 : decode cX2_init 54 = .ok (.iinc 1 1, 3) := by decide +kernel
theorem dX2_init_57 : decode cX2_init 57 = .ok (.goto (-21), 3) := by decide +kernel
theorem dX2_init_60 : decode cX2_init 60 = .ok (.return_, 1) := by decide +kernel
theorem dX2_over_0 : decode cX2_over 0 = .ok (.aload_n 0, 1) := by decide +kernel
theorem dX2_over_1 : decode cX2_over 1 = .ok (.iload_n 3, 1) := by decide +kernel
theorem dX2_over_2 : decode cX2_over 2 = .ok (.putfield 28, 3) := by decide +kernel
theorem dX2_over_5 : decode cX2_over 5 = .ok (.aload_n 0, 1) := by decide +kernel
theorem dX2_over_6 : decode cX2_over 6 = .ok (.iload_n 2, 1) := by decide +kernel
theorem dX2_over_7 : decode cX2_over 7 = .ok (.iconst 5, 1) := by decide +kernel
theorem dX2_over_8 : decode cX2_over 8 = .ok (.invokestatic 32, 3) := by decide +kernel
theorem dX2_over_11 : decode cX2_over 11 = .ok (.putfield 38, 3) := by decide +kernel
theorem dX2_over_14 : decode cX2_over 14 = .ok (.aload_n 0, 1) := by decide +kernel
theorem dX2_over_15 : decode cX2_over 15 = .ok (.iconst 0, 1) := by decide +kernel
theorem dX2_over_16 : decode cX2_over 16 = .ok (.putfield 42, 3) := by decide +kernel
theorem dX2_over_19 : decode cX2_over 19 = .ok (.aload_n 0, 1) := by decide +kernel
theorem dX2_over_20 : decode cX2_over 20 = .ok (.bipush (-4), 2) := by decide +kernel
theorem dX2_over_22 : decode cX2_over 22 = .ok (.putfield 45, 3) := by decide +kernel
theorem dX2_over_25 : decode cX2_over 25 = .ok (.aload_n 0, 1) := by decide +kernel
theorem dX2_over_26 : decode cX2_over 26 = .ok (.getfield 11, 3) := by decide +kernel
theorem dX2_over_29 : decode cX2_over 29 = .ok (.iconst 0, 1) := by decide +kernel
theorem dX2_over_30 : decode cX2_over 30 = .ok (.aaload, 1) := by decide +kernel
theorem dX2_over_31 : decode cX2_over 31 = .ok (.aload_n 1, 1) := by decide +kernel
theorem dX2_over_32 : decode cX2_over 32 = .ok (.getfield 48, 3) := by decide +kernel
theorem dX2_over_35 : decode cX2_over 35 = .ok (.invokevirtual 54, 3) := by decide +kernel
theorem dX2_over_38 : decode cX2_over 38 = .ok (.aload_n 0, 1) := by decide +kernel
theorem dX2_over_39 : decode cX2_over 39 = .ok (.aload_n 1, 1) := by decide +kernel
theorem dX2_over_40 : decode cX2_over 40 = .ok (.iconst 0, 1) := by decide +kernel
theorem dX2_over_41 : decode cX2_over 41 = .ok (.iconst 0, 1) := by decide +kernel
theorem dX2_over_42 : decode cX2_over 42 = .ok (.invokevirtual 58, 3) := by decide +kernel
theorem dX2_over_45 : decode cX2_over 45 = .ok (.return_, 1) := by decide +kernel
theorem dX2_descend_0 : decode cX2_descend 0 = .ok (.iload_n 2, 1) := by decide +kernel
theorem dX2_descend_1 : decode cX2_descend 1 = .ok (.aload_n 0, 1) := by decide +kernel
theorem dX2_descend_2 : decode cX2_descend 2 = .ok (.getfield 38, 3) := by decide +kernel
theorem dX2_descend_5 : decode cX2_descend 5 = .ok (.if_icmp .lt 8, 3) := by decide +kernel
theorem dX2_descend_8 : decode cX2_descend 8 = .ok (.aload_n 0, 1) := by decide +kernel
theorem dX2_descend_9 : decode cX2_descend 9 = .ok (.invokevirtual 62, 3) := by decide +kernel
theorem dX2_descend_12 : decode cX2_descend 12 = .ok (.return_, 1) := by decide +kernel
theorem dX2_descend_13 : decode cX2_descend 13 = .ok (.aload_n 0, 1) := by decide +kernel
theorem dX2_descend_14 : decode cX2_descend 14 = .ok (.getfield 28, 3) := by decide +kernel
theorem dX2_descend_17 : decode cX2_descend 17 = .ok (.ifCond .eq 10, 3) := by decide +kernel
theorem dX2_descend_20 : decode cX2_descend 20 = .ok (.aload_n 0, 1) := by decide +kernel
theorem dX2_descend_21 : decode cX2_descend 21 = .ok (.getfield 38, 3) := by decide +kernel
theorem dX2_descend_24 : decode cX2_descend 24 = .ok (.goto 4, 3) := by decide +kernel
theorem dX2_descend_27 : decode cX2_descend 27 = .ok (.iconst 4, 1) := by decide +kernel
theorem dX2_descend_28 : decode cX2_descend 28 = .ok (.istore 4, 2) := by decide +kernel
theorem dX2_descend_30 : decode cX2_descend 30 = .ok (.aload_n 0, 1) := by decide +kernel
theorem dX2_descend_31 : decode cX2_descend 31 = .ok (.getfield 11, 3) := by decide +kernel
theorem dX2_descend_34 : decode cX2_descend 34 = .ok (.iload_n 2, 1) := by decide +kernel
theorem dX2_descend_35 : decode cX2_descend 35 = .ok (.iconst 1, 1) := by decide +kernel
theorem dX2_descend_36 : decode cX2_descend 36 = .ok (.iadd, 1) := by decide +kernel
theorem dX2_descend_37 : decode cX2_descend 37 = .ok (.aaload, 1) := by decide +kernel
theorem dX2_descend_38 : decode cX2_descend 38 = .ok (.astore 5, 2) := by decide +kernel
theorem dX2_descend_40 : decode cX2_descend 40 = .ok (.iconst 0, 1) := by decide +kernel
theorem dX2_descend_41 : decode cX2_descend 41 = .ok (.istore 6, 2) := by decide +kernel
theorem dX2_descend_43 : decode cX2_descend 43 = .ok (.iload 6, 2) := by decide +kernel
theorem dX2_descend_45 : decode cX2_descend 45 = .ok (.iload 4, 2) := by decide +kernel
theorem dX2_descend_47 : decode cX2_descend 47 = .ok (.if_icmp .ge 95, 3) := by decide +kernel
theorem dX2_descend_50 : decode cX2_descend 50 = .ok (.aload_n 0, 1) := by decide +kernel
theorem dX2_descend_51 : decode cX2_descend 51 = .ok (.getfield 28, 3) := by decide +kernel
theorem dX2_descend_54 : decode cX2_descend 54 = .ok (.ifCond .eq 16, 3) := by decide +kernel
theorem dX2_descend_57 : decode cX2_descend 57 = .ok (.iload_n 3, 1) := by decide +kernel
theorem dX2_descend_58 : decode cX2_descend 58 = .ok (.iload 6, 2) := by decide +kernel
theorem dX2_descend_60 : decode cX2_descend 60 = .ok (.ishr, 1) := by decide +kernel
theorem dX2_descend_61 : decode cX2_descend 61 = .ok (.iconst 1, 1) := by decide +kernel
theorem dX2_descend_62 : decode cX2_descend 62 = .ok (.iand, 1) := by decide +kernel
theorem dX2_descend_63 : decode cX2_descend 63 = .ok (.iconst 1, 1) := by decide +kernel
theorem dX2_descend_64 : decode cX2_descend 64 = .ok (.if_icmp .ne 6, 3) := by decide +kernel
theorem dX2_descend_67 : decode cX2_descend 67 = .ok (.goto 69, 3) := by decide +kernel
theorem dX2_descend_70 : decode cX2_descend 70 = .ok (.aload 5, 2) := by decide +kernel
theorem dX2_descend_72 : decode cX2_descend 72 = .ok (.aload_n 0, 1) := by decide +kernel
theorem dX2_descend_73 : decode cX2_descend 73 = .ok (.getfield 11, 3) := by decide +kernel
theorem dX2_descend_76 : decode cX2_descend 76 = .ok (.iload_n 2, 1) := by decide +kernel
theorem dX2_descend_77 : decode cX2_descend 77 = .ok (.aaload, 1) := by decide +kernel
theorem dX2_descend_78 : decode cX2_descend 78 = .ok (.invokevirtual 54, 3) := by decide +kernel
theorem dX2_descend_81 : decode cX2_descend 81 = .ok (.aload 5, 2) := by decide +kernel
theorem dX2_descend_83 : decode cX2_descend 83 = .ok (.aload_n 0, 1) := by decide +kernel
theorem dX2_descend_84 : decode cX2_descend 84 = .ok (.getfield 28, 3) := by decide +kernel
theorem dX2_descend_87 : decode cX2_descend 87 = .ok (.ifCond .eq 13, 3) := by decide +kernel
theorem dX2_descend_90 : decode cX2_descend 90 = .ok (.aload_n 1, 1) := by decide +kernel
theorem dX2_descend_91 : decode cX2_descend 91 = .ok (.getfield 65, 3) := by decide +kernel
theorem dX2_descend_94 : decode cX2_descend 94 = .ok (.iload 6, 2) := by decide +kernel
theorem dX2_descend_96 : decode cX2_descend 96 = .ok (.iaload, 1) := by decide +kernel
theorem dX2_descend_97 : decode cX2_descend 97 = .ok (.goto 5, 3) := by decide +kernel
theorem dX2_descend_100 : decode cX2_descend 100 = .ok (.iload 6, 2) := by decide +kernel
theorem dX2_descend_102 : decode cX2_descend 102 = .ok (.invokevirtual 68, 3) := by decide +kernel
theorem dX2_descend_105 : decode cX2_descend 105 = .ok (.aload_n 1, 1) := by decide +kernel
theorem dX2_descend_106 : decode cX2_descend 106 = .ok (.aload 5, 2) := by decide +kernel
theorem dX2_descend_108 : decode cX2_descend 108 = .ok (.invokevirtual 72, 3) := by decide +kernel
theorem dX2_descend_111 : decode cX2_descend 111 = .ok (.ifCond .ne 25, 3) := by decide +kernel
theorem dX2_descend_114 : decode cX2_descend 114 = .ok (.aload_n 0, 1) := by decide +kernel
theorem dX2_descend_115 : decode cX2_descend 115 = .ok (.getfield 17, 3) := by decide +kernel
theorem dX2_descend_118 : decode cX2_descend 118 = .ok (.iload_n 2, 1) := by decide +kernel
theorem dX2_descend_119 : decode cX2_descend 119 = .ok (.iload 6, 2) := by decide +kernel
theorem dX2_descend_121 : decode cX2_descend 121 = .ok (.iastore, 1) := by decide +kernel
theorem dX2_descend_122 : decode cX2_descend 122 = .ok (.aload_n 0, 1) := by decide +kernel
theorem dX2_descend_123 : decode cX2_descend 123 = .ok (.aload_n 1, 1) := by decide +kernel
theorem dX2_descend_124 : decode cX2_descend 124 = .ok (.iload_n 2, 1) := by decide +kernel
theorem dX2_descend_125 : decode cX2_descend 125 = .ok (.iconst 1, 1) := by decide +kernel
theorem dX2_descend_126 : decode cX2_descend 126 = .ok (.iadd, 1) := by decide +kernel
theorem dX2_descend_127 : decode cX2_descend 127 = .ok (.iload_n 3, 1) := by decide +kernel
theorem dX2_descend_128 : decode cX2_descend 128 = .ok (.iconst 1, 1) := by decide +kernel
theorem dX2_descend_129 : decode cX2_descend 129 = .ok (.iload 6, 2) := by decide +kernel
theorem dX2_descend_131 : decode cX2_descend 131 = .ok (.ishl, 1) := by decide +kernel
theorem dX2_descend_132 : decode cX2_descend 132 = .ok (.ior, 1) := by decide +kernel
theorem dX2_descend_133 : decode cX2_descend 133 = .ok (.invokevirtual 58, 3) := by decide +kernel
theorem dX2_descend_136 : decode cX2_descend 136 = .ok (.iinc 6 1, 3) := by decide +kernel
theorem dX2_descend_139 : decode cX2_descend 139 = .ok (.goto (-96), 3) := by decide +kernel
theorem dX2_descend_142 : decode cX2_descend 142 = .ok (.return_, 1) := by decide +kernel
theorem dX2_take_0 : decode cX2_take 0 = .ok (.aload_n 0, 1) := by decide +kernel
theorem dX2_take_1 : decode cX2_take 1 = .ok (.getfield 11, 3) := by decide +kernel
theorem dX2_take_4 : decode cX2_take 4 = .ok (.aload_n 0, 1) := by decide +kernel
theorem dX2_take_5 : decode cX2_take 5 = .ok (.getfield 38, 3) := by decide +kernel
theorem dX2_take_8 : decode cX2_take 8 = .ok (.aaload, 1) := by decide +kernel
theorem dX2_take_9 : decode cX2_take 9 = .ok (.invokevirtual 76, 3) := by decide +kernel
theorem dX2_take_12 : decode cX2_take 12 = .ok (.invokestatic 80, 3) := by decide +kernel
theorem dX2_take_15 : decode cX2_take 15 = .ok (.istore_n 1, 1) := by decide +kernel
theorem dX2_take_16 : decode cX2_take 16 = .ok (.aload_n 0, 1) := by decide +kernel
theorem dX2_take_17 : decode cX2_take 17 = .ok (.getfield 42, 3) := by decide +kernel
theorem dX2_take_20 : decode cX2_take 20 = .ok (.ifCond .ne 20, 3) := by decide +kernel
theorem dX2_take_23 : decode cX2_take 23 = .ok (.aload_n 0, 1) := by decide +kernel
theorem dX2_take_24 : decode cX2_take 24 = .ok (.getfield 17, 3) := by decide +kernel
theorem dX2_take_27 : decode cX2_take 27 = .ok (.iconst 0, 1) := by decide +kernel
theorem dX2_take_28 : decode cX2_take 28 = .ok (.aload_n 0, 1) := by decide +kernel
theorem dX2_take_29 : decode cX2_take 29 = .ok (.getfield 21, 3) := by decide +kernel
theorem dX2_take_32 : decode cX2_take 32 = .ok (.iconst 0, 1) := by decide +kernel
theorem dX2_take_33 : decode cX2_take 33 = .ok (.aload_n 0, 1) := by decide +kernel
theorem dX2_take_34 : decode cX2_take 34 = .ok (.getfield 38, 3) := by decide +kernel
theorem dX2_take_37 : decode cX2_take 37 = .ok (.invokestatic 86, 3) := by decide +kernel
theorem dX2_take_40 : decode cX2_take 40 = .ok (.iload_n 1, 1) := by decide +kernel
theorem dX2_take_41 : decode cX2_take 41 = .ok (.aload_n 0, 1) := by decide +kernel
theorem dX2_take_42 : decode cX2_take 42 = .ok (.getfield 45, 3) := by decide +kernel
theorem dX2_take_45 : decode cX2_take 45 = .ok (.if_icmp .le 25, 3) := by decide +kernel
theorem dX2_take_48 : decode cX2_take 48 = .ok (.aload_n 0, 1) := by decide +kernel
theorem dX2_take_49 : decode cX2_take 49 = .ok (.iload_n 1, 1) := by decide +kernel
theorem dX2_take_50 : decode cX2_take 50 = .ok (.putfield 45, 3) := by decide +kernel
theorem dX2_take_53 : decode cX2_take 53 = .ok (.aload_n 0, 1) := by decide +kernel
theorem dX2_take_54 : decode cX2_take 54 = .ok (.getfield 17, 3) := by decide +kernel
theorem dX2_take_57 : decode cX2_take 57 = .ok (.iconst 0, 1) := by decide +kernel
theorem dX2_take_58 : decode cX2_take 58 = .ok (.aload_n 0, 1) := by decide +kernel
theorem dX2_take_59 : decode cX2_take 59 = .ok (.getfield 24, 3) := by decide +kernel
theorem dX2_take_62 : decode cX2_take 62 = .ok (.iconst 0, 1) := by decide +kernel
theorem dX2_take_63 : decode cX2_take 63 = .ok (.aload_n 0, 1) := by decide +kernel
theorem dX2_take_64 : decode cX2_take 64 = .ok (.getfield 38, 3) := by decide +kernel
theorem dX2_take_67 : decode cX2_take 67 = .ok (.invokestatic 86, 3) := by decide +kernel
theorem dX2_take_70 : decode cX2_take 70 = .ok (.aload_n 0, 1) := by decide +kernel
theorem dX2_take_71 : decode cX2_take 71 = .ok (.dup, 1) := by decide +kernel
theorem dX2_take_72 : decode cX2_take 72 = .ok (.getfield 42, 3) := by decide +kernel
theorem dX2_take_75 : decode cX2_take 75 = .ok (.iconst 1, 1) := by decide +kernel
theorem dX2_take_76 : decode cX2_take 76 = .ok (.iadd, 1) := by decide +kernel
theorem dX2_take_77 : decode cX2_take 77 = .ok (.putfield 42, 3) := by decide +kernel
theorem dX2_take_80 : decode cX2_take 80 = .ok (.return_, 1) := by decide +kernel
theorem dX3_init_0 : decode cX3_init 0 = .ok (.aload_n 0, 1) := by decide +kernel
theorem dX3_init_1 : decode cX3_init 1 = .ok (.invokespecial 3, 3) := by decide +kernel
theorem dX3_init_4 : decode cX3_init 4 = .ok (.aload_n 0, 1) := by decide +kernel
theorem dX3_init_5 : decode cX3_init 5 = .ok (.bipush 40, 2) := by decide +kernel
theorem dX3_init_7 : decode cX3_init 7 = .ok (.newarray .int, 2) := by decide +kernel
theorem dX3_init_9 : decode cX3_init 9 = .ok (.putfield 9, 3) := by decide +kernel
theorem dX3_init_12 : decode cX3_init 12 = .ok (.aload_n 0, 1) := by decide +kernel
theorem dX3_init_13 : decode cX3_init 13 = .ok (.iconst (-1), 1) := by decide +kernel
theorem dX3_init_14 : decode cX3_init 14 = .ok (.putfield 15, 3) := by decide +kernel
theorem dX3_init_17 : decode cX3_init 17 = .ok (.return_, 1) := by decide +kernel
theorem dX3_renew_0 : decode cX3_renew 0 = .ok (.aload_n 0, 1) := by decide +kernel
theorem dX3_renew_1 : decode cX3_renew 1 = .ok (.iload_n 1, 1) := by decide +kernel
theorem dX3_renew_2 : decode cX3_renew 2 = .ok (.putfield 15, 3) := by decide +kernel
theorem dX3_renew_5 : decode cX3_renew 5 = .ok (.aload_n 0, 1) := by decide +kernel
theorem dX3_renew_6 : decode cX3_renew 6 = .ok (.iconst 0, 1) := by decide +kernel
theorem dX3_renew_7 : decode cX3_renew 7 = .ok (.iload_n 2, 1) := by decide +kernel
theorem dX3_renew_8 : decode cX3_renew 8 = .ok (.bipush 40, 2) := by decide +kernel
theorem dX3_renew_10 : decode cX3_renew 10 = .ok (.invokestatic 19, 3) := by decide +kernel
theorem dX3_renew_13 : decode cX3_renew 13 = .ok (.invokestatic 25, 3) := by decide +kernel
theorem dX3_renew_16 : decode cX3_renew 16 = .ok (.putfield 28, 3) := by decide +kernel
theorem dX3_renew_19 : decode cX3_renew 19 = .ok (.aload_n 0, 1) := by decide +kernel
theorem dX3_renew_20 : decode cX3_renew 20 = .ok (.getfield 9, 3) := by decide +kernel
theorem dX3_renew_23 : decode cX3_renew 23 = .ok (.iconst 0, 1) := by decide +kernel
theorem dX3_renew_24 : decode cX3_renew 24 = .ok (.invokestatic 31, 3) := by decide +kernel
theorem dX3_renew_27 : decode cX3_renew 27 = .ok (.return_, 1) := by decide +kernel
theorem dX3_faultAt_0 : decode cX3_faultAt 0 = .ok (.aload_n 0, 1) := by decide +kernel
theorem dX3_faultAt_1 : decode cX3_faultAt 1 = .ok (.getfield 15, 3) := by decide +kernel
theorem dX3_faultAt_4 : decode cX3_faultAt 4 = .ok (.iconst (-1), 1) := by decide +kernel
theorem dX3_faultAt_5 : decode cX3_faultAt 5 = .ok (.if_icmp .ne 5, 3) := by decide +kernel
theorem dX3_faultAt_8 : decode cX3_faultAt 8 = .ok (.iconst 1, 1) := by decide +kernel
theorem dX3_faultAt_9 : decode cX3_faultAt 9 = .ok (.ireturn, 1) := by decide +kernel
theorem dX3_faultAt_10 : decode cX3_faultAt 10 = .ok (.aload_n 0, 1) := by decide +kernel
theorem dX3_faultAt_11 : decode cX3_faultAt 11 = .ok (.getfield 15, 3) := by decide +kernel
theorem dX3_faultAt_14 : decode cX3_faultAt 14 = .ok (.iload_n 1, 1) := by decide +kernel
theorem dX3_faultAt_15 : decode cX3_faultAt 15 = .ok (.if_icmp .eq 5, 3) := by decide +kernel
theorem dX3_faultAt_18 : decode cX3_faultAt 18 = .ok (.iconst 3, 1) := by decide +kernel
theorem dX3_faultAt_19 : decode cX3_faultAt 19 = .ok (.ireturn, 1) := by decide +kernel
theorem dX3_faultAt_20 : decode cX3_faultAt 20 = .ok (.lload_n 2, 1) := by decide +kernel
theorem dX3_faultAt_21 : decode cX3_faultAt 21 = .ok (.lconst 0, 1) := by decide +kernel
theorem dX3_faultAt_22 : decode cX3_faultAt 22 = .ok (.lcmp, 1) := by decide +kernel
theorem dX3_faultAt_23 : decode cX3_faultAt 23 = .ok (.ifCond .lt 13, 3) := by decide +kernel
theorem dX3_faultAt_26 : decode cX3_faultAt 26 = .ok (.lload_n 2, 1) := by decide +kernel
theorem dX3_faultAt_27 : decode cX3_faultAt 27 = .ok (.aload_n 0, 1) := by decide +kernel
theorem dX3_faultAt_28 : decode cX3_faultAt 28 = .ok (.getfield 28, 3) := by decide +kernel
theorem dX3_faultAt_31 : decode cX3_faultAt 31 = .ok (.i2l, 1) := by decide +kernel
theorem dX3_faultAt_32 : decode cX3_faultAt 32 = .ok (.lcmp, 1) := by decide +kernel
theorem dX3_faultAt_33 : decode cX3_faultAt 33 = .ok (.ifCond .lt 7, 3) := by decide +kernel
theorem dX3_faultAt_36 : decode cX3_faultAt 36 = .ok (.iconst 2, 1) := by decide +kernel
theorem dX3_faultAt_37 : decode cX3_faultAt 37 = .ok (.goto 4, 3) := by decide +kernel
theorem dX3_faultAt_40 : decode cX3_faultAt 40 = .ok (.iconst 0, 1) := by decide +kernel
theorem dX3_faultAt_41 : decode cX3_faultAt 41 = .ok (.ireturn, 1) := by decide +kernel
theorem dX3_put_0 : decode cX3_put 0 = .ok (.aload_n 0, 1) := by decide +kernel
theorem dX3_put_1 : decode cX3_put 1 = .ok (.getfield 15, 3) := by decide +kernel
theorem dX3_put_4 : decode cX3_put 4 = .ok (.ifCond .ne 14, 3) := by decide +kernel
theorem dX3_put_7 : decode cX3_put 7 = .ok (.aload_n 0, 1) := by decide +kernel
theorem dX3_put_8 : decode cX3_put 8 = .ok (.getfield 9, 3) := by decide +kernel
theorem dX3_put_11 : decode cX3_put 11 = .ok (.iload_n 1, 1) := by decide +kernel
theorem dX3_put_12 : decode cX3_put 12 = .ok (.iload_n 2, 1) := by decide +kernel
theorem dX3_put_13 : decode cX3_put 13 = .ok (.i2b, 1) := by decide +kernel
theorem dX3_put_14 : decode cX3_put 14 = .ok (.iastore, 1) := by decide +kernel
theorem dX3_put_15 : decode cX3_put 15 = .ok (.goto 29, 3) := by decide +kernel
theorem dX3_put_18 : decode cX3_put 18 = .ok (.aload_n 0, 1) := by decide +kernel
theorem dX3_put_19 : decode cX3_put 19 = .ok (.getfield 15, 3) := by decide +kernel
theorem dX3_put_22 : decode cX3_put 22 = .ok (.iconst 1, 1) := by decide +kernel
theorem dX3_put_23 : decode cX3_put 23 = .ok (.if_icmp .ne 14, 3) := by decide +kernel
theorem dX3_put_26 : decode cX3_put 26 = .ok (.aload_n 0, 1) := by decide +kernel
theorem dX3_put_27 : decode cX3_put 27 = .ok (.getfield 9, 3) := by decide +kernel
theorem dX3_put_30 : decode cX3_put 30 = .ok (.iload_n 1, 1) := by decide +kernel
theorem dX3_put_31 : decode cX3_put 31 = .ok (.iload_n 2, 1) := by decide +kernel
theorem dX3_put_32 : decode cX3_put 32 = .ok (.i2s, 1) := by decide +kernel
theorem dX3_put_33 : decode cX3_put 33 = .ok (.iastore, 1) := by decide +kernel
theorem dX3_put_34 : decode cX3_put 34 = .ok (.goto 10, 3) := by decide +kernel
theorem dX3_put_37 : decode cX3_put 37 = .ok (.aload_n 0, 1) := by decide +kernel
theorem dX3_put_38 : decode cX3_put 38 = .ok (.getfield 9, 3) := by decide +kernel
theorem dX3_put_41 : decode cX3_put 41 = .ok (.iload_n 1, 1) := by decide +kernel
theorem dX3_put_42 : decode cX3_put 42 = .ok (.iload_n 2, 1) := by decide +kernel
theorem dX3_put_43 : decode cX3_put 43 = .ok (.iastore, 1) := by decide +kernel
theorem dX3_put_44 : decode cX3_put 44 = .ok (.return_, 1) := by decide +kernel
theorem dX4_init_0 : decode cX4_init 0 = .ok (.aload_n 0, 1) := by decide +kernel
theorem dX4_init_1 : decode cX4_init 1 = .ok (.invokespecial 3, 3) := by decide +kernel
theorem dX4_init_4 : decode cX4_init 4 = .ok (.aload_n 0, 1) := by decide +kernel
theorem dX4_init_5 : decode cX4_init 5 = .ok (.sipush 160, 3) := by decide +kernel
theorem dX4_init_8 : decode cX4_init 8 = .ok (.newarray .int, 2) := by decide +kernel
theorem dX4_init_10 : decode cX4_init 10 = .ok (.putfield 9, 3) := by decide +kernel
theorem dX4_init_13 : decode cX4_init 13 = .ok (.aload_n 0, 1) := by decide +kernel
theorem dX4_init_14 : decode cX4_init 14 = .ok (.new 15, 3) := by decide +kernel
theorem dX4_init_17 : decode cX4_init 17 = .ok (.dup, 1) := by decide +kernel
theorem dX4_init_18 : decode cX4_init 18 = .ok (.invokespecial 17, 3) := by decide +kernel
theorem dX4_init_21 : decode cX4_init 21 = .ok (.putfield 18, 3) := by decide +kernel
theorem dX4_init_24 : decode cX4_init 24 = .ok (.return_, 1) := by decide +kernel
theorem dX4_wholeText_0 : decode cX4_wholeText 0 = .ok (.aload_n 0, 1) := by decide +kernel
theorem dX4_wholeText_1 : decode cX4_wholeText 1 = .ok (.getfield 18, 3) := by decide +kernel
theorem dX4_wholeText_4 : decode cX4_wholeText 4 = .ok (.invokevirtual 22, 3) := by decide +kernel
theorem dX4_wholeText_7 : decode cX4_wholeText 7 = .ok (.aload_n 0, 1) := by decide +kernel
theorem dX4_wholeText_8 : decode cX4_wholeText 8 = .ok (.iconst 0, 1) := by decide +kernel
theorem dX4_wholeText_9 : decode cX4_wholeText 9 = .ok (.putfield 25, 3) := by decide +kernel
theorem dX4_wholeText_12 : decode cX4_wholeText 12 = .ok (.aload_n 0, 1) := by decide +kernel
theorem dX4_wholeText_13 : decode cX4_wholeText 13 = .ok (.iconst 0, 1) := by decide +kernel
theorem dX4_wholeText_14 : decode cX4_wholeText 14 = .ok (.putfield 29, 3) := by decide +kernel
theorem dX4_wholeText_17 : decode cX4_wholeText 17 = .ok (.aload_n 0, 1) := by decide +kernel
theorem dX4_wholeText_18 : decode cX4_wholeText 18 = .ok (.iconst 0, 1) := by decide +kernel
theorem dX4_wholeText_19 : decode cX4_wholeText 19 = .ok (.putfield 32, 3) := by decide +kernel
theorem dX4_wholeText_22 : decode cX4_wholeText 22 = .ok (.aload_n 0, 1) := by decide +kernel
theorem dX4_wholeText_23 : decode cX4_wholeText 23 = .ok (.iconst 0, 1) := by decide +kernel
theorem dX4_wholeText_24 : decode cX4_wholeText 24 = .ok (.putfield 35, 3) := by decide +kernel
theorem dX4_wholeText_27 : decode cX4_wholeText 27 = .ok (.iconst 0, 1) := by decide +kernel
theorem dX4_wholeText_28 : decode cX4_wholeText 28 = .ok (.istore_n 1, 1) := by decide +kernel
theorem dX4_wholeText_29 : decode cX4_wholeText 29 = .ok (.iload_n 1, 1) := by decide +kernel
theorem dX4_wholeText_30 : decode cX4_wholeText 30 = .ok (.sipush 160, 3) := by decide +kernel
theorem dX4_wholeText_33 : decode cX4_wholeText 33 = .ok (.if_icmp .gt 32, 3) := by decide +kernel
theorem dX4_wholeText_36 : decode cX4_wholeText 36 = .ok (.aload_n 0, 1) := by decide +kernel
theorem dX4_wholeText_37 : decode cX4_wholeText 37 = .ok (.invokevirtual 39, 3) := by decide +kernel
theorem dX4_wholeText_40 : decode cX4_wholeText 40 = .ok (.ifCond .eq 25, 3) := by decide +kernel
theorem dX4_wholeText_43 : decode cX4_wholeText 43 = .ok (.aload_n 0, 1) := by decide +kernel
theorem dX4_wholeText_44 : decode cX4_wholeText 44 = .ok (.getfield 43, 3) := by decide +kernel
theorem dX4_wholeText_47 : decode cX4_wholeText 47 = .ok (.ifCond .eq 18, 3) := by decide +kernel
theorem dX4_wholeText_50 : decode cX4_wholeText 50 = .ok (.aload_n 0, 1) := by decide +kernel
theorem dX4_wholeText_51 : decode cX4_wholeText 51 = .ok (.invokevirtual 46, 3) := by decide +kernel
theorem dX4_wholeText_54 : decode cX4_wholeText 54 = .ok (.ifCond .ne 5, 3) := by decide +kernel
theorem dX4_wholeText_57 : decode cX4_wholeText 57 = .ok (.iload_n 1, 1) := by decide +kernel
theorem dX4_wholeText_58 : decode cX4_wholeText 58 = .ok (.ireturn, 1) := by decide +kernel
theorem dX4_wholeText_59 : decode cX4_wholeText 59 = .ok (.iinc 1 1, 3) := by decide +kernel
theorem dX4_wholeText_62 : decode cX4_wholeText 62 = .ok (.goto (-33), 3) := by decide +kernel
theorem dX4_wholeText_65 : decode cX4_wholeText 65 = .ok (.aload_n 0, 1) := by decide +kernel
theorem dX4_wholeText_66 : decode cX4_wholeText 66 = .ok (.getfield 25, 3) := by decide +kernel
theorem dX4_wholeText_69 : decode cX4_wholeText 69 = .ok (.ifCond .ne 24, 3) := by decide +kernel
theorem dX4_wholeText_72 : decode cX4_wholeText 72 = .ok (.aload_n 0, 1) := by decide +kernel
theorem dX4_wholeText_73 : decode cX4_wholeText 73 = .ok (.getfield 18, 3) := by decide +kernel
theorem dX4_wholeText_76 : decode cX4_wholeText 76 = .ok (.invokevirtual 49, 3) := by decide +kernel
theorem dX4_wholeText_79 : decode cX4_wholeText 79 = .ok (.ifCond .eq 14, 3) := by decide +kernel
theorem dX4_wholeText_82 : decode cX4_wholeText 82 = .ok (.aload_n 0, 1) := by decide +kernel
theorem dX4_wholeText_83 : decode cX4_wholeText 83 = .ok (.bipush 6, 2) := by decide +kernel
theorem dX4_wholeText_85 : decode cX4_wholeText 85 = .ok (.aload_n 0, 1) := by decide +kernel
theorem dX4_wholeText_86 : decode cX4_wholeText 86 = .ok (.getfield 52, 3) := by decide +kernel
theorem dX4_wholeText_89 : decode cX4_wholeText 89 = .ok (.invokevirtual 55, 3) := by decide +kernel
theorem dX4_wholeText_92 : decode cX4_wholeText 92 = .ok (.pop, 1) := by decide +kernel
theorem dX4_wholeText_93 : decode cX4_wholeText 93 = .ok (.iload_n 1, 1) := by decide +kernel
theorem dX4_wholeText_94 : decode cX4_wholeText 94 = .ok (.ireturn, 1) := by decide +kernel
theorem dX4_refuse_0 : decode cX4_refuse 0 = .ok (.aload_n 0, 1) := by decide +kernel
theorem dX4_refuse_1 : decode cX4_refuse 1 = .ok (.iload_n 1, 1) := by decide +kernel
theorem dX4_refuse_2 : decode cX4_refuse 2 = .ok (.putfield 25, 3) := by decide +kernel
theorem dX4_refuse_5 : decode cX4_refuse 5 = .ok (.aload_n 0, 1) := by decide +kernel
theorem dX4_refuse_6 : decode cX4_refuse 6 = .ok (.iload_n 2, 1) := by decide +kernel
theorem dX4_refuse_7 : decode cX4_refuse 7 = .ok (.putfield 29, 3) := by decide +kernel
theorem dX4_refuse_10 : decode cX4_refuse 10 = .ok (.iconst 0, 1) := by decide +kernel
theorem dX4_refuse_11 : decode cX4_refuse 11 = .ok (.ireturn, 1) := by decide +kernel
theorem dX4_advance_0 : decode cX4_advance 0 = .ok (.aload_n 0, 1) := by decide +kernel
theorem dX4_advance_1 : decode cX4_advance 1 = .ok (.getfield 32, 3) := by decide +kernel
theorem dX4_advance_4 : decode cX4_advance 4 = .ok (.aload_n 0, 1) := by decide +kernel
theorem dX4_advance_5 : decode cX4_advance 5 = .ok (.getfield 52, 3) := by decide +kernel
theorem dX4_advance_8 : decode cX4_advance 8 = .ok (.if_icmp .ge 30, 3) := by decide +kernel
theorem dX4_advance_11 : decode cX4_advance 11 = .ok (.aload_n 0, 1) := by decide +kernel
theorem dX4_advance_12 : decode cX4_advance 12 = .ok (.getfield 9, 3) := by decide +kernel
theorem dX4_advance_15 : decode cX4_advance 15 = .ok (.aload_n 0, 1) := by decide +kernel
theorem dX4_advance_16 : decode cX4_advance 16 = .ok (.getfield 32, 3) := by decide +kernel
theorem dX4_advance_19 : decode cX4_advance 19 = .ok (.iaload, 1) := by decide +kernel
theorem dX4_advance_20 : decode cX4_advance 20 = .ok (.bipush 32, 2) := by decide +kernel
theorem dX4_advance_22 : decode cX4_advance 22 = .ok (.if_icmp .ne 16, 3) := by decide +kernel
theorem dX4_advance_25 : decode cX4_advance 25 = .ok (.aload_n 0, 1) := by decide +kernel
theorem dX4_advance_26 : decode cX4_advance 26 = .ok (.dup, 1) := by decide +kernel
theorem dX4_advance_27 : decode cX4_advance 27 = .ok (.getfield 32, 3) := by decide +kernel
theorem dX4_advance_30 : decode cX4_advance 30 = .ok (.iconst 1, 1) := by decide +kernel
theorem dX4_advance_31 : decode cX4_advance 31 = .ok (.iadd, 1) := by decide +kernel
theorem dX4_advance_32 : decode cX4_advance 32 = .ok (.putfield 32, 3) := by decide +kernel
theorem dX4_advance_35 : decode cX4_advance 35 = .ok (.goto (-35), 3) := by decide +kernel
theorem dX4_advance_38 : decode cX4_advance 38 = .ok (.aload_n 0, 1) := by decide +kernel
theorem dX4_advance_39 : decode cX4_advance 39 = .ok (.aload_n 0, 1) := by decide +kernel
theorem dX4_advance_40 : decode cX4_advance 40 = .ok (.getfield 32, 3) := by decide +kernel
theorem dX4_advance_43 : decode cX4_advance 43 = .ok (.putfield 59, 3) := by decide +kernel
theorem dX4_advance_46 : decode cX4_advance 46 = .ok (.aload_n 0, 1) := by decide +kernel
theorem dX4_advance_47 : decode cX4_advance 47 = .ok (.aload_n 0, 1) := by decide +kernel
theorem dX4_advance_48 : decode cX4_advance 48 = .ok (.aload_n 0, 1) := by decide +kernel
theorem dX4_advance_49 : decode cX4_advance 49 = .ok (.getfield 59, 3) := by decide +kernel
theorem dX4_advance_52 : decode cX4_advance 52 = .ok (.invokevirtual 62, 3) := by decide +kernel
theorem dX4_advance_55 : decode cX4_advance 55 = .ok (.putfield 43, 3) := by decide +kernel
theorem dX4_advance_58 : decode cX4_advance 58 = .ok (.aload_n 0, 1) := by decide +kernel
theorem dX4_advance_59 : decode cX4_advance 59 = .ok (.getfield 43, 3) := by decide +kernel
theorem dX4_advance_62 : decode cX4_advance 62 = .ok (.iconst 4, 1) := by decide +kernel
theorem dX4_advance_63 : decode cX4_advance 63 = .ok (.if_icmp .ne 13, 3) := by decide +kernel
theorem dX4_advance_66 : decode cX4_advance 66 = .ok (.aload_n 0, 1) := by decide +kernel
theorem dX4_advance_67 : decode cX4_advance 67 = .ok (.iconst 1, 1) := by decide +kernel
theorem dX4_advance_68 : decode cX4_advance 68 = .ok (.aload_n 0, 1) := by decide +kernel
theorem dX4_advance_69 : decode cX4_advance 69 = .ok (.getfield 59, 3) := by decide +kernel
theorem dX4_advance_72 : decode cX4_advance 72 = .ok (.invokevirtual 55, 3) := by decide +kernel
theorem dX4_advance_75 : decode cX4_advance 75 = .ok (.ireturn, 1) := by decide +kernel
theorem dX4_advance_76 : decode cX4_advance 76 = .ok (.aload_n 0, 1) := by decide +kernel
theorem dX4_advance_77 : decode cX4_advance 77 = .ok (.getfield 43, 3) := by decide +kernel
theorem dX4_advance_80 : decode cX4_advance 80 = .ok (.ifCond .eq 13, 3) := by decide +kernel
theorem dX4_advance_83 : decode cX4_advance 83 = .ok (.aload_n 0, 1) := by decide +kernel
theorem dX4_advance_84 : decode cX4_advance 84 = .ok (.dup, 1) := by decide +kernel
theorem dX4_advance_85 : decode cX4_advance 85 = .ok (.getfield 32, 3) := by decide +kernel
theorem dX4_advance_88 : decode cX4_advance 88 = .ok (.iconst 1, 1) := by decide +kernel
theorem dX4_advance_89 : decode cX4_advance 89 = .ok (.iadd, 1) := by decide +kernel
theorem dX4_advance_90 : decode cX4_advance 90 = .ok (.putfield 32, 3) := by decide +kernel
theorem dX4_advance_93 : decode cX4_advance 93 = .ok (.aload_n 0, 1) := by decide +kernel
theorem dX4_advance_94 : decode cX4_advance 94 = .ok (.getfield 43, 3) := by decide +kernel
theorem dX4_advance_97 : decode cX4_advance 97 = .ok (.iconst 1, 1) := by decide +kernel
theorem dX4_advance_98 : decode cX4_advance 98 = .ok (.if_icmp .eq 11, 3) := by decide +kernel
theorem dX4_advance_101 : decode cX4_advance 101 = .ok (.aload_n 0, 1) := by decide +kernel
theorem dX4_advance_102 : decode cX4_advance 102 = .ok (.getfield 43, 3) := by decide +kernel
theorem dX4_advance_105 : decode cX4_advance 105 = .ok (.iconst 2, 1) := by decide +kernel
theorem dX4_advance_106 : decode cX4_advance 106 = .ok (.if_icmp .ne 7, 3) := by decide +kernel
theorem dX4_advance_109 : decode cX4_advance 109 = .ok (.iconst 1, 1) := by decide +kernel
theorem dX4_advance_110 : decode cX4_advance 110 = .ok (.goto 4, 3) := by decide +kernel
theorem dX4_advance_113 : decode cX4_advance 113 = .ok (.iconst 0, 1) := by decide +kernel
theorem dX4_advance_114 : decode cX4_advance 114 = .ok (.istore_n 1, 1) := by decide +kernel
theorem dX4_advance_115 : decode cX4_advance 115 = .ok (.iload_n 1, 1) := by decide +kernel
theorem dX4_advance_116 : decode cX4_advance 116 = .ok (.ifCond .eq 42, 3) := by decide +kernel
theorem dX4_advance_119 : decode cX4_advance 119 = .ok (.aload_n 0, 1) := by decide +kernel
theorem dX4_advance_120 : decode cX4_advance 120 = .ok (.getfield 32, 3) := by decide +kernel
theorem dX4_advance_123 : decode cX4_advance 123 = .ok (.aload_n 0, 1) := by decide +kernel
theorem dX4_advance_124 : decode cX4_advance 124 = .ok (.getfield 52, 3) := by decide +kernel
theorem dX4_advance_127 : decode cX4_advance 127 = .ok (.if_icmp .ge 31, 3) := by decide +kernel
theorem dX4_advance_130 : decode cX4_advance 130 = .ok (.aload_n 0, 1) := by decide +kernel
theorem dX4_advance_131 : decode cX4_advance 131 = .ok (.aload_n 0, 1) := by decide +kernel
theorem dX4_advance_132 : decode cX4_advance 132 = .ok (.getfield 32, 3) := by decide +kernel
theorem dX4_advance_135 : decode cX4_advance 135 = .ok (.invokevirtual 62, 3) := by decide +kernel
theorem dX4_advance_138 : decode cX4_advance 138 = .ok (.aload_n 0, 1) := by decide +kernel
theorem dX4_advance_139 : decode cX4_advance 139 = .ok (.getfield 43, 3) := by decide +kernel
theorem dX4_advance_142 : decode cX4_advance 142 = .ok (.if_icmp .ne 16, 3) := by decide +kernel
theorem dX4_advance_145 : decode cX4_advance 145 = .ok (.aload_n 0, 1) := by decide +kernel
theorem dX4_advance_146 : decode cX4_advance 146 = .ok (.dup, 1) := by decide +kernel
theorem dX4_advance_147 : decode cX4_advance 147 = .ok (.getfield 32, 3) := by decide +kernel
theorem dX4_advance_150 : decode cX4_advance 150 = .ok (.iconst 1, 1) := by decide +kernel
theorem dX4_advance_151 : decode cX4_advance 151 = .ok (.iadd, 1) := by decide +kernel
theorem dX4_advance_152 : decode cX4_advance 152 = .ok (.putfield 32, 3) := by decide +kernel
theorem dX4_advance_155 : decode cX4_advance 155 = .ok (.goto (-40), 3) := by decide +kernel
theorem dX4_advance_158 : decode cX4_advance 158 = .ok (.aload_n 0, 1) := by decide +kernel
theorem dX4_advance_159 : decode cX4_advance 159 = .ok (.getfield 43, 3) := by decide +kernel
theorem dX4_advance_162 : decode cX4_advance 162 = .ok (.iconst 2, 1) := by decide +kernel
theorem dX4_advance_163 : decode cX4_advance 163 = .ok (.if_icmp .ne 28, 3) := by decide +kernel
theorem dX4_advance_166 : decode cX4_advance 166 = .ok (.aload_n 0, 1) := by decide +kernel
theorem dX4_advance_167 : decode cX4_advance 167 = .ok (.getfield 32, 3) := by decide +kernel
theorem dX4_advance_170 : decode cX4_advance 170 = .ok (.aload_n 0, 1) := by decide +kernel
theorem dX4_advance_171 : decode cX4_advance 171 = .ok (.getfield 59, 3) := by decide +kernel
theorem dX4_advance_174 : decode cX4_advance 174 = .ok (.isub, 1) := by decide +kernel
theorem dX4_advance_175 : decode cX4_advance 175 = .ok (.iconst 2, 1) := by decide +kernel
theorem dX4_advance_176 : decode cX4_advance 176 = .ok (.if_icmp .le 15, 3) := by decide +kernel
theorem dX4_advance_179 : decode cX4_advance 179 = .ok (.aload_n 0, 1) := by decide +kernel
theorem dX4_advance_180 : decode cX4_advance 180 = .ok (.iconst 1, 1) := by decide +kernel
theorem dX4_advance_181 : decode cX4_advance 181 = .ok (.aload_n 0, 1) := by decide +kernel
theorem dX4_advance_182 : decode cX4_advance 182 = .ok (.getfield 59, 3) := by decide +kernel
theorem dX4_advance_185 : decode cX4_advance 185 = .ok (.invokevirtual 55, 3) := by decide +kernel
theorem dX4_advance_188 : decode cX4_advance 188 = .ok (.ifCond .eq 7, 3) := by decide +kernel
theorem dX4_advance_191 : decode cX4_advance 191 = .ok (.iconst 1, 1) := by decide +kernel
theorem dX4_advance_192 : decode cX4_advance 192 = .ok (.goto 4, 3) := by decide +kernel
theorem dX4_advance_195 : decode cX4_advance 195 = .ok (.iconst 0, 1) := by decide +kernel
theorem dX4_advance_196 : decode cX4_advance 196 = .ok (.ireturn, 1) := by decide +kernel
theorem dX4_tokenAt_0 : decode cX4_tokenAt 0 = .ok (.iload_n 1, 1) := by decide +kernel
theorem dX4_tokenAt_1 : decode cX4_tokenAt 1 = .ok (.aload_n 0, 1) := by decide +kernel
theorem dX4_tokenAt_2 : decode cX4_tokenAt 2 = .ok (.getfield 52, 3) := by decide +kernel
theorem dX4_tokenAt_5 : decode cX4_tokenAt 5 = .ok (.if_icmp .lt 5, 3) := by decide +kernel
theorem dX4_tokenAt_8 : decode cX4_tokenAt 8 = .ok (.iconst 0, 1) := by decide +kernel
theorem dX4_tokenAt_9 : decode cX4_tokenAt 9 = .ok (.ireturn, 1) := by decide +kernel
theorem dX4_tokenAt_10 : decode cX4_tokenAt 10 = .ok (.aload_n 0, 1) := by decide +kernel
theorem dX4_tokenAt_11 : decode cX4_tokenAt 11 = .ok (.getfield 9, 3) := by decide +kernel
theorem dX4_tokenAt_14 : decode cX4_tokenAt 14 = .ok (.iload_n 1, 1) := by decide +kernel
theorem dX4_tokenAt_15 : decode cX4_tokenAt 15 = .ok (.iaload, 1) := by decide +kernel
theorem dX4_tokenAt_16 : decode cX4_tokenAt 16 = .ok (.istore_n 2, 1) := by decide +kernel
theorem dX4_tokenAt_17 : decode cX4_tokenAt 17 = .ok (.iload_n 2, 1) := by decide +kernel
theorem dX4_tokenAt_18 : decode cX4_tokenAt 18 = .ok (.bipush 97, 2) := by decide +kernel
theorem dX4_tokenAt_20 : decode cX4_tokenAt 20 = .ok (.if_icmp .lt 11, 3) := by decide +kernel
theorem dX4_tokenAt_23 : decode cX4_tokenAt 23 = .ok (.iload_n 2, 1) := by decide +kernel
theorem dX4_tokenAt_24 : decode cX4_tokenAt 24 = .ok (.bipush 122, 2) := by decide +kernel
theorem dX4_tokenAt_26 : decode cX4_tokenAt 26 = .ok (.if_icmp .gt 5, 3) := by decide +kernel
theorem dX4_tokenAt_29 : decode cX4_tokenAt 29 = .ok (.iconst 1, 1) := by decide +kernel
theorem dX4_tokenAt_30 : decode cX4_tokenAt 30 = .ok (.ireturn, 1) := by decide +kernel
theorem dX4_tokenAt_31 : decode cX4_tokenAt 31 = .ok (.iload_n 2, 1) := by decide +kernel
theorem dX4_tokenAt_32 : decode cX4_tokenAt 32 = .ok (.bipush 48, 2) := by decide +kernel
theorem dX4_tokenAt_34 : decode cX4_tokenAt 34 = .ok (.if_icmp .lt 11, 3) := by decide +kernel
theorem dX4_tokenAt_37 : decode cX4_tokenAt 37 = .ok (.iload_n 2, 1) := by decide +kernel
theorem dX4_tokenAt_38 : decode cX4_tokenAt 38 = .ok (.bipush 57, 2) := by decide +kernel
theorem dX4_tokenAt_40 : decode cX4_tokenAt 40 = .ok (.if_icmp .gt 5, 3) := by decide +kernel
theorem dX4_tokenAt_43 : decode cX4_tokenAt 43 = .ok (.iconst 2, 1) := by decide +kernel
theorem dX4_tokenAt_44 : decode cX4_tokenAt 44 = .ok (.ireturn, 1) := by decide +kernel
theorem dX4_tokenAt_45 : decode cX4_tokenAt 45 = .ok (.iload_n 2, 1) := by decide +kernel
theorem dX4_tokenAt_46 : decode cX4_tokenAt 46 = .ok (.bipush 59, 2) := by decide +kernel
theorem dX4_tokenAt_48 : decode cX4_tokenAt 48 = .ok (.if_icmp .ne 7, 3) := by decide +kernel
theorem dX4_tokenAt_51 : decode cX4_tokenAt 51 = .ok (.iconst 3, 1) := by decide +kernel
theorem dX4_tokenAt_52 : decode cX4_tokenAt 52 = .ok (.goto 4, 3) := by decide +kernel
theorem dX4_tokenAt_55 : decode cX4_tokenAt 55 = .ok (.iconst 4, 1) := by decide +kernel
theorem dX4_tokenAt_56 : decode cX4_tokenAt 56 = .ok (.ireturn, 1) := by decide +kernel
theorem dX4_oneLine_0 : decode cX4_oneLine 0 = .ok (.aload_n 0, 1) := by decide +kernel
theorem dX4_oneLine_1 : decode cX4_oneLine 1 = .ok (.getfield 43, 3) := by decide +kernel
theorem dX4_oneLine_4 : decode cX4_oneLine 4 = .ok (.iconst 1, 1) := by decide +kernel
theorem dX4_oneLine_5 : decode cX4_oneLine 5 = .ok (.if_icmp .ne 10, 3) := by decide +kernel
theorem dX4_oneLine_8 : decode cX4_oneLine 8 = .ok (.aload_n 0, 1) := by decide +kernel
theorem dX4_oneLine_9 : decode cX4_oneLine 9 = .ok (.invokevirtual 66, 3) := by decide +kernel
theorem dX4_oneLine_12 : decode cX4_oneLine 12 = .ok (.goto 5, 3) := by decide +kernel
theorem dX4_oneLine_15 : decode cX4_oneLine 15 = .ok (.bipush (-4), 2) := by decide +kernel
theorem dX4_oneLine_17 : decode cX4_oneLine 17 = .ok (.istore_n 1, 1) := by decide +kernel
theorem dX4_oneLine_18 : decode cX4_oneLine 18 = .ok (.iload_n 1, 1) := by decide +kernel
theorem dX4_oneLine_19 : decode cX4_oneLine 19 = .ok (.bipush (-4), 2) := by decide +kernel
theorem dX4_oneLine_21 : decode cX4_oneLine 21 = .ok (.if_icmp .ne 13, 3) := by decide +kernel
theorem dX4_oneLine_24 : decode cX4_oneLine 24 = .ok (.aload_n 0, 1) := by decide +kernel
theorem dX4_oneLine_25 : decode cX4_oneLine 25 = .ok (.iconst 2, 1) := by decide +kernel
theorem dX4_oneLine_26 : decode cX4_oneLine 26 = .ok (.aload_n 0, 1) := by decide +kernel
theorem dX4_oneLine_27 : decode cX4_oneLine 27 = .ok (.getfield 59, 3) := by decide +kernel
theorem dX4_oneLine_30 : decode cX4_oneLine 30 = .ok (.invokevirtual 55, 3) := by decide +kernel
theorem dX4_oneLine_33 : decode cX4_oneLine 33 = .ok (.ireturn, 1) := by decide +kernel
theorem dX4_oneLine_34 : decode cX4_oneLine 34 = .ok (.iload_n 1, 1) := by decide +kernel
theorem dX4_oneLine_35 : decode cX4_oneLine 35 = .ok (.iconst 4, 1) := by decide +kernel
theorem dX4_oneLine_36 : decode cX4_oneLine 36 = .ok (.if_icmp .ge 9, 3) := by decide +kernel
theorem dX4_oneLine_39 : decode cX4_oneLine 39 = .ok (.aload_n 0, 1) := by decide +kernel
theorem dX4_oneLine_40 : decode cX4_oneLine 40 = .ok (.iload_n 1, 1) := by decide +kernel
theorem dX4_oneLine_41 : decode cX4_oneLine 41 = .ok (.invokevirtual 70, 3) := by decide +kernel
theorem dX4_oneLine_44 : decode cX4_oneLine 44 = .ok (.ireturn, 1) := by decide +kernel
theorem dX4_oneLine_45 : decode cX4_oneLine 45 = .ok (.iload_n 1, 1) := by decide +kernel
theorem dX4_oneLine_46 : decode cX4_oneLine 46 = .ok (.iconst 4, 1) := by decide +kernel
theorem dX4_oneLine_47 : decode cX4_oneLine 47 = .ok (.if_icmp .ne 10, 3) := by decide +kernel
theorem dX4_oneLine_50 : decode cX4_oneLine 50 = .ok (.aload_n 0, 1) := by decide +kernel
theorem dX4_oneLine_51 : decode cX4_oneLine 51 = .ok (.invokevirtual 74, 3) := by decide +kernel
theorem dX4_oneLine_54 : decode cX4_oneLine 54 = .ok (.goto 7, 3) := by decide +kernel
theorem dX4_oneLine_57 : decode cX4_oneLine 57 = .ok (.aload_n 0, 1) := by decide +kernel
theorem dX4_oneLine_58 : decode cX4_oneLine 58 = .ok (.invokevirtual 77, 3) := by decide +kernel
theorem dX4_oneLine_61 : decode cX4_oneLine 61 = .ok (.ireturn, 1) := by decide +kernel
theorem dX4_manLine_0 : decode cX4_manLine 0 = .ok (.aload_n 0, 1) := by decide +kernel
theorem dX4_manLine_1 : decode cX4_manLine 1 = .ok (.getfield 18, 3) := by decide +kernel
theorem dX4_manLine_4 : decode cX4_manLine 4 = .ok (.getfield 80, 3) := by decide +kernel
theorem dX4_manLine_7 : decode cX4_manLine 7 = .ok (.getfield 84, 3) := by decide +kernel
theorem dX4_manLine_10 : decode cX4_manLine 10 = .ok (.iconst 5, 1) := by decide +kernel
theorem dX4_manLine_11 : decode cX4_manLine 11 = .ok (.if_icmp .lt 13, 3) := by decide +kernel
theorem dX4_manLine_14 : decode cX4_manLine 14 = .ok (.aload_n 0, 1) := by decide +kernel
theorem dX4_manLine_15 : decode cX4_manLine 15 = .ok (.iconst 5, 1) := by decide +kernel
theorem dX4_manLine_16 : decode cX4_manLine 16 = .ok (.aload_n 0, 1) := by decide +kernel
theorem dX4_manLine_17 : decode cX4_manLine 17 = .ok (.getfield 59, 3) := by decide +kernel
theorem dX4_manLine_20 : decode cX4_manLine 20 = .ok (.invokevirtual 55, 3) := by decide +kernel
theorem dX4_manLine_23 : decode cX4_manLine 23 = .ok (.ireturn, 1) := by decide +kernel
theorem dX4_manLine_24 : decode cX4_manLine 24 = .ok (.aload_n 0, 1) := by decide +kernel
theorem dX4_manLine_25 : decode cX4_manLine 25 = .ok (.bipush 9, 2) := by decide +kernel
theorem dX4_manLine_27 : decode cX4_manLine 27 = .ok (.invokevirtual 89, 3) := by decide +kernel
theorem dX4_manLine_30 : decode cX4_manLine 30 = .ok (.ifCond .ne 5, 3) := by decide +kernel
theorem dX4_manLine_33 : decode cX4_manLine 33 = .ok (.iconst 0, 1) := by decide +kernel
theorem dX4_manLine_34 : decode cX4_manLine 34 = .ok (.ireturn, 1) := by decide +kernel
theorem dX4_manLine_35 : decode cX4_manLine 35 = .ok (.aload_n 0, 1) := by decide +kernel
theorem dX4_manLine_36 : decode cX4_manLine 36 = .ok (.getfield 92, 3) := by decide +kernel
theorem dX4_manLine_39 : decode cX4_manLine 39 = .ok (.istore_n 2, 1) := by decide +kernel
theorem dX4_manLine_40 : decode cX4_manLine 40 = .ok (.aload_n 0, 1) := by decide +kernel
theorem dX4_manLine_41 : decode cX4_manLine 41 = .ok (.bipush 9, 2) := by decide +kernel
theorem dX4_manLine_43 : decode cX4_manLine 43 = .ok (.invokevirtual 89, 3) := by decide +kernel
theorem dX4_manLine_46 : decode cX4_manLine 46 = .ok (.ifCond .ne 5, 3) := by decide +kernel
theorem dX4_manLine_49 : decode cX4_manLine 49 = .ok (.iconst 0, 1) := by decide +kernel
theorem dX4_manLine_50 : decode cX4_manLine 50 = .ok (.ireturn, 1) := by decide +kernel
theorem dX4_manLine_51 : decode cX4_manLine 51 = .ok (.aload_n 0, 1) := by decide +kernel
theorem dX4_manLine_52 : decode cX4_manLine 52 = .ok (.getfield 18, 3) := by decide +kernel
theorem dX4_manLine_55 : decode cX4_manLine 55 = .ok (.getfield 80, 3) := by decide +kernel
theorem dX4_manLine_58 : decode cX4_manLine 58 = .ok (.iload_n 1, 1) := by decide +kernel
theorem dX4_manLine_59 : decode cX4_manLine 59 = .ok (.iload_n 2, 1) := by decide +kernel
theorem dX4_manLine_60 : decode cX4_manLine 60 = .ok (.aload_n 0, 1) := by decide +kernel
theorem dX4_manLine_61 : decode cX4_manLine 61 = .ok (.getfield 92, 3) := by decide +kernel
theorem dX4_manLine_64 : decode cX4_manLine 64 = .ok (.invokevirtual 95, 3) := by decide +kernel
theorem dX4_manLine_67 : decode cX4_manLine 67 = .ok (.aload_n 0, 1) := by decide +kernel
theorem dX4_manLine_68 : decode cX4_manLine 68 = .ok (.invokevirtual 99, 3) := by decide +kernel
theorem dX4_manLine_71 : decode cX4_manLine 71 = .ok (.ireturn, 1) := by decide +kernel
theorem dX4_cousinsLine_0 : decode cX4_cousinsLine 0 = .ok (.aload_n 0, 1) := by decide +kernel
theorem dX4_cousinsLine_1 : decode cX4_cousinsLine 1 = .ok (.getfield 18, 3) := by decide +kernel
theorem dX4_cousinsLine_4 : decode cX4_cousinsLine 4 = .ok (.invokevirtual 102, 3) := by decide +kernel
theorem dX4_cousinsLine_7 : decode cX4_cousinsLine 7 = .ok (.bipush 6, 2) := by decide +kernel
theorem dX4_cousinsLine_9 : decode cX4_cousinsLine 9 = .ok (.if_icmp .lt 13, 3) := by decide +kernel
theorem dX4_cousinsLine_12 : decode cX4_cousinsLine 12 = .ok (.aload_n 0, 1) := by decide +kernel
theorem dX4_cousinsLine_13 : decode cX4_cousinsLine 13 = .ok (.iconst 5, 1) := by decide +kernel
theorem dX4_cousinsLine_14 : decode cX4_cousinsLine 14 = .ok (.aload_n 0, 1) := by decide +kernel
theorem dX4_cousinsLine_15 : decode cX4_cousinsLine 15 = .ok (.getfield 59, 3) := by decide +kernel
theorem dX4_cousinsLine_18 : decode cX4_cousinsLine 18 = .ok (.invokevirtual 55, 3) := by decide +kernel
theorem dX4_cousinsLine_21 : decode cX4_cousinsLine 21 = .ok (.ireturn, 1) := by decide +kernel
theorem dX4_cousinsLine_22 : decode cX4_cousinsLine 22 = .ok (.aload_n 0, 1) := by decide +kernel
theorem dX4_cousinsLine_23 : decode cX4_cousinsLine 23 = .ok (.iconst 4, 1) := by decide +kernel
theorem dX4_cousinsLine_24 : decode cX4_cousinsLine 24 = .ok (.invokevirtual 89, 3) := by decide +kernel
theorem dX4_cousinsLine_27 : decode cX4_cousinsLine 27 = .ok (.ifCond .ne 5, 3) := by decide +kernel
theorem dX4_cousinsLine_30 : decode cX4_cousinsLine 30 = .ok (.iconst 0, 1) := by decide +kernel
theorem dX4_cousinsLine_31 : decode cX4_cousinsLine 31 = .ok (.ireturn, 1) := by decide +kernel
theorem dX4_cousinsLine_32 : decode cX4_cousinsLine 32 = .ok (.aload_n 0, 1) := by decide +kernel
theorem dX4_cousinsLine_33 : decode cX4_cousinsLine 33 = .ok (.getfield 92, 3) := by decide +kernel
theorem dX4_cousinsLine_36 : decode cX4_cousinsLine 36 = .ok (.istore_n 1, 1) := by decide +kernel
theorem dX4_cousinsLine_37 : decode cX4_cousinsLine 37 = .ok (.aload_n 0, 1) := by decide +kernel
theorem dX4_cousinsLine_38 : decode cX4_cousinsLine 38 = .ok (.iconst 4, 1) := by decide +kernel
theorem dX4_cousinsLine_39 : decode cX4_cousinsLine 39 = .ok (.invokevirtual 89, 3) := by decide +kernel
theorem dX4_cousinsLine_42 : decode cX4_cousinsLine 42 = .ok (.ifCond .ne 5, 3) := by decide +kernel
theorem dX4_cousinsLine_45 : decode cX4_cousinsLine 45 = .ok (.iconst 0, 1) := by decide +kernel
theorem dX4_cousinsLine_46 : decode cX4_cousinsLine 46 = .ok (.ireturn, 1) := by decide +kernel
theorem dX4_cousinsLine_47 : decode cX4_cousinsLine 47 = .ok (.aload_n 0, 1) := by decide +kernel
theorem dX4_cousinsLine_48 : decode cX4_cousinsLine 48 = .ok (.getfield 18, 3) := by decide +kernel
theorem dX4_cousinsLine_51 : decode cX4_cousinsLine 51 = .ok (.iload_n 1, 1) := by decide +kernel
theorem dX4_cousinsLine_52 : decode cX4_cousinsLine 52 = .ok (.aload_n 0, 1) := by decide +kernel
theorem dX4_cousinsLine_53 : decode cX4_cousinsLine 53 = .ok (.getfield 92, 3) := by decide +kernel
theorem dX4_cousinsLine_56 : decode cX4_cousinsLine 56 = .ok (.invokevirtual 105, 3) := by decide +kernel
theorem dX4_cousinsLine_59 : decode cX4_cousinsLine 59 = .ok (.ifCond .eq 13, 3) := by decide +kernel
theorem dX4_cousinsLine_62 : decode cX4_cousinsLine 62 = .ok (.aload_n 0, 1) := by decide +kernel
theorem dX4_cousinsLine_63 : decode cX4_cousinsLine 63 = .ok (.iconst 4, 1) := by decide +kernel
theorem dX4_cousinsLine_64 : decode cX4_cousinsLine 64 = .ok (.aload_n 0, 1) := by decide +kernel
theorem dX4_cousinsLine_65 : decode cX4_cousinsLine 65 = .ok (.getfield 59, 3) := by decide +kernel
theorem dX4_cousinsLine_68 : decode cX4_cousinsLine 68 = .ok (.invokevirtual 55, 3) := by decide +kernel
theorem dX4_cousinsLine_71 : decode cX4_cousinsLine 71 = .ok (.ireturn, 1) := by decide +kernel
theorem dX4_cousinsLine_72 : decode cX4_cousinsLine 72 = .ok (.aload_n 0, 1) := by decide +kernel
theorem dX4_cousinsLine_73 : decode cX4_cousinsLine 73 = .ok (.getfield 18, 3) := by decide +kernel
theorem dX4_cousinsLine_76 : decode cX4_cousinsLine 76 = .ok (.getfield 108, 3) := by decide +kernel
theorem dX4_cousinsLine_79 : decode cX4_cousinsLine 79 = .ok (.iload_n 1, 1) := by decide +kernel
theorem dX4_cousinsLine_80 : decode cX4_cousinsLine 80 = .ok (.dup2, 1) := by decide +kernel
theorem dX4_cousinsLine_81 : decode cX4_cousinsLine 81 = .ok (.iaload, 1) := by decide +kernel
theorem dX4_cousinsLine_82 : decode cX4_cousinsLine 82 = .ok (.iconst 1, 1) := by decide +kernel
theorem dX4_cousinsLine_83 : decode cX4_cousinsLine 83 = .ok (.aload_n 0, 1) := by decide +kernel
theorem dX4_cousinsLine_84 : decode cX4_cousinsLine 84 = .ok (.getfield 92, 3) := by decide +kernel
theorem dX4_cousinsLine_87 : decode cX4_cousinsLine 87 = .ok (.ishl, 1) := by decide +kernel
theorem dX4_cousinsLine_88 : decode cX4_cousinsLine 88 = .ok (.ior, 1) := by decide +kernel
theorem dX4_cousinsLine_89 : decode cX4_cousinsLine 89 = .ok (.iastore, 1) := by decide +kernel
theorem dX4_cousinsLine_90 : decode cX4_cousinsLine 90 = .ok (.aload_n 0, 1) := by decide +kernel
theorem dX4_cousinsLine_91 : decode cX4_cousinsLine 91 = .ok (.invokevirtual 99, 3) := by decide +kernel
theorem dX4_cousinsLine_94 : decode cX4_cousinsLine 94 = .ok (.ireturn, 1) := by decide +kernel
theorem dX4_programLine_0 : decode cX4_programLine 0 = .ok (.aload_n 0, 1) := by decide +kernel
theorem dX4_programLine_1 : decode cX4_programLine 1 = .ok (.getfield 35, 3) := by decide +kernel
theorem dX4_programLine_4 : decode cX4_programLine 4 = .ok (.ifCond .eq 13, 3) := by decide +kernel
theorem dX4_programLine_7 : decode cX4_programLine 7 = .ok (.aload_n 0, 1) := by decide +kernel
theorem dX4_programLine_8 : decode cX4_programLine 8 = .ok (.iconst 4, 1) := by decide +kernel
theorem dX4_programLine_9 : decode cX4_programLine 9 = .ok (.aload_n 0, 1) := by decide +kernel
theorem dX4_programLine_10 : decode cX4_programLine 10 = .ok (.getfield 59, 3) := by decide +kernel
theorem dX4_programLine_13 : decode cX4_programLine 13 = .ok (.invokevirtual 55, 3) := by decide +kernel
theorem dX4_programLine_16 : decode cX4_programLine 16 = .ok (.ireturn, 1) := by decide +kernel
theorem dX4_programLine_17 : decode cX4_programLine 17 = .ok (.aload_n 0, 1) := by decide +kernel
theorem dX4_programLine_18 : decode cX4_programLine 18 = .ok (.iconst 1, 1) := by decide +kernel
theorem dX4_programLine_19 : decode cX4_programLine 19 = .ok (.putfield 35, 3) := by decide +kernel
theorem dX4_programLine_22 : decode cX4_programLine 22 = .ok (.iconst 0, 1) := by decide +kernel
theorem dX4_programLine_23 : decode cX4_programLine 23 = .ok (.istore_n 1, 1) := by decide +kernel
theorem dX4_programLine_24 : decode cX4_programLine 24 = .ok (.iload_n 1, 1) := by decide +kernel
theorem dX4_programLine_25 : decode cX4_programLine 25 = .ok (.bipush 8, 2) := by decide +kernel
theorem dX4_programLine_27 : decode cX4_programLine 27 = .ok (.if_icmp .gt 100, 3) := by decide +kernel
theorem dX4_programLine_30 : decode cX4_programLine 30 = .ok (.aload_n 0, 1) := by decide +kernel
theorem dX4_programLine_31 : decode cX4_programLine 31 = .ok (.invokevirtual 39, 3) := by decide +kernel
theorem dX4_programLine_34 : decode cX4_programLine 34 = .ok (.ifCond .ne 5, 3) := by decide +kernel
theorem dX4_programLine_37 : decode cX4_programLine 37 = .ok (.iconst 0, 1) := by decide +kernel
theorem dX4_programLine_38 : decode cX4_programLine 38 = .ok (.ireturn, 1) := by decide +kernel
theorem dX4_programLine_39 : decode cX4_programLine 39 = .ok (.aload_n 0, 1) := by decide +kernel
theorem dX4_programLine_40 : decode cX4_programLine 40 = .ok (.getfield 43, 3) := by decide +kernel
theorem dX4_programLine_43 : decode cX4_programLine 43 = .ok (.iconst 3, 1) := by decide +kernel
theorem dX4_programLine_44 : decode cX4_programLine 44 = .ok (.if_icmp .ne 5, 3) := by decide +kernel
theorem dX4_programLine_47 : decode cX4_programLine 47 = .ok (.iconst 1, 1) := by decide +kernel
theorem dX4_programLine_48 : decode cX4_programLine 48 = .ok (.ireturn, 1) := by decide +kernel
theorem dX4_programLine_49 : decode cX4_programLine 49 = .ok (.aload_n 0, 1) := by decide +kernel
theorem dX4_programLine_50 : decode cX4_programLine 50 = .ok (.getfield 43, 3) := by decide +kernel
theorem dX4_programLine_53 : decode cX4_programLine 53 = .ok (.iconst 1, 1) := by decide +kernel
theorem dX4_programLine_54 : decode cX4_programLine 54 = .ok (.if_icmp .ne 25, 3) := by decide +kernel
theorem dX4_programLine_57 : decode cX4_programLine 57 = .ok (.aload_n 0, 1) := by decide +kernel
theorem dX4_programLine_58 : decode cX4_programLine 58 = .ok (.getfield 18, 3) := by decide +kernel
theorem dX4_programLine_61 : decode cX4_programLine 61 = .ok (.getfield 111, 3) := by decide +kernel
theorem dX4_programLine_64 : decode cX4_programLine 64 = .ok (.bipush 8, 2) := by decide +kernel
theorem dX4_programLine_66 : decode cX4_programLine 66 = .ok (.if_icmp .lt 13, 3) := by decide +kernel
theorem dX4_programLine_69 : decode cX4_programLine 69 = .ok (.aload_n 0, 1) := by decide +kernel
theorem dX4_programLine_70 : decode cX4_programLine 70 = .ok (.iconst 5, 1) := by decide +kernel
theorem dX4_programLine_71 : decode cX4_programLine 71 = .ok (.aload_n 0, 1) := by decide +kernel
theorem dX4_programLine_72 : decode cX4_programLine 72 = .ok (.getfield 59, 3) := by decide +kernel
theorem dX4_programLine_75 : decode cX4_programLine 75 = .ok (.invokevirtual 55, 3) := by decide +kernel
theorem dX4_programLine_78 : decode cX4_programLine 78 = .ok (.ireturn, 1) := by decide +kernel
theorem dX4_programLine_79 : decode cX4_programLine 79 = .ok (.aload_n 0, 1) := by decide +kernel
theorem dX4_programLine_80 : decode cX4_programLine 80 = .ok (.getfield 43, 3) := by decide +kernel
theorem dX4_programLine_83 : decode cX4_programLine 83 = .ok (.iconst 1, 1) := by decide +kernel
theorem dX4_programLine_84 : decode cX4_programLine 84 = .ok (.if_icmp .ne 10, 3) := by decide +kernel
theorem dX4_programLine_87 : decode cX4_programLine 87 = .ok (.aload_n 0, 1) := by decide +kernel
theorem dX4_programLine_88 : decode cX4_programLine 88 = .ok (.invokevirtual 114, 3) := by decide +kernel
theorem dX4_programLine_91 : decode cX4_programLine 91 = .ok (.goto 5, 3) := by decide +kernel
theorem dX4_programLine_94 : decode cX4_programLine 94 = .ok (.bipush (-4), 2) := by decide +kernel
theorem dX4_programLine_96 : decode cX4_programLine 96 = .ok (.istore_n 2, 1) := by decide +kernel
theorem dX4_programLine_97 : decode cX4_programLine 97 = .ok (.iload_n 2, 1) := by decide +kernel
theorem dX4_programLine_98 : decode cX4_programLine 98 = .ok (.bipush (-4), 2) := by decide +kernel
theorem dX4_programLine_100 : decode cX4_programLine 100 = .ok (.if_icmp .ne 13, 3) := by decide +kernel
theorem dX4_programLine_103 : decode cX4_programLine 103 = .ok (.aload_n 0, 1) := by decide +kernel
theorem dX4_programLine_104 : decode cX4_programLine 104 = .ok (.iconst 2, 1) := by decide +kernel
theorem dX4_programLine_105 : decode cX4_programLine 105 = .ok (.aload_n 0, 1) := by decide +kernel
theorem dX4_programLine_106 : decode cX4_programLine 106 = .ok (.getfield 59, 3) := by decide +kernel
theorem dX4_programLine_109 : decode cX4_programLine 109 = .ok (.invokevirtual 55, 3) := by decide +kernel
theorem dX4_programLine_112 : decode cX4_programLine 112 = .ok (.ireturn, 1) := by decide +kernel
theorem dX4_programLine_113 : decode cX4_programLine 113 = .ok (.aload_n 0, 1) := by decide +kernel
theorem dX4_programLine_114 : decode cX4_programLine 114 = .ok (.getfield 18, 3) := by decide +kernel
theorem dX4_programLine_117 : decode cX4_programLine 117 = .ok (.iload_n 2, 1) := by decide +kernel
theorem dX4_programLine_118 : decode cX4_programLine 118 = .ok (.invokevirtual 117, 3) := by decide +kernel
theorem dX4_programLine_121 : decode cX4_programLine 121 = .ok (.iinc 1 1, 3) := by decide +kernel
theorem dX4_programLine_124 : decode cX4_programLine 124 = .ok (.goto (-100), 3) := by decide +kernel
theorem dX4_programLine_127 : decode cX4_programLine 127 = .ok (.iconst 0, 1) := by decide +kernel
theorem dX4_programLine_128 : decode cX4_programLine 128 = .ok (.ireturn, 1) := by decide +kernel
theorem dX4_number_0 : decode cX4_number 0 = .ok (.aload_n 0, 1) := by decide +kernel
theorem dX4_number_1 : decode cX4_number 1 = .ok (.invokevirtual 39, 3) := by decide +kernel
theorem dX4_number_4 : decode cX4_number 4 = .ok (.ifCond .ne 5, 3) := by decide +kernel
theorem dX4_number_7 : decode cX4_number 7 = .ok (.iconst 0, 1) := by decide +kernel
theorem dX4_number_8 : decode cX4_number 8 = .ok (.ireturn, 1) := by decide +kernel
theorem dX4_number_9 : decode cX4_number 9 = .ok (.aload_n 0, 1) := by decide +kernel
theorem dX4_number_10 : decode cX4_number 10 = .ok (.getfield 43, 3) := by decide +kernel
theorem dX4_number_13 : decode cX4_number 13 = .ok (.iconst 2, 1) := by decide +kernel
theorem dX4_number_14 : decode cX4_number 14 = .ok (.if_icmp .eq 13, 3) := by decide +kernel
theorem dX4_number_17 : decode cX4_number 17 = .ok (.aload_n 0, 1) := by decide +kernel
theorem dX4_number_18 : decode cX4_number 18 = .ok (.iconst 2, 1) := by decide +kernel
theorem dX4_number_19 : decode cX4_number 19 = .ok (.aload_n 0, 1) := by decide +kernel
theorem dX4_number_20 : decode cX4_number 20 = .ok (.getfield 59, 3) := by decide +kernel
theorem dX4_number_23 : decode cX4_number 23 = .ok (.invokevirtual 55, 3) := by decide +kernel
theorem dX4_number_26 : decode cX4_number 26 = .ok (.ireturn, 1) := by decide +kernel
theorem dX4_number_27 : decode cX4_number 27 = .ok (.aload_n 0, 1) := by decide +kernel
theorem dX4_number_28 : decode cX4_number 28 = .ok (.iconst 0, 1) := by decide +kernel
theorem dX4_number_29 : decode cX4_number 29 = .ok (.putfield 92, 3) := by decide +kernel
theorem dX4_number_32 : decode cX4_number 32 = .ok (.aload_n 0, 1) := by decide +kernel
theorem dX4_number_33 : decode cX4_number 33 = .ok (.getfield 59, 3) := by decide +kernel
theorem dX4_number_36 : decode cX4_number 36 = .ok (.istore_n 2, 1) := by decide +kernel
theorem dX4_number_37 : decode cX4_number 37 = .ok (.iload_n 2, 1) := by decide +kernel
theorem dX4_number_38 : decode cX4_number 38 = .ok (.aload_n 0, 1) := by decide +kernel
theorem dX4_number_39 : decode cX4_number 39 = .ok (.getfield 32, 3) := by decide +kernel
theorem dX4_number_42 : decode cX4_number 42 = .ok (.if_icmp .ge 30, 3) := by decide +kernel
theorem dX4_number_45 : decode cX4_number 45 = .ok (.aload_n 0, 1) := by decide +kernel
theorem dX4_number_46 : decode cX4_number 46 = .ok (.aload_n 0, 1) := by decide +kernel
theorem dX4_number_47 : decode cX4_number 47 = .ok (.getfield 92, 3) := by decide +kernel
theorem dX4_number_50 : decode cX4_number 50 = .ok (.bipush 10, 2) := by decide +kernel
theorem dX4_number_52 : decode cX4_number 52 = .ok (.imul, 1) := by decide +kernel
theorem dX4_number_53 : decode cX4_number 53 = .ok (.aload_n 0, 1) := by decide +kernel
theorem dX4_number_54 : decode cX4_number 54 = .ok (.getfield 9, 3) := by decide +kernel
theorem dX4_number_57 : decode cX4_number 57 = .ok (.iload_n 2, 1) := by decide +kernel
theorem dX4_number_58 : decode cX4_number 58 = .ok (.iaload, 1) := by decide +kernel
theorem dX4_number_59 : decode cX4_number 59 = .ok (.iadd, 1) := by decide +kernel
theorem dX4_number_60 : decode cX4_number 60 = .ok (.bipush 48, 2) := by decide +kernel
theorem dX4_number_62 : decode cX4_number 62 = .ok (.isub, 1) := by decide +kernel
theorem dX4_number_63 : decode cX4_number 63 = .ok (.putfield 92, 3) := by decide +kernel
theorem dX4_number_66 : decode cX4_number 66 = .ok (.iinc 2 1, 3) := by decide +kernel
theorem dX4_number_69 : decode cX4_number 69 = .ok (.goto (-32), 3) := by decide +kernel
theorem dX4_number_72 : decode cX4_number 72 = .ok (.aload_n 0, 1) := by decide +kernel
theorem dX4_number_73 : decode cX4_number 73 = .ok (.getfield 92, 3) := by decide +kernel
theorem dX4_number_76 : decode cX4_number 76 = .ok (.iload_n 1, 1) := by decide +kernel
theorem dX4_number_77 : decode cX4_number 77 = .ok (.if_icmp .le 15, 3) := by decide +kernel
theorem dX4_number_80 : decode cX4_number 80 = .ok (.aload_n 0, 1) := by decide +kernel
theorem dX4_number_81 : decode cX4_number 81 = .ok (.iconst 3, 1) := by decide +kernel
theorem dX4_number_82 : decode cX4_number 82 = .ok (.aload_n 0, 1) := by decide +kernel
theorem dX4_number_83 : decode cX4_number 83 = .ok (.getfield 59, 3) := by decide +kernel
theorem dX4_number_86 : decode cX4_number 86 = .ok (.invokevirtual 55, 3) := by decide +kernel
theorem dX4_number_89 : decode cX4_number 89 = .ok (.ifCond .eq 7, 3) := by decide +kernel
theorem dX4_number_92 : decode cX4_number 92 = .ok (.iconst 1, 1) := by decide +kernel
theorem dX4_number_93 : decode cX4_number 93 = .ok (.goto 4, 3) := by decide +kernel
theorem dX4_number_96 : decode cX4_number 96 = .ok (.iconst 0, 1) := by decide +kernel
theorem dX4_number_97 : decode cX4_number 97 = .ok (.ireturn, 1) := by decide +kernel
theorem dX4_semicolon_0 : decode cX4_semicolon 0 = .ok (.aload_n 0, 1) := by decide +kernel
theorem dX4_semicolon_1 : decode cX4_semicolon 1 = .ok (.invokevirtual 39, 3) := by decide +kernel
theorem dX4_semicolon_4 : decode cX4_semicolon 4 = .ok (.ifCond .ne 5, 3) := by decide +kernel
theorem dX4_semicolon_7 : decode cX4_semicolon 7 = .ok (.iconst 0, 1) := by decide +kernel
theorem dX4_semicolon_8 : decode cX4_semicolon 8 = .ok (.ireturn, 1) := by decide +kernel
theorem dX4_semicolon_9 : decode cX4_semicolon 9 = .ok (.aload_n 0, 1) := by decide +kernel
theorem dX4_semicolon_10 : decode cX4_semicolon 10 = .ok (.getfield 43, 3) := by decide +kernel
theorem dX4_semicolon_13 : decode cX4_semicolon 13 = .ok (.iconst 3, 1) := by decide +kernel
theorem dX4_semicolon_14 : decode cX4_semicolon 14 = .ok (.if_icmp .eq 15, 3) := by decide +kernel
theorem dX4_semicolon_17 : decode cX4_semicolon 17 = .ok (.aload_n 0, 1) := by decide +kernel
theorem dX4_semicolon_18 : decode cX4_semicolon 18 = .ok (.iconst 2, 1) := by decide +kernel
theorem dX4_semicolon_19 : decode cX4_semicolon 19 = .ok (.aload_n 0, 1) := by decide +kernel
theorem dX4_semicolon_20 : decode cX4_semicolon 20 = .ok (.getfield 59, 3) := by decide +kernel
theorem dX4_semicolon_23 : decode cX4_semicolon 23 = .ok (.invokevirtual 55, 3) := by decide +kernel
theorem dX4_semicolon_26 : decode cX4_semicolon 26 = .ok (.ifCond .eq 7, 3) := by decide +kernel
theorem dX4_semicolon_29 : decode cX4_semicolon 29 = .ok (.iconst 1, 1) := by decide +kernel
theorem dX4_semicolon_30 : decode cX4_semicolon 30 = .ok (.goto 4, 3) := by decide +kernel
theorem dX4_semicolon_33 : decode cX4_semicolon 33 = .ok (.iconst 0, 1) := by decide +kernel
theorem dX4_semicolon_34 : decode cX4_semicolon 34 = .ok (.ireturn, 1) := by decide +kernel
theorem dX4_lineWord_0 : decode cX4_lineWord 0 = .ok (.iconst 0, 1) := by decide +kernel
theorem dX4_lineWord_1 : decode cX4_lineWord 1 = .ok (.istore_n 1, 1) := by decide +kernel
theorem dX4_lineWord_2 : decode cX4_lineWord 2 = .ok (.iload_n 1, 1) := by decide +kernel
theorem dX4_lineWord_3 : decode cX4_lineWord 3 = .ok (.bipush 6, 2) := by decide +kernel
theorem dX4_lineWord_5 : decode cX4_lineWord 5 = .ok (.if_icmp .ge 22, 3) := by decide +kernel
theorem dX4_lineWord_8 : decode cX4_lineWord 8 = .ok (.aload_n 0, 1) := by decide +kernel
theorem dX4_lineWord_9 : decode cX4_lineWord 9 = .ok (.iload_n 1, 1) := by decide +kernel
theorem dX4_lineWord_10 : decode cX4_lineWord 10 = .ok (.invokestatic 121, 3) := by decide +kernel
theorem dX4_lineWord_13 : decode cX4_lineWord 13 = .ok (.invokevirtual 125, 3) := by decide +kernel
theorem dX4_lineWord_16 : decode cX4_lineWord 16 = .ok (.ifCond .eq 5, 3) := by decide +kernel
theorem dX4_lineWord_19 : decode cX4_lineWord 19 = .ok (.iload_n 1, 1) := by decide +kernel
theorem dX4_lineWord_20 : decode cX4_lineWord 20 = .ok (.ireturn, 1) := by decide +kernel
theorem dX4_lineWord_21 : decode cX4_lineWord 21 = .ok (.iinc 1 1, 3) := by decide +kernel
theorem dX4_lineWord_24 : decode cX4_lineWord 24 = .ok (.goto (-22), 3) := by decide +kernel
theorem dX4_lineWord_27 : decode cX4_lineWord 27 = .ok (.bipush (-4), 2) := by decide +kernel
theorem dX4_lineWord_29 : decode cX4_lineWord 29 = .ok (.ireturn, 1) := by decide +kernel
theorem dX4_figureWord_0 : decode cX4_figureWord 0 = .ok (.iconst 0, 1) := by decide +kernel
theorem dX4_figureWord_1 : decode cX4_figureWord 1 = .ok (.istore_n 1, 1) := by decide +kernel
theorem dX4_figureWord_2 : decode cX4_figureWord 2 = .ok (.iload_n 1, 1) := by decide +kernel
theorem dX4_figureWord_3 : decode cX4_figureWord 3 = .ok (.iconst 4, 1) := by decide +kernel
theorem dX4_figureWord_4 : decode cX4_figureWord 4 = .ok (.if_icmp .ge 22, 3) := by decide +kernel
theorem dX4_figureWord_7 : decode cX4_figureWord 7 = .ok (.aload_n 0, 1) := by decide +kernel
theorem dX4_figureWord_8 : decode cX4_figureWord 8 = .ok (.iload_n 1, 1) := by decide +kernel
theorem dX4_figureWord_9 : decode cX4_figureWord 9 = .ok (.invokestatic 129, 3) := by decide +kernel
theorem dX4_figureWord_12 : decode cX4_figureWord 12 = .ok (.invokevirtual 125, 3) := by decide +kernel
theorem dX4_figureWord_15 : decode cX4_figureWord 15 = .ok (.ifCond .eq 5, 3) := by decide +kernel
theorem dX4_figureWord_18 : decode cX4_figureWord 18 = .ok (.iload_n 1, 1) := by decide +kernel
theorem dX4_figureWord_19 : decode cX4_figureWord 19 = .ok (.ireturn, 1) := by decide +kernel
theorem dX4_figureWord_20 : decode cX4_figureWord 20 = .ok (.iinc 1 1, 3) := by decide +kernel
theorem dX4_figureWord_23 : decode cX4_figureWord 23 = .ok (.goto (-21), 3) := by decide +kernel
theorem dX4_figureWord_26 : decode cX4_figureWord 26 = .ok (.bipush (-4), 2) := by decide +kernel
theorem dX4_figureWord_28 : decode cX4_figureWord 28 = .ok (.ireturn, 1) := by decide +kernel
theorem dX4_isWord_0 : decode cX4_isWord 0 = .ok (.aload_n 1, 1) := by decide +kernel
theorem dX4_isWord_1 : decode cX4_isWord 1 = .ok (.invokevirtual 132, 3) := by decide +kernel
theorem dX4_isWord_4 : decode cX4_isWord 4 = .ok (.aload_n 0, 1) := by decide +kernel
theorem dX4_isWord_5 : decode cX4_isWord 5 = .ok (.getfield 32, 3) := by decide +kernel
theorem dX4_isWord_8 : decode cX4_isWord 8 = .ok (.aload_n 0, 1) := by decide +kernel
theorem dX4_isWord_9 : decode cX4_isWord 9 = .ok (.getfield 59, 3) := by decide +kernel
theorem dX4_isWord_12 : decode cX4_isWord 12 = .ok (.isub, 1) := by decide +kernel
theorem dX4_isWord_13 : decode cX4_isWord 13 = .ok (.if_icmp .eq 5, 3) := by decide +kernel
theorem dX4_isWord_16 : decode cX4_isWord 16 = .ok (.iconst 0, 1) := by decide +kernel
theorem dX4_isWord_17 : decode cX4_isWord 17 = .ok (.ireturn, 1) := by decide +kernel
theorem dX4_isWord_18 : decode cX4_isWord 18 = .ok (.iconst 0, 1) := by decide +kernel
theorem dX4_isWord_19 : decode cX4_isWord 19 = .ok (.istore_n 2, 1) := by decide +kernel
theorem dX4_isWord_20 : decode cX4_isWord 20 = .ok (.iload_n 2, 1) := by decide +kernel
theorem dX4_isWord_21 : decode cX4_isWord 21 = .ok (.aload_n 1, 1) := by decide +kernel
theorem dX4_isWord_22 : decode cX4_isWord 22 = .ok (.invokevirtual 132, 3) := by decide +kernel
theorem dX4_isWord_25 : decode cX4_isWord 25 = .ok (.if_icmp .ge 30, 3) := by decide +kernel
theorem dX4_isWord_28 : decode cX4_isWord 28 = .ok (.aload_n 1, 1) := by decide +kernel
theorem dX4_isWord_29 : decode cX4_isWord 29 = .ok (.iload_n 2, 1) := by decide +kernel
theorem dX4_isWord_30 : decode cX4_isWord 30 = .ok (.invokevirtual 136, 3) := by decide +kernel
theorem dX4_isWord_33 : decode cX4_isWord 33 = .ok (.aload_n 0, 1) := by decide +kernel
theorem dX4_isWord_34 : decode cX4_isWord 34 = .ok (.getfield 9, 3) := by decide +kernel
theorem dX4_isWord_37 : decode cX4_isWord 37 = .ok (.aload_n 0, 1) := by decide +kernel
theorem dX4_isWord_38 : decode cX4_isWord 38 = .ok (.getfield 59, 3) := by decide +kernel
theorem dX4_isWord_41 : decode cX4_isWord 41 = .ok (.iload_n 2, 1) := by decide +kernel
theorem dX4_isWord_42 : decode cX4_isWord 42 = .ok (.iadd, 1) := by decide +kernel
theorem dX4_isWord_43 : decode cX4_isWord 43 = .ok (.iaload, 1) := by decide +kernel
theorem dX4_isWord_44 : decode cX4_isWord 44 = .ok (.if_icmp .eq 5, 3) := by decide +kernel
theorem dX4_isWord_47 : decode cX4_isWord 47 = .ok (.iconst 0, 1) := by decide +kernel
theorem dX4_isWord_48 : decode cX4_isWord 48 = .ok (.ireturn, 1) := by decide +kernel
theorem dX4_isWord_49 : decode cX4_isWord 49 = .ok (.iinc 2 1, 3) := by decide +kernel
theorem dX4_isWord_52 : decode cX4_isWord 52 = .ok (.goto (-32), 3) := by decide +kernel
theorem dX4_isWord_55 : decode cX4_isWord 55 = .ok (.iconst 1, 1) := by decide +kernel
theorem dX4_isWord_56 : decode cX4_isWord 56 = .ok (.ireturn, 1) := by decide +kernel
theorem dX4_wordOfLine_0 : decode cX4_wordOfLine 0 = .ok (.iload_n 0, 1) := by decide +kernel
theorem dX4_wordOfLine_1 : decode cX4_wordOfLine 1 = .ok (.tableswitch 50 0 4 #[35, 38, 41, 44, 47], 35) := by decide +kernel
theorem dX4_wordOfLine_36 : decode cX4_wordOfLine 36 = .ok (.ldc 140, 2) := by decide +kernel
theorem dX4_wordOfLine_38 : decode cX4_wordOfLine 38 = .ok (.areturn, 1) := by decide +kernel
theorem dX4_wordOfLine_39 : decode cX4_wordOfLine 39 = .ok (.ldc 142, 2) := by decide +kernel
theorem dX4_wordOfLine_41 : decode cX4_wordOfLine 41 = .ok (.areturn, 1) := by decide +kernel
theorem dX4_wordOfLine_42 : decode cX4_wordOfLine 42 = .ok (.ldc 144, 2) := by decide +kernel
theorem dX4_wordOfLine_44 : decode cX4_wordOfLine 44 = .ok (.areturn, 1) := by decide +kernel
theorem dX4_wordOfLine_45 : decode cX4_wordOfLine 45 = .ok (.ldc 146, 2) := by decide +kernel
theorem dX4_wordOfLine_47 : decode cX4_wordOfLine 47 = .ok (.areturn, 1) := by decide +kernel
theorem dX4_wordOfLine_48 : decode cX4_wordOfLine 48 = .ok (.ldc 148, 2) := by decide +kernel
theorem dX4_wordOfLine_50 : decode cX4_wordOfLine 50 = .ok (.areturn, 1) := by decide +kernel
theorem dX4_wordOfLine_51 : decode cX4_wordOfLine 51 = .ok (.ldc 150, 2) := by decide +kernel
theorem dX4_wordOfLine_53 : decode cX4_wordOfLine 53 = .ok (.areturn, 1) := by decide +kernel
theorem dX4_wordOfFigure_0 : decode cX4_wordOfFigure 0 = .ok (.iload_n 0, 1) := by decide +kernel
theorem dX4_wordOfFigure_1 : decode cX4_wordOfFigure 1 = .ok (.tableswitch 36 0 2 #[27, 30, 33], 27) := by decide +kernel
theorem dX4_wordOfFigure_28 : decode cX4_wordOfFigure 28 = .ok (.ldc 152, 2) := by decide +kernel
theorem dX4_wordOfFigure_30 : decode cX4_wordOfFigure 30 = .ok (.areturn, 1) := by decide +kernel
theorem dX4_wordOfFigure_31 : decode cX4_wordOfFigure 31 = .ok (.ldc 154, 2) := by decide +kernel
theorem dX4_wordOfFigure_33 : decode cX4_wordOfFigure 33 = .ok (.areturn, 1) := by decide +kernel
theorem dX4_wordOfFigure_34 : decode cX4_wordOfFigure 34 = .ok (.ldc 156, 2) := by decide +kernel
theorem dX4_wordOfFigure_36 : decode cX4_wordOfFigure 36 = .ok (.areturn, 1) := by decide +kernel
theorem dX4_wordOfFigure_37 : decode cX4_wordOfFigure 37 = .ok (.ldc 158, 2) := by decide +kernel
theorem dX4_wordOfFigure_39 : decode cX4_wordOfFigure 39 = .ok (.areturn, 1) := by decide +kernel
theorem dX5_init_0 : decode cX5_init 0 = .ok (.aload_n 0, 1) := by decide +kernel
theorem dX5_init_1 : decode cX5_init 1 = .ok (.invokespecial 3, 3) := by decide +kernel
theorem dX5_init_4 : decode cX5_init 4 = .ok (.aload_n 0, 1) := by decide +kernel
theorem dX5_init_5 : decode cX5_init 5 = .ok (.new 9, 3) := by decide +kernel
theorem dX5_init_8 : decode cX5_init 8 = .ok (.dup, 1) := by decide +kernel
theorem dX5_init_9 : decode cX5_init 9 = .ok (.invokespecial 11, 3) := by decide +kernel
theorem dX5_init_12 : decode cX5_init 12 = .ok (.putfield 12, 3) := by decide +kernel
theorem dX5_init_15 : decode cX5_init 15 = .ok (.aload_n 0, 1) := by decide +kernel
theorem dX5_init_16 : decode cX5_init 16 = .ok (.bipush 45, 2) := by decide +kernel
theorem dX5_init_18 : decode cX5_init 18 = .ok (.newarray .int, 2) := by decide +kernel
theorem dX5_init_20 : decode cX5_init 20 = .ok (.putfield 18, 3) := by decide +kernel
theorem dX5_init_23 : decode cX5_init 23 = .ok (.return_, 1) := by decide +kernel
theorem dX5_follow_0 : decode cX5_follow 0 = .ok (.aload_n 0, 1) := by decide +kernel
theorem dX5_follow_1 : decode cX5_follow 1 = .ok (.iconst 0, 1) := by decide +kernel
theorem dX5_follow_2 : decode cX5_follow 2 = .ok (.putfield 22, 3) := by decide +kernel
theorem dX5_follow_5 : decode cX5_follow 5 = .ok (.aload_n 0, 1) := by decide +kernel
theorem dX5_follow_6 : decode cX5_follow 6 = .ok (.invokevirtual 26, 3) := by decide +kernel
theorem dX5_follow_9 : decode cX5_follow 9 = .ok (.aload_n 0, 1) := by decide +kernel
theorem dX5_follow_10 : decode cX5_follow 10 = .ok (.getfield 22, 3) := by decide +kernel
theorem dX5_follow_13 : decode cX5_follow 13 = .ok (.aload_n 1, 1) := by decide +kernel
theorem dX5_follow_14 : decode cX5_follow 14 = .ok (.getfield 29, 3) := by decide +kernel
theorem dX5_follow_17 : decode cX5_follow 17 = .ok (.if_icmp .ge 45, 3) := by decide +kernel
theorem dX5_follow_20 : decode cX5_follow 20 = .ok (.aload_n 0, 1) := by decide +kernel
theorem dX5_follow_21 : decode cX5_follow 21 = .ok (.getfield 22, 3) := by decide +kernel
theorem dX5_follow_24 : decode cX5_follow 24 = .ok (.bipush 8, 2) := by decide +kernel
theorem dX5_follow_26 : decode cX5_follow 26 = .ok (.if_icmp .ge 36, 3) := by decide +kernel
theorem dX5_follow_29 : decode cX5_follow 29 = .ok (.aload_n 0, 1) := by decide +kernel
theorem dX5_follow_30 : decode cX5_follow 30 = .ok (.getfield 12, 3) := by decide +kernel
theorem dX5_follow_33 : decode cX5_follow 33 = .ok (.aload_n 1, 1) := by decide +kernel
theorem dX5_follow_34 : decode cX5_follow 34 = .ok (.getfield 34, 3) := by decide +kernel
theorem dX5_follow_37 : decode cX5_follow 37 = .ok (.aload_n 0, 1) := by decide +kernel
theorem dX5_follow_38 : decode cX5_follow 38 = .ok (.getfield 22, 3) := by decide +kernel
theorem dX5_follow_41 : decode cX5_follow 41 = .ok (.iaload, 1) := by decide +kernel
theorem dX5_follow_42 : decode cX5_follow 42 = .ok (.invokevirtual 37, 3) := by decide +kernel
theorem dX5_follow_45 : decode cX5_follow 45 = .ok (.aload_n 0, 1) := by decide +kernel
theorem dX5_follow_46 : decode cX5_follow 46 = .ok (.dup, 1) := by decide +kernel
theorem dX5_follow_47 : decode cX5_follow 47 = .ok (.getfield 22, 3) := by decide +kernel
theorem dX5_follow_50 : decode cX5_follow 50 = .ok (.iconst 1, 1) := by decide +kernel
theorem dX5_follow_51 : decode cX5_follow 51 = .ok (.iadd, 1) := by decide +kernel
theorem dX5_follow_52 : decode cX5_follow 52 = .ok (.putfield 22, 3) := by decide +kernel
theorem dX5_follow_55 : decode cX5_follow 55 = .ok (.aload_n 0, 1) := by decide +kernel
theorem dX5_follow_56 : decode cX5_follow 56 = .ok (.invokevirtual 26, 3) := by decide +kernel
theorem dX5_follow_59 : decode cX5_follow 59 = .ok (.goto (-50), 3) := by decide +kernel
theorem dX5_follow_62 : decode cX5_follow 62 = .ok (.return_, 1) := by decide +kernel
theorem dX5_note_0 : decode cX5_note 0 = .ok (.aload_n 0, 1) := by decide +kernel
theorem dX5_note_1 : decode cX5_note 1 = .ok (.getfield 12, 3) := by decide +kernel
theorem dX5_note_4 : decode cX5_note 4 = .ok (.getfield 41, 3) := by decide +kernel
theorem dX5_note_7 : decode cX5_note 7 = .ok (.iconst 0, 1) := by decide +kernel
theorem dX5_note_8 : decode cX5_note 8 = .ok (.aload_n 0, 1) := by decide +kernel
theorem dX5_note_9 : decode cX5_note 9 = .ok (.getfield 18, 3) := by decide +kernel
theorem dX5_note_12 : decode cX5_note 12 = .ok (.aload_n 0, 1) := by decide +kernel
theorem dX5_note_13 : decode cX5_note 13 = .ok (.getfield 22, 3) := by decide +kernel
theorem dX5_note_16 : decode cX5_note 16 = .ok (.iconst 5, 1) := by decide +kernel
theorem dX5_note_17 : decode cX5_note 17 = .ok (.imul, 1) := by decide +kernel
theorem dX5_note_18 : decode cX5_note 18 = .ok (.iconst 5, 1) := by decide +kernel
theorem dX5_note_19 : decode cX5_note 19 = .ok (.invokestatic 44, 3) := by decide +kernel
theorem dX5_note_22 : decode cX5_note 22 = .ok (.return_, 1) := by decide +kernel
theorem dX5_partnerBehind_0 : decode cX5_partnerBehind 0 = .ok (.aload_n 0, 1) := by decide +kernel
theorem dX5_partnerBehind_1 : decode cX5_partnerBehind 1 = .ok (.getfield 18, 3) := by decide +kernel
theorem dX5_partnerBehind_4 : decode cX5_partnerBehind 4 = .ok (.iload_n 2, 1) := by decide +kernel
theorem dX5_partnerBehind_5 : decode cX5_partnerBehind 5 = .ok (.aload_n 0, 1) := by decide +kernel
theorem dX5_partnerBehind_6 : decode cX5_partnerBehind 6 = .ok (.getfield 22, 3) := by decide +kernel
theorem dX5_partnerBehind_9 : decode cX5_partnerBehind 9 = .ok (.invokestatic 50, 3) := by decide +kernel
theorem dX5_partnerBehind_12 : decode cX5_partnerBehind 12 = .ok (.iconst 5, 1) := by decide +kernel
theorem dX5_partnerBehind_13 : decode cX5_partnerBehind 13 = .ok (.imul, 1) := by decide +kernel
theorem dX5_partnerBehind_14 : decode cX5_partnerBehind 14 = .ok (.iload_n 1, 1) := by decide +kernel
theorem dX5_partnerBehind_15 : decode cX5_partnerBehind 15 = .ok (.iadd, 1) := by decide +kernel
theorem dX5_partnerBehind_16 : decode cX5_partnerBehind 16 = .ok (.iaload, 1) := by decide +kernel
theorem dX5_partnerBehind_17 : decode cX5_partnerBehind 17 = .ok (.ireturn, 1) := by decide +kernel
theorem dX6_init_0 : decode cX6_init 0 = .ok (.aload_n 0, 1) := by decide +kernel
theorem dX6_init_1 : decode cX6_init 1 = .ok (.invokespecial 1, 3) := by decide +kernel
theorem dX6_init_4 : decode cX6_init 4 = .ok (.aload_n 0, 1) := by decide +kernel
theorem dX6_init_5 : decode cX6_init 5 = .ok (.new 7, 3) := by decide +kernel
theorem dX6_init_8 : decode cX6_init 8 = .ok (.dup, 1) := by decide +kernel
theorem dX6_init_9 : decode cX6_init 9 = .ok (.invokespecial 9, 3) := by decide +kernel
theorem dX6_init_12 : decode cX6_init 12 = .ok (.putfield 10, 3) := by decide +kernel
theorem dX6_init_15 : decode cX6_init 15 = .ok (.aload_n 0, 1) := by decide +kernel
theorem dX6_init_16 : decode cX6_init 16 = .ok (.new 16, 3) := by decide +kernel
theorem dX6_init_19 : decode cX6_init 19 = .ok (.dup, 1) := by decide +kernel
theorem dX6_init_20 : decode cX6_init 20 = .ok (.invokespecial 18, 3) := by decide +kernel
theorem dX6_init_23 : decode cX6_init 23 = .ok (.putfield 19, 3) := by decide +kernel
theorem dX6_init_26 : decode cX6_init 26 = .ok (.aload_n 0, 1) := by decide +kernel
theorem dX6_init_27 : decode cX6_init 27 = .ok (.iconst 2, 1) := by decide +kernel
theorem dX6_init_28 : decode cX6_init 28 = .ok (.anewarray 16, 3) := by decide +kernel
theorem dX6_init_31 : decode cX6_init 31 = .ok (.putfield 23, 3) := by decide +kernel
theorem dX6_init_34 : decode cX6_init 34 = .ok (.iconst 0, 1) := by decide +kernel
theorem dX6_init_35 : decode cX6_init 35 = .ok (.istore_n 1, 1) := by decide +kernel
theorem dX6_init_36 : decode cX6_init 36 = .ok (.iload_n 1, 1) := by decide +kernel
theorem dX6_init_37 : decode cX6_init 37 = .ok (.iconst 2, 1) := by decide +kernel
theorem dX6_init_38 : decode cX6_init 38 = .ok (.if_icmp .ge 22, 3) := by decide +kernel
theorem dX6_init_41 : decode cX6_init 41 = .ok (.aload_n 0, 1) := by decide +kernel
theorem dX6_init_42 : decode cX6_init 42 = .ok (.getfield 23, 3) := by decide +kernel
theorem dX6_init_45 : decode cX6_init 45 = .ok (.iload_n 1, 1) := by decide +kernel
theorem dX6_init_46 : decode cX6_init 46 = .ok (.new 16, 3) := by decide +kernel
theorem dX6_init_49 : decode cX6_init 49 = .ok (.dup, 1) := by decide +kernel
theorem dX6_init_50 : decode cX6_init 50 = .ok (.invokespecial 18, 3) := by decide +kernel
theorem dX6_init_53 : decode cX6_init 53 = .ok (.aastore, 1) := by decide +kernel
theorem dX6_init_54 : decode cX6_init 54 = .ok (.iinc 1 1, 3) := by decide +kernel
theorem dX6_init_57 : decode cX6_init 57 = .ok (.goto (-21), 3) := by decide +kernel
theorem dX6_init_60 : decode cX6_init 60 = .ok (.aload_n 0, 1) := by decide +kernel
theorem dX6_init_61 : decode cX6_init 61 = .ok (.iconst 2, 1) := by decide +kernel
theorem dX6_init_62 : decode cX6_init 62 = .ok (.newarray .boolean, 2) := by decide +kernel
theorem dX6_init_64 : decode cX6_init 64 = .ok (.putfield 27, 3) := by decide +kernel
theorem dX6_init_67 : decode cX6_init 67 = .ok (.aload_n 0, 1) := by decide +kernel
theorem dX6_init_68 : decode cX6_init 68 = .ok (.new 31, 3) := by decide +kernel
theorem dX6_init_71 : decode cX6_init 71 = .ok (.dup, 1) := by decide +kernel
theorem dX6_init_72 : decode cX6_init 72 = .ok (.invokespecial 33, 3) := by decide +kernel
theorem dX6_init_75 : decode cX6_init 75 = .ok (.putfield 34, 3) := by decide +kernel
theorem dX6_init_78 : decode cX6_init 78 = .ok (.aload_n 0, 1) := by decide +kernel
theorem dX6_init_79 : decode cX6_init 79 = .ok (.new 38, 3) := by decide +kernel
theorem dX6_init_82 : decode cX6_init 82 = .ok (.dup, 1) := by decide +kernel
theorem dX6_init_83 : decode cX6_init 83 = .ok (.invokespecial 40, 3) := by decide +kernel
theorem dX6_init_86 : decode cX6_init 86 = .ok (.putfield 41, 3) := by decide +kernel
theorem dX6_init_89 : decode cX6_init 89 = .ok (.aload_n 0, 1) := by decide +kernel
theorem dX6_init_90 : decode cX6_init 90 = .ok (.iconst 4, 1) := by decide +kernel
theorem dX6_init_91 : decode cX6_init 91 = .ok (.anewarray 45, 3) := by decide +kernel
theorem dX6_init_94 : decode cX6_init 94 = .ok (.putfield 47, 3) := by decide +kernel
theorem dX6_init_97 : decode cX6_init 97 = .ok (.iconst 0, 1) := by decide +kernel
theorem dX6_init_98 : decode cX6_init 98 = .ok (.istore_n 1, 1) := by decide +kernel
theorem dX6_init_99 : decode cX6_init 99 = .ok (.iload_n 1, 1) := by decide +kernel
theorem dX6_init_100 : decode cX6_init 100 = .ok (.iconst 4, 1) := by decide +kernel
theorem dX6_init_101 : decode cX6_init 101 = .ok (.if_icmp .ge 22, 3) := by decide +kernel
theorem dX6_init_104 : decode cX6_init 104 = .ok (.aload_n 0, 1) := by decide +kernel
theorem dX6_init_105 : decode cX6_init 105 = .ok (.getfield 47, 3) := by decide +kernel
theorem dX6_init_108 : decode cX6_init 108 = .ok (.iload_n 1, 1) := by decide +kernel
theorem dX6_init_109 : decode cX6_init 109 = .ok (.new 45, 3) := by decide +kernel
theorem dX6_init_112 : decode cX6_init 112 = .ok (.dup, 1) := by decide +kernel
theorem dX6_init_113 : decode cX6_init 113 = .ok (.invokespecial 51, 3) := by decide +kernel
theorem dX6_init_116 : decode cX6_init 116 = .ok (.aastore, 1) := by decide +kernel
theorem dX6_init_117 : decode cX6_init 117 = .ok (.iinc 1 1, 3) := by decide +kernel
theorem dX6_init_120 : decode cX6_init 120 = .ok (.goto (-21), 3) := by decide +kernel
theorem dX6_init_123 : decode cX6_init 123 = .ok (.aload_n 0, 1) := by decide +kernel
theorem dX6_init_124 : decode cX6_init 124 = .ok (.iconst 0, 1) := by decide +kernel
theorem dX6_init_125 : decode cX6_init 125 = .ok (.putfield 52, 3) := by decide +kernel
theorem dX6_init_128 : decode cX6_init 128 = .ok (.aload_n 0, 1) := by decide +kernel
theorem dX6_init_129 : decode cX6_init 129 = .ok (.iconst 0, 1) := by decide +kernel
theorem dX6_init_130 : decode cX6_init 130 = .ok (.putfield 56, 3) := by decide +kernel
theorem dX6_init_133 : decode cX6_init 133 = .ok (.return_, 1) := by decide +kernel
theorem dX6_feed_0 : decode cX6_feed 0 = .ok (.iload_n 1, 1) := by decide +kernel
theorem dX6_feed_1 : decode cX6_feed 1 = .ok (.ifCond .lt 9, 3) := by decide +kernel
theorem dX6_feed_4 : decode cX6_feed 4 = .ok (.iload_n 1, 1) := by decide +kernel
theorem dX6_feed_5 : decode cX6_feed 5 = .ok (.bipush 127, 2) := by decide +kernel
theorem dX6_feed_7 : decode cX6_feed 7 = .ok (.if_icmp .le 5, 3) := by decide +kernel
theorem dX6_feed_10 : decode cX6_feed 10 = .ok (.iconst (-1), 1) := by decide +kernel
theorem dX6_feed_11 : decode cX6_feed 11 = .ok (.ireturn, 1) := by decide +kernel
theorem dX6_feed_12 : decode cX6_feed 12 = .ok (.aload_n 0, 1) := by decide +kernel
theorem dX6_feed_13 : decode cX6_feed 13 = .ok (.getfield 10, 3) := by decide +kernel
theorem dX6_feed_16 : decode cX6_feed 16 = .ok (.getfield 59, 3) := by decide +kernel
theorem dX6_feed_19 : decode cX6_feed 19 = .ok (.sipush 160, 3) := by decide +kernel
theorem dX6_feed_22 : decode cX6_feed 22 = .ok (.if_icmp .lt 6, 3) := by decide +kernel
theorem dX6_feed_25 : decode cX6_feed 25 = .ok (.bipush (-3), 2) := by decide +kernel
theorem dX6_feed_27 : decode cX6_feed 27 = .ok (.ireturn, 1) := by decide +kernel
theorem dX6_feed_28 : decode cX6_feed 28 = .ok (.aload_n 0, 1) := by decide +kernel
theorem dX6_feed_29 : decode cX6_feed 29 = .ok (.getfield 10, 3) := by decide +kernel
theorem dX6_feed_32 : decode cX6_feed 32 = .ok (.getfield 62, 3) := by decide +kernel
theorem dX6_feed_35 : decode cX6_feed 35 = .ok (.aload_n 0, 1) := by decide +kernel
theorem dX6_feed_36 : decode cX6_feed 36 = .ok (.getfield 10, 3) := by decide +kernel
theorem dX6_feed_39 : decode cX6_feed 39 = .ok (.getfield 59, 3) := by decide +kernel
theorem dX6_feed_42 : decode cX6_feed 42 = .ok (.iload_n 1, 1) := by decide +kernel
theorem dX6_feed_43 : decode cX6_feed 43 = .ok (.iastore, 1) := by decide +kernel
theorem dX6_feed_44 : decode cX6_feed 44 = .ok (.aload_n 0, 1) := by decide +kernel
theorem dX6_feed_45 : decode cX6_feed 45 = .ok (.getfield 10, 3) := by decide +kernel
theorem dX6_feed_48 : decode cX6_feed 48 = .ok (.dup, 1) := by decide +kernel
theorem dX6_feed_49 : decode cX6_feed 49 = .ok (.getfield 59, 3) := by decide +kernel
theorem dX6_feed_52 : decode cX6_feed 52 = .ok (.iconst 1, 1) := by decide +kernel
theorem dX6_feed_53 : decode cX6_feed 53 = .ok (.iadd, 1) := by decide +kernel
theorem dX6_feed_54 : decode cX6_feed 54 = .ok (.putfield 59, 3) := by decide +kernel
theorem dX6_feed_57 : decode cX6_feed 57 = .ok (.aload_n 0, 1) := by decide +kernel
theorem dX6_feed_58 : decode cX6_feed 58 = .ok (.getfield 10, 3) := by decide +kernel
theorem dX6_feed_61 : decode cX6_feed 61 = .ok (.getfield 59, 3) := by decide +kernel
theorem dX6_feed_64 : decode cX6_feed 64 = .ok (.ireturn, 1) := by decide +kernel
theorem dX6_end_0 : decode cX6_end 0 = .ok (.iload_n 1, 1) := by decide +kernel
theorem dX6_end_1 : decode cX6_end 1 = .ok (.ifCond .lt 14, 3) := by decide +kernel
theorem dX6_end_4 : decode cX6_end 4 = .ok (.iload_n 1, 1) := by decide +kernel
theorem dX6_end_5 : decode cX6_end 5 = .ok (.aload_n 0, 1) := by decide +kernel
theorem dX6_end_6 : decode cX6_end 6 = .ok (.getfield 10, 3) := by decide +kernel
theorem dX6_end_9 : decode cX6_end 9 = .ok (.getfield 59, 3) := by decide +kernel
theorem dX6_end_12 : decode cX6_end 12 = .ok (.if_icmp .le 5, 3) := by decide +kernel
theorem dX6_end_15 : decode cX6_end 15 = .ok (.iconst (-1), 1) := by decide +kernel
theorem dX6_end_16 : decode cX6_end 16 = .ok (.ireturn, 1) := by decide +kernel
theorem dX6_end_17 : decode cX6_end 17 = .ok (.aload_n 0, 1) := by decide +kernel
theorem dX6_end_18 : decode cX6_end 18 = .ok (.getfield 10, 3) := by decide +kernel
theorem dX6_end_21 : decode cX6_end 21 = .ok (.getfield 59, 3) := by decide +kernel
theorem dX6_end_24 : decode cX6_end 24 = .ok (.istore_n 2, 1) := by decide +kernel
theorem dX6_end_25 : decode cX6_end 25 = .ok (.aload_n 0, 1) := by decide +kernel
theorem dX6_end_26 : decode cX6_end 26 = .ok (.getfield 10, 3) := by decide +kernel
theorem dX6_end_29 : decode cX6_end 29 = .ok (.iload_n 1, 1) := by decide +kernel
theorem dX6_end_30 : decode cX6_end 30 = .ok (.putfield 59, 3) := by decide +kernel
theorem dX6_end_33 : decode cX6_end 33 = .ok (.iload_n 2, 1) := by decide +kernel
theorem dX6_end_34 : decode cX6_end 34 = .ok (.ireturn, 1) := by decide +kernel
theorem dX6_text_0 : decode cX6_text 0 = .ok (.aload_n 0, 1) := by decide +kernel
theorem dX6_text_1 : decode cX6_text 1 = .ok (.getfield 10, 3) := by decide +kernel
theorem dX6_text_4 : decode cX6_text 4 = .ok (.invokevirtual 66, 3) := by decide +kernel
theorem dX6_text_7 : decode cX6_text 7 = .ok (.istore_n 1, 1) := by decide +kernel
theorem dX6_text_8 : decode cX6_text 8 = .ok (.aload_n 0, 1) := by decide +kernel
theorem dX6_text_9 : decode cX6_text 9 = .ok (.aload_n 0, 1) := by decide +kernel
theorem dX6_text_10 : decode cX6_text 10 = .ok (.getfield 10, 3) := by decide +kernel
theorem dX6_text_13 : decode cX6_text 13 = .ok (.getfield 70, 3) := by decide +kernel
theorem dX6_text_16 : decode cX6_text 16 = .ok (.putfield 52, 3) := by decide +kernel
theorem dX6_text_19 : decode cX6_text 19 = .ok (.aload_n 0, 1) := by decide +kernel
theorem dX6_text_20 : decode cX6_text 20 = .ok (.getfield 10, 3) := by decide +kernel
theorem dX6_text_23 : decode cX6_text 23 = .ok (.iconst 0, 1) := by decide +kernel
theorem dX6_text_24 : decode cX6_text 24 = .ok (.putfield 59, 3) := by decide +kernel
theorem dX6_text_27 : decode cX6_text 27 = .ok (.aload_n 0, 1) := by decide +kernel
theorem dX6_text_28 : decode cX6_text 28 = .ok (.getfield 52, 3) := by decide +kernel
theorem dX6_text_31 : decode cX6_text 31 = .ok (.ifCond .eq 14, 3) := by decide +kernel
theorem dX6_text_34 : decode cX6_text 34 = .ok (.bipush (-10), 2) := by decide +kernel
theorem dX6_text_36 : decode cX6_text 36 = .ok (.aload_n 0, 1) := by decide +kernel
theorem dX6_text_37 : decode cX6_text 37 = .ok (.getfield 10, 3) := by decide +kernel
theorem dX6_text_40 : decode cX6_text 40 = .ok (.getfield 73, 3) := by decide +kernel
theorem dX6_text_43 : decode cX6_text 43 = .ok (.isub, 1) := by decide +kernel
theorem dX6_text_44 : decode cX6_text 44 = .ok (.ireturn, 1) := by decide +kernel
theorem dX6_text_45 : decode cX6_text 45 = .ok (.aload_n 0, 1) := by decide +kernel
theorem dX6_text_46 : decode cX6_text 46 = .ok (.getfield 19, 3) := by decide +kernel
theorem dX6_text_49 : decode cX6_text 49 = .ok (.aload_n 0, 1) := by decide +kernel
theorem dX6_text_50 : decode cX6_text 50 = .ok (.getfield 10, 3) := by decide +kernel
theorem dX6_text_53 : decode cX6_text 53 = .ok (.getfield 76, 3) := by decide +kernel
theorem dX6_text_56 : decode cX6_text 56 = .ok (.invokevirtual 79, 3) := by decide +kernel
theorem dX6_text_59 : decode cX6_text 59 = .ok (.iconst 0, 1) := by decide +kernel
theorem dX6_text_60 : decode cX6_text 60 = .ok (.istore_n 2, 1) := by decide +kernel
theorem dX6_text_61 : decode cX6_text 61 = .ok (.iload_n 2, 1) := by decide +kernel
theorem dX6_text_62 : decode cX6_text 62 = .ok (.iconst 2, 1) := by decide +kernel
theorem dX6_text_63 : decode cX6_text 63 = .ok (.if_icmp .ge 16, 3) := by decide +kernel
theorem dX6_text_66 : decode cX6_text 66 = .ok (.aload_n 0, 1) := by decide +kernel
theorem dX6_text_67 : decode cX6_text 67 = .ok (.getfield 27, 3) := by decide +kernel
theorem dX6_text_70 : decode cX6_text 70 = .ok (.iload_n 2, 1) := by decide +kernel
theorem dX6_text_71 : decode cX6_text 71 = .ok (.iconst 0, 1) := by decide +kernel
theorem dX6_text_72 : decode cX6_text 72 = .ok (.bastore, 1) := by decide +kernel
theorem dX6_text_73 : decode cX6_text 73 = .ok (.iinc 2 1, 3) := by decide +kernel
theorem dX6_text_76 : decode cX6_text 76 = .ok (.goto (-15), 3) := by decide +kernel
theorem dX6_text_79 : decode cX6_text 79 = .ok (.iload_n 1, 1) := by decide +kernel
theorem dX6_text_80 : decode cX6_text 80 = .ok (.ireturn, 1) := by decide +kernel
theorem dX6_fault_0 : decode cX6_fault 0 = .ok (.aload_n 0, 1) := by decide +kernel
theorem dX6_fault_1 : decode cX6_fault 1 = .ok (.getfield 52, 3) := by decide +kernel
theorem dX6_fault_4 : decode cX6_fault 4 = .ok (.ireturn, 1) := by decide +kernel
theorem dX6_rule_0 : decode cX6_rule 0 = .ok (.iload_n 1, 1) := by decide +kernel
theorem dX6_rule_1 : decode cX6_rule 1 = .ok (.tableswitch 84 0 4 #[35, 46, 54, 62, 73], 35) := by decide +kernel
theorem dX6_rule_36 : decode cX6_rule 36 = .ok (.aload_n 0, 1) := by decide +kernel
theorem dX6_rule_37 : decode cX6_rule 37 = .ok (.getfield 19, 3) := by decide +kernel
theorem dX6_rule_40 : decode cX6_rule 40 = .ok (.getfield 83, 3) := by decide +kernel
theorem dX6_rule_43 : decode cX6_rule 43 = .ok (.getfield 87, 3) := by decide +kernel
theorem dX6_rule_46 : decode cX6_rule 46 = .ok (.ireturn, 1) := by decide +kernel
theorem dX6_rule_47 : decode cX6_rule 47 = .ok (.aload_n 0, 1) := by decide +kernel
theorem dX6_rule_48 : decode cX6_rule 48 = .ok (.getfield 19, 3) := by decide +kernel
theorem dX6_rule_51 : decode cX6_rule 51 = .ok (.invokevirtual 92, 3) := by decide +kernel
theorem dX6_rule_54 : decode cX6_rule 54 = .ok (.ireturn, 1) := by decide +kernel
theorem dX6_rule_55 : decode cX6_rule 55 = .ok (.aload_n 0, 1) := by decide +kernel
theorem dX6_rule_56 : decode cX6_rule 56 = .ok (.getfield 19, 3) := by decide +kernel
theorem dX6_rule_59 : decode cX6_rule 59 = .ok (.getfield 95, 3) := by decide +kernel
theorem dX6_rule_62 : decode cX6_rule 62 = .ok (.ireturn, 1) := by decide +kernel
theorem dX6_rule_63 : decode cX6_rule 63 = .ok (.aload_n 0, 1) := by decide +kernel
theorem dX6_rule_64 : decode cX6_rule 64 = .ok (.getfield 19, 3) := by decide +kernel
theorem dX6_rule_67 : decode cX6_rule 67 = .ok (.getfield 83, 3) := by decide +kernel
theorem dX6_rule_70 : decode cX6_rule 70 = .ok (.getfield 98, 3) := by decide +kernel
theorem dX6_rule_73 : decode cX6_rule 73 = .ok (.ireturn, 1) := by decide +kernel
theorem dX6_rule_74 : decode cX6_rule 74 = .ok (.aload_n 0, 1) := by decide +kernel
theorem dX6_rule_75 : decode cX6_rule 75 = .ok (.getfield 19, 3) := by decide +kernel
theorem dX6_rule_78 : decode cX6_rule 78 = .ok (.getfield 83, 3) := by decide +kernel
theorem dX6_rule_81 : decode cX6_rule 81 = .ok (.invokevirtual 101, 3) := by decide +kernel
theorem dX6_rule_84 : decode cX6_rule 84 = .ok (.ireturn, 1) := by decide +kernel
theorem dX6_rule_85 : decode cX6_rule 85 = .ok (.iconst (-1), 1) := by decide +kernel
theorem dX6_rule_86 : decode cX6_rule 86 = .ok (.ireturn, 1) := by decide +kernel
theorem dX6_man_0 : decode cX6_man 0 = .ok (.aload_n 0, 1) := by decide +kernel
theorem dX6_man_1 : decode cX6_man 1 = .ok (.iload_n 1, 1) := by decide +kernel
theorem dX6_man_2 : decode cX6_man 2 = .ok (.invokevirtual 104, 3) := by decide +kernel
theorem dX6_man_5 : decode cX6_man 5 = .ok (.ifCond .eq 5, 3) := by decide +kernel
theorem dX6_man_8 : decode cX6_man 8 = .ok (.iconst (-1), 1) := by decide +kernel
theorem dX6_man_9 : decode cX6_man 9 = .ok (.ireturn, 1) := by decide +kernel
theorem dX6_man_10 : decode cX6_man 10 = .ok (.aload_n 0, 1) := by decide +kernel
theorem dX6_man_11 : decode cX6_man 11 = .ok (.getfield 19, 3) := by decide +kernel
theorem dX6_man_14 : decode cX6_man 14 = .ok (.getfield 83, 3) := by decide +kernel
theorem dX6_man_17 : decode cX6_man 17 = .ok (.astore_n 3, 1) := by decide +kernel
theorem dX6_man_18 : decode cX6_man 18 = .ok (.iload_n 2, 1) := by decide +kernel
theorem dX6_man_19 : decode cX6_man 19 = .ok (.tableswitch 94 0 6 #[41, 48, 55, 62, 69, 77, 88], 41) := by decide +kernel
theorem dX6_man_60 : decode cX6_man 60 = .ok (.aload_n 3, 1) := by decide +kernel
theorem dX6_man_61 : decode cX6_man 61 = .ok (.getfield 108, 3) := by decide +kernel
theorem dX6_man_64 : decode cX6_man 64 = .ok (.iload_n 1, 1) := by decide +kernel
theorem dX6_man_65 : decode cX6_man 65 = .ok (.iaload, 1) := by decide +kernel
theorem dX6_man_66 : decode cX6_man 66 = .ok (.ireturn, 1) := by decide +kernel
theorem dX6_man_67 : decode cX6_man 67 = .ok (.aload_n 3, 1) := by decide +kernel
theorem dX6_man_68 : decode cX6_man 68 = .ok (.getfield 111, 3) := by decide +kernel
theorem dX6_man_71 : decode cX6_man 71 = .ok (.iload_n 1, 1) := by decide +kernel
theorem dX6_man_72 : decode cX6_man 72 = .ok (.iaload, 1) := by decide +kernel
theorem dX6_man_73 : decode cX6_man 73 = .ok (.ireturn, 1) := by decide +kernel
theorem dX6_man_74 : decode cX6_man 74 = .ok (.aload_n 3, 1) := by decide +kernel
theorem dX6_man_75 : decode cX6_man 75 = .ok (.getfield 114, 3) := by decide +kernel
theorem dX6_man_78 : decode cX6_man 78 = .ok (.iload_n 1, 1) := by decide +kernel
theorem dX6_man_79 : decode cX6_man 79 = .ok (.iaload, 1) := by decide +kernel
theorem dX6_man_80 : decode cX6_man 80 = .ok (.ireturn, 1) := by decide +kernel
theorem dX6_man_81 : decode cX6_man 81 = .ok (.aload_n 3, 1) := by decide +kernel
theorem dX6_man_82 : decode cX6_man 82 = .ok (.getfield 117, 3) := by decide +kernel
theorem dX6_man_85 : decode cX6_man 85 = .ok (.iload_n 1, 1) := by decide +kernel
theorem dX6_man_86 : decode cX6_man 86 = .ok (.iaload, 1) := by decide +kernel
theorem dX6_man_87 : decode cX6_man 87 = .ok (.ireturn, 1) := by decide +kernel
theorem dX6_man_88 : decode cX6_man 88 = .ok (.aload_n 3, 1) := by decide +kernel
theorem dX6_man_89 : decode cX6_man 89 = .ok (.iload_n 1, 1) := by decide +kernel
theorem dX6_man_90 : decode cX6_man 90 = .ok (.invokevirtual 120, 3) := by decide +kernel
theorem dX6_man_93 : decode cX6_man 93 = .ok (.iconst 2, 1) := by decide +kernel
theorem dX6_man_94 : decode cX6_man 94 = .ok (.iadd, 1) := by decide +kernel
theorem dX6_man_95 : decode cX6_man 95 = .ok (.ireturn, 1) := by decide +kernel
theorem dX6_man_96 : decode cX6_man 96 = .ok (.aload_n 3, 1) := by decide +kernel
theorem dX6_man_97 : decode cX6_man 97 = .ok (.invokevirtual 124, 3) := by decide +kernel
theorem dX6_man_100 : decode cX6_man 100 = .ok (.aload_n 3, 1) := by decide +kernel
theorem dX6_man_101 : decode cX6_man 101 = .ok (.getfield 127, 3) := by decide +kernel
theorem dX6_man_104 : decode cX6_man 104 = .ok (.iload_n 1, 1) := by decide +kernel
theorem dX6_man_105 : decode cX6_man 105 = .ok (.iaload, 1) := by decide +kernel
theorem dX6_man_106 : decode cX6_man 106 = .ok (.ireturn, 1) := by decide +kernel
theorem dX6_man_107 : decode cX6_man 107 = .ok (.aload_n 3, 1) := by decide +kernel
theorem dX6_man_108 : decode cX6_man 108 = .ok (.iload_n 1, 1) := by decide +kernel
theorem dX6_man_109 : decode cX6_man 109 = .ok (.invokevirtual 130, 3) := by decide +kernel
theorem dX6_man_112 : decode cX6_man 112 = .ok (.ireturn, 1) := by decide +kernel
theorem dX6_man_113 : decode cX6_man 113 = .ok (.iconst (-1), 1) := by decide +kernel
theorem dX6_man_114 : decode cX6_man 114 = .ok (.ireturn, 1) := by decide +kernel
theorem dX6_woman_0 : decode cX6_woman 0 = .ok (.aload_n 0, 1) := by decide +kernel
theorem dX6_woman_1 : decode cX6_woman 1 = .ok (.iload_n 1, 1) := by decide +kernel
theorem dX6_woman_2 : decode cX6_woman 2 = .ok (.invokevirtual 104, 3) := by decide +kernel
theorem dX6_woman_5 : decode cX6_woman 5 = .ok (.ifCond .eq 7, 3) := by decide +kernel
theorem dX6_woman_8 : decode cX6_woman 8 = .ok (.iconst (-1), 1) := by decide +kernel
theorem dX6_woman_9 : decode cX6_woman 9 = .ok (.goto 15, 3) := by decide +kernel
theorem dX6_woman_12 : decode cX6_woman 12 = .ok (.aload_n 0, 1) := by decide +kernel
theorem dX6_woman_13 : decode cX6_woman 13 = .ok (.getfield 19, 3) := by decide +kernel
theorem dX6_woman_16 : decode cX6_woman 16 = .ok (.getfield 83, 3) := by decide +kernel
theorem dX6_woman_19 : decode cX6_woman 19 = .ok (.getfield 133, 3) := by decide +kernel
theorem dX6_woman_22 : decode cX6_woman 22 = .ok (.iload_n 1, 1) := by decide +kernel
theorem dX6_woman_23 : decode cX6_woman 23 = .ok (.iaload, 1) := by decide +kernel
theorem dX6_woman_24 : decode cX6_woman 24 = .ok (.ireturn, 1) := by decide +kernel
theorem dX6_at_0 : decode cX6_at 0 = .ok (.aload_n 0, 1) := by decide +kernel
theorem dX6_at_1 : decode cX6_at 1 = .ok (.iload_n 1, 1) := by decide +kernel
theorem dX6_at_2 : decode cX6_at 2 = .ok (.invokevirtual 104, 3) := by decide +kernel
theorem dX6_at_5 : decode cX6_at 5 = .ok (.ifCond .eq 5, 3) := by decide +kernel
theorem dX6_at_8 : decode cX6_at 8 = .ok (.iconst (-1), 1) := by decide +kernel
theorem dX6_at_9 : decode cX6_at 9 = .ok (.ireturn, 1) := by decide +kernel
theorem dX6_at_10 : decode cX6_at 10 = .ok (.aload_n 0, 1) := by decide +kernel
theorem dX6_at_11 : decode cX6_at 11 = .ok (.getfield 19, 3) := by decide +kernel
theorem dX6_at_14 : decode cX6_at 14 = .ok (.getfield 83, 3) := by decide +kernel
theorem dX6_at_17 : decode cX6_at 17 = .ok (.invokevirtual 124, 3) := by decide +kernel
theorem dX6_at_20 : decode cX6_at 20 = .ok (.aload_n 0, 1) := by decide +kernel
theorem dX6_at_21 : decode cX6_at 21 = .ok (.getfield 19, 3) := by decide +kernel
theorem dX6_at_24 : decode cX6_at 24 = .ok (.getfield 83, 3) := by decide +kernel
theorem dX6_at_27 : decode cX6_at 27 = .ok (.getfield 136, 3) := by decide +kernel
theorem dX6_at_30 : decode cX6_at 30 = .ok (.iload_n 1, 1) := by decide +kernel
theorem dX6_at_31 : decode cX6_at 31 = .ok (.iaload, 1) := by decide +kernel
theorem dX6_at_32 : decode cX6_at 32 = .ok (.ireturn, 1) := by decide +kernel
theorem dX6_figure_0 : decode cX6_figure 0 = .ok (.iload_n 1, 1) := by decide +kernel
theorem dX6_figure_1 : decode cX6_figure 1 = .ok (.ifCond .lt 14, 3) := by decide +kernel
theorem dX6_figure_4 : decode cX6_figure 4 = .ok (.iload_n 1, 1) := by decide +kernel
theorem dX6_figure_5 : decode cX6_figure 5 = .ok (.aload_n 0, 1) := by decide +kernel
theorem dX6_figure_6 : decode cX6_figure 6 = .ok (.getfield 19, 3) := by decide +kernel
theorem dX6_figure_9 : decode cX6_figure 9 = .ok (.getfield 95, 3) := by decide +kernel
theorem dX6_figure_12 : decode cX6_figure 12 = .ok (.if_icmp .lt 7, 3) := by decide +kernel
theorem dX6_figure_15 : decode cX6_figure 15 = .ok (.iconst (-1), 1) := by decide +kernel
theorem dX6_figure_16 : decode cX6_figure 16 = .ok (.goto 12, 3) := by decide +kernel
theorem dX6_figure_19 : decode cX6_figure 19 = .ok (.aload_n 0, 1) := by decide +kernel
theorem dX6_figure_20 : decode cX6_figure 20 = .ok (.getfield 19, 3) := by decide +kernel
theorem dX6_figure_23 : decode cX6_figure 23 = .ok (.getfield 139, 3) := by decide +kernel
theorem dX6_figure_26 : decode cX6_figure 26 = .ok (.iload_n 1, 1) := by decide +kernel
theorem dX6_figure_27 : decode cX6_figure 27 = .ok (.iaload, 1) := by decide +kernel
theorem dX6_figure_28 : decode cX6_figure 28 = .ok (.ireturn, 1) := by decide +kernel
theorem dX6_cousins_0 : decode cX6_cousins 0 = .ok (.aload_n 0, 1) := by decide +kernel
theorem dX6_cousins_1 : decode cX6_cousins 1 = .ok (.iload_n 1, 1) := by decide +kernel
theorem dX6_cousins_2 : decode cX6_cousins 2 = .ok (.invokevirtual 104, 3) := by decide +kernel
theorem dX6_cousins_5 : decode cX6_cousins 5 = .ok (.ifCond .eq 7, 3) := by decide +kernel
theorem dX6_cousins_8 : decode cX6_cousins 8 = .ok (.iconst (-1), 1) := by decide +kernel
theorem dX6_cousins_9 : decode cX6_cousins 9 = .ok (.goto 12, 3) := by decide +kernel
theorem dX6_cousins_12 : decode cX6_cousins 12 = .ok (.aload_n 0, 1) := by decide +kernel
theorem dX6_cousins_13 : decode cX6_cousins 13 = .ok (.getfield 19, 3) := by decide +kernel
theorem dX6_cousins_16 : decode cX6_cousins 16 = .ok (.getfield 142, 3) := by decide +kernel
theorem dX6_cousins_19 : decode cX6_cousins 19 = .ok (.iload_n 1, 1) := by decide +kernel
theorem dX6_cousins_20 : decode cX6_cousins 20 = .ok (.iaload, 1) := by decide +kernel
theorem dX6_cousins_21 : decode cX6_cousins 21 = .ok (.ireturn, 1) := by decide +kernel
theorem dX6_alter_0 : decode cX6_alter 0 = .ok (.aload_n 0, 1) := by decide +kernel
theorem dX6_alter_1 : decode cX6_alter 1 = .ok (.iload_n 1, 1) := by decide +kernel
theorem dX6_alter_2 : decode cX6_alter 2 = .ok (.invokevirtual 104, 3) := by decide +kernel
theorem dX6_alter_5 : decode cX6_alter 5 = .ok (.ifCond .ne 12, 3) := by decide +kernel
theorem dX6_alter_8 : decode cX6_alter 8 = .ok (.iload_n 2, 1) := by decide +kernel
theorem dX6_alter_9 : decode cX6_alter 9 = .ok (.ifCond .lt 8, 3) := by decide +kernel
theorem dX6_alter_12 : decode cX6_alter 12 = .ok (.iload_n 2, 1) := by decide +kernel
theorem dX6_alter_13 : decode cX6_alter 13 = .ok (.iconst 3, 1) := by decide +kernel
theorem dX6_alter_14 : decode cX6_alter 14 = .ok (.if_icmp .le 5, 3) := by decide +kernel
theorem dX6_alter_17 : decode cX6_alter 17 = .ok (.iconst (-1), 1) := by decide +kernel
theorem dX6_alter_18 : decode cX6_alter 18 = .ok (.ireturn, 1) := by decide +kernel
theorem dX6_alter_19 : decode cX6_alter 19 = .ok (.iload_n 2, 1) := by decide +kernel
theorem dX6_alter_20 : decode cX6_alter 20 = .ok (.ifCond .ne 7, 3) := by decide +kernel
theorem dX6_alter_23 : decode cX6_alter 23 = .ok (.iconst 3, 1) := by decide +kernel
theorem dX6_alter_24 : decode cX6_alter 24 = .ok (.goto 5, 3) := by decide +kernel
theorem dX6_alter_27 : decode cX6_alter 27 = .ok (.bipush 9, 2) := by decide +kernel
theorem dX6_alter_29 : decode cX6_alter 29 = .ok (.istore 4, 2) := by decide +kernel
theorem dX6_alter_31 : decode cX6_alter 31 = .ok (.iload_n 3, 1) := by decide +kernel
theorem dX6_alter_32 : decode cX6_alter 32 = .ok (.ifCond .lt 9, 3) := by decide +kernel
theorem dX6_alter_35 : decode cX6_alter 35 = .ok (.iload_n 3, 1) := by decide +kernel
theorem dX6_alter_36 : decode cX6_alter 36 = .ok (.iload 4, 2) := by decide +kernel
theorem dX6_alter_38 : decode cX6_alter 38 = .ok (.if_icmp .le 5, 3) := by decide +kernel
theorem dX6_alter_41 : decode cX6_alter 41 = .ok (.iconst (-1), 1) := by decide +kernel
theorem dX6_alter_42 : decode cX6_alter 42 = .ok (.ireturn, 1) := by decide +kernel
theorem dX6_alter_43 : decode cX6_alter 43 = .ok (.aload_n 0, 1) := by decide +kernel
theorem dX6_alter_44 : decode cX6_alter 44 = .ok (.getfield 19, 3) := by decide +kernel
theorem dX6_alter_47 : decode cX6_alter 47 = .ok (.getfield 83, 3) := by decide +kernel
theorem dX6_alter_50 : decode cX6_alter 50 = .ok (.iload_n 2, 1) := by decide +kernel
theorem dX6_alter_51 : decode cX6_alter 51 = .ok (.invokevirtual 145, 3) := by decide +kernel
theorem dX6_alter_54 : decode cX6_alter 54 = .ok (.astore 5, 2) := by decide +kernel
theorem dX6_alter_56 : decode cX6_alter 56 = .ok (.aload 5, 2) := by decide +kernel
theorem dX6_alter_58 : decode cX6_alter 58 = .ok (.iload_n 1, 1) := by decide +kernel
theorem dX6_alter_59 : decode cX6_alter 59 = .ok (.iaload, 1) := by decide +kernel
theorem dX6_alter_60 : decode cX6_alter 60 = .ok (.istore 6, 2) := by decide +kernel
theorem dX6_alter_62 : decode cX6_alter 62 = .ok (.aload 5, 2) := by decide +kernel
theorem dX6_alter_64 : decode cX6_alter 64 = .ok (.iload_n 1, 1) := by decide +kernel
theorem dX6_alter_65 : decode cX6_alter 65 = .ok (.iload_n 3, 1) := by decide +kernel
theorem dX6_alter_66 : decode cX6_alter 66 = .ok (.iastore, 1) := by decide +kernel
theorem dX6_alter_67 : decode cX6_alter 67 = .ok (.iload 6, 2) := by decide +kernel
theorem dX6_alter_69 : decode cX6_alter 69 = .ok (.ireturn, 1) := by decide +kernel
theorem dX6_swap_0 : decode cX6_swap 0 = .ok (.aload_n 0, 1) := by decide +kernel
theorem dX6_swap_1 : decode cX6_swap 1 = .ok (.iload_n 1, 1) := by decide +kernel
theorem dX6_swap_2 : decode cX6_swap 2 = .ok (.invokevirtual 104, 3) := by decide +kernel
theorem dX6_swap_5 : decode cX6_swap 5 = .ok (.ifCond .ne 16, 3) := by decide +kernel
theorem dX6_swap_8 : decode cX6_swap 8 = .ok (.aload_n 0, 1) := by decide +kernel
theorem dX6_swap_9 : decode cX6_swap 9 = .ok (.iload_n 2, 1) := by decide +kernel
theorem dX6_swap_10 : decode cX6_swap 10 = .ok (.invokevirtual 104, 3) := by decide +kernel
theorem dX6_swap_13 : decode cX6_swap 13 = .ok (.ifCond .ne 8, 3) := by decide +kernel
theorem dX6_swap_16 : decode cX6_swap 16 = .ok (.iload_n 1, 1) := by decide +kernel
theorem dX6_swap_17 : decode cX6_swap 17 = .ok (.iload_n 2, 1) := by decide +kernel
theorem dX6_swap_18 : decode cX6_swap 18 = .ok (.if_icmp .ne 5, 3) := by decide +kernel
theorem dX6_swap_21 : decode cX6_swap 21 = .ok (.iconst (-1), 1) := by decide +kernel
theorem dX6_swap_22 : decode cX6_swap 22 = .ok (.ireturn, 1) := by decide +kernel
theorem dX6_swap_23 : decode cX6_swap 23 = .ok (.aload_n 0, 1) := by decide +kernel
theorem dX6_swap_24 : decode cX6_swap 24 = .ok (.getfield 19, 3) := by decide +kernel
theorem dX6_swap_27 : decode cX6_swap 27 = .ok (.getfield 83, 3) := by decide +kernel
theorem dX6_swap_30 : decode cX6_swap 30 = .ok (.getfield 133, 3) := by decide +kernel
theorem dX6_swap_33 : decode cX6_swap 33 = .ok (.astore_n 3, 1) := by decide +kernel
theorem dX6_swap_34 : decode cX6_swap 34 = .ok (.aload_n 3, 1) := by decide +kernel
theorem dX6_swap_35 : decode cX6_swap 35 = .ok (.iload_n 1, 1) := by decide +kernel
theorem dX6_swap_36 : decode cX6_swap 36 = .ok (.iaload, 1) := by decide +kernel
theorem dX6_swap_37 : decode cX6_swap 37 = .ok (.istore 4, 2) := by decide +kernel
theorem dX6_swap_39 : decode cX6_swap 39 = .ok (.aload_n 3, 1) := by decide +kernel
theorem dX6_swap_40 : decode cX6_swap 40 = .ok (.iload_n 1, 1) := by decide +kernel
theorem dX6_swap_41 : decode cX6_swap 41 = .ok (.aload_n 3, 1) := by decide +kernel
theorem dX6_swap_42 : decode cX6_swap 42 = .ok (.iload_n 2, 1) := by decide +kernel
theorem dX6_swap_43 : decode cX6_swap 43 = .ok (.iaload, 1) := by decide +kernel
theorem dX6_swap_44 : decode cX6_swap 44 = .ok (.iastore, 1) := by decide +kernel
theorem dX6_swap_45 : decode cX6_swap 45 = .ok (.aload_n 3, 1) := by decide +kernel
theorem dX6_swap_46 : decode cX6_swap 46 = .ok (.iload_n 2, 1) := by decide +kernel
theorem dX6_swap_47 : decode cX6_swap 47 = .ok (.iload 4, 2) := by decide +kernel
theorem dX6_swap_49 : decode cX6_swap 49 = .ok (.iastore, 1) := by decide +kernel
theorem dX6_swap_50 : decode cX6_swap 50 = .ok (.aload_n 3, 1) := by decide +kernel
theorem dX6_swap_51 : decode cX6_swap 51 = .ok (.iload_n 1, 1) := by decide +kernel
theorem dX6_swap_52 : decode cX6_swap 52 = .ok (.iaload, 1) := by decide +kernel
theorem dX6_swap_53 : decode cX6_swap 53 = .ok (.ireturn, 1) := by decide +kernel
theorem dX6_kin_0 : decode cX6_kin 0 = .ok (.aload_n 0, 1) := by decide +kernel
theorem dX6_kin_1 : decode cX6_kin 1 = .ok (.iload_n 1, 1) := by decide +kernel
theorem dX6_kin_2 : decode cX6_kin 2 = .ok (.invokevirtual 104, 3) := by decide +kernel
theorem dX6_kin_5 : decode cX6_kin 5 = .ok (.ifCond .ne 11, 3) := by decide +kernel
theorem dX6_kin_8 : decode cX6_kin 8 = .ok (.aload_n 0, 1) := by decide +kernel
theorem dX6_kin_9 : decode cX6_kin 9 = .ok (.iload_n 2, 1) := by decide +kernel
theorem dX6_kin_10 : decode cX6_kin 10 = .ok (.invokevirtual 104, 3) := by decide +kernel
theorem dX6_kin_13 : decode cX6_kin 13 = .ok (.ifCond .eq 5, 3) := by decide +kernel
theorem dX6_kin_16 : decode cX6_kin 16 = .ok (.iconst (-1), 1) := by decide +kernel
theorem dX6_kin_17 : decode cX6_kin 17 = .ok (.ireturn, 1) := by decide +kernel
theorem dX6_kin_18 : decode cX6_kin 18 = .ok (.aload_n 0, 1) := by decide +kernel
theorem dX6_kin_19 : decode cX6_kin 19 = .ok (.getfield 19, 3) := by decide +kernel
theorem dX6_kin_22 : decode cX6_kin 22 = .ok (.iload_n 1, 1) := by decide +kernel
theorem dX6_kin_23 : decode cX6_kin 23 = .ok (.iload_n 2, 1) := by decide +kernel
theorem dX6_kin_24 : decode cX6_kin 24 = .ok (.invokevirtual 149, 3) := by decide +kernel
theorem dX6_kin_27 : decode cX6_kin 27 = .ok (.istore 4, 2) := by decide +kernel
theorem dX6_kin_29 : decode cX6_kin 29 = .ok (.iload_n 3, 1) := by decide +kernel
theorem dX6_kin_30 : decode cX6_kin 30 = .ok (.ifCond .eq 23, 3) := by decide +kernel
theorem dX6_kin_33 : decode cX6_kin 33 = .ok (.iload 4, 2) := by decide +kernel
theorem dX6_kin_35 : decode cX6_kin 35 = .ok (.ifCond .ne 18, 3) := by decide +kernel
theorem dX6_kin_38 : decode cX6_kin 38 = .ok (.aload_n 0, 1) := by decide +kernel
theorem dX6_kin_39 : decode cX6_kin 39 = .ok (.getfield 19, 3) := by decide +kernel
theorem dX6_kin_42 : decode cX6_kin 42 = .ok (.invokevirtual 92, 3) := by decide +kernel
theorem dX6_kin_45 : decode cX6_kin 45 = .ok (.bipush 6, 2) := by decide +kernel
theorem dX6_kin_47 : decode cX6_kin 47 = .ok (.if_icmp .lt 6, 3) := by decide +kernel
theorem dX6_kin_50 : decode cX6_kin 50 = .ok (.bipush (-3), 2) := by decide +kernel
theorem dX6_kin_52 : decode cX6_kin 52 = .ok (.ireturn, 1) := by decide +kernel
theorem dX6_kin_53 : decode cX6_kin 53 = .ok (.iload_n 3, 1) := by decide +kernel
theorem dX6_kin_54 : decode cX6_kin 54 = .ok (.iload 4, 2) := by decide +kernel
theorem dX6_kin_56 : decode cX6_kin 56 = .ok (.if_icmp .eq 18, 3) := by decide +kernel
theorem dX6_kin_59 : decode cX6_kin 59 = .ok (.aload_n 0, 1) := by decide +kernel
theorem dX6_kin_60 : decode cX6_kin 60 = .ok (.getfield 19, 3) := by decide +kernel
theorem dX6_kin_63 : decode cX6_kin 63 = .ok (.getfield 142, 3) := by decide +kernel
theorem dX6_kin_66 : decode cX6_kin 66 = .ok (.iload_n 1, 1) := by decide +kernel
theorem dX6_kin_67 : decode cX6_kin 67 = .ok (.dup2, 1) := by decide +kernel
theorem dX6_kin_68 : decode cX6_kin 68 = .ok (.iaload, 1) := by decide +kernel
theorem dX6_kin_69 : decode cX6_kin 69 = .ok (.iconst 1, 1) := by decide +kernel
theorem dX6_kin_70 : decode cX6_kin 70 = .ok (.iload_n 2, 1) := by decide +kernel
theorem dX6_kin_71 : decode cX6_kin 71 = .ok (.ishl, 1) := by decide +kernel
theorem dX6_kin_72 : decode cX6_kin 72 = .ok (.ixor, 1) := by decide +kernel
theorem dX6_kin_73 : decode cX6_kin 73 = .ok (.iastore, 1) := by decide +kernel
theorem dX6_kin_74 : decode cX6_kin 74 = .ok (.iload 4, 2) := by decide +kernel
theorem dX6_kin_76 : decode cX6_kin 76 = .ok (.ifCond .eq 7, 3) := by decide +kernel
theorem dX6_kin_79 : decode cX6_kin 79 = .ok (.iconst 1, 1) := by decide +kernel
theorem dX6_kin_80 : decode cX6_kin 80 = .ok (.goto 4, 3) := by decide +kernel
theorem dX6_kin_83 : decode cX6_kin 83 = .ok (.iconst 0, 1) := by decide +kernel
theorem dX6_kin_84 : decode cX6_kin 84 = .ok (.ireturn, 1) := by decide +kernel
