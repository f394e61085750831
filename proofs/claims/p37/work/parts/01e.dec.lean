theorem dX7_looked_0 : decode cX7_looked 0 = .ok (.aload_n 0, 1) := by decide +kernel
theorem dX7_looked_1 : decode cX7_looked 1 = .ok (.getfield 76, 3) := by decide +kernel
theorem dX7_looked_4 : decode cX7_looked 4 = .ok (.ifCond .ne 21, 3) := by decide +kernel
theorem dX7_looked_7 : decode cX7_looked 7 = .ok (.aload_n 0, 1) := by decide +kernel
theorem dX7_looked_8 : decode cX7_looked 8 = .ok (.aload_n 0, 1) := by decide +kernel
theorem dX7_looked_9 : decode cX7_looked 9 = .ok (.getfield 100, 3) := by decide +kernel
theorem dX7_looked_12 : decode cX7_looked 12 = .ok (.iconst 2, 1) := by decide +kernel
theorem dX7_looked_13 : decode cX7_looked 13 = .ok (.if_icmp .ne 7, 3) := by decide +kernel
theorem dX7_looked_16 : decode cX7_looked 16 = .ok (.iconst 1, 1) := by decide +kernel
theorem dX7_looked_17 : decode cX7_looked 17 = .ok (.goto 4, 3) := by decide +kernel
theorem dX7_looked_20 : decode cX7_looked 20 = .ok (.iconst 0, 1) := by decide +kernel
theorem dX7_looked_21 : decode cX7_looked 21 = .ok (.iconst 2, 1) := by decide +kernel
theorem dX7_looked_22 : decode cX7_looked 22 = .ok (.invokevirtual 114, 3) := by decide +kernel
theorem dX7_looked_25 : decode cX7_looked 25 = .ok (.aload_n 0, 1) := by decide +kernel
theorem dX7_looked_26 : decode cX7_looked 26 = .ok (.getfield 76, 3) := by decide +kernel
theorem dX7_looked_29 : decode cX7_looked 29 = .ok (.ifCond .ne 20, 3) := by decide +kernel
theorem dX7_looked_32 : decode cX7_looked 32 = .ok (.aload_n 0, 1) := by decide +kernel
theorem dX7_looked_33 : decode cX7_looked 33 = .ok (.aload_n 0, 1) := by decide +kernel
theorem dX7_looked_34 : decode cX7_looked 34 = .ok (.getfield 111, 3) := by decide +kernel
theorem dX7_looked_37 : decode cX7_looked 37 = .ok (.i2l, 1) := by decide +kernel
theorem dX7_looked_38 : decode cX7_looked 38 = .ok (.iload_n 1, 1) := by decide +kernel
theorem dX7_looked_39 : decode cX7_looked 39 = .ok (.i2l, 1) := by decide +kernel
theorem dX7_looked_40 : decode cX7_looked 40 = .ok (.iload_n 2, 1) := by decide +kernel
theorem dX7_looked_41 : decode cX7_looked 41 = .ok (.i2l, 1) := by decide +kernel
theorem dX7_looked_42 : decode cX7_looked 42 = .ok (.invokestatic 69, 3) := by decide +kernel
theorem dX7_looked_45 : decode cX7_looked 45 = .ok (.iconst 3, 1) := by decide +kernel
theorem dX7_looked_46 : decode cX7_looked 46 = .ok (.invokevirtual 114, 3) := by decide +kernel
theorem dX7_looked_49 : decode cX7_looked 49 = .ok (.aload_n 0, 1) := by decide +kernel
theorem dX7_looked_50 : decode cX7_looked 50 = .ok (.getfield 76, 3) := by decide +kernel
theorem dX7_looked_53 : decode cX7_looked 53 = .ok (.ifCond .ne 10, 3) := by decide +kernel
theorem dX7_looked_56 : decode cX7_looked 56 = .ok (.aload_n 0, 1) := by decide +kernel
theorem dX7_looked_57 : decode cX7_looked 57 = .ok (.getfield 111, 3) := by decide +kernel
theorem dX7_looked_60 : decode cX7_looked 60 = .ok (.goto 4, 3) := by decide +kernel
theorem dX7_looked_63 : decode cX7_looked 63 = .ok (.iconst 0, 1) := by decide +kernel
theorem dX7_looked_64 : decode cX7_looked 64 = .ok (.ireturn, 1) := by decide +kernel
theorem dX7_readNumber_0 : decode cX7_readNumber 0 = .ok (.aload_n 0, 1) := by decide +kernel
theorem dX7_readNumber_1 : decode cX7_readNumber 1 = .ok (.iload_n 1, 1) := by decide +kernel
theorem dX7_readNumber_2 : decode cX7_readNumber 2 = .ok (.iload_n 2, 1) := by decide +kernel
theorem dX7_readNumber_3 : decode cX7_readNumber 3 = .ok (.invokevirtual 118, 3) := by decide +kernel
theorem dX7_readNumber_6 : decode cX7_readNumber 6 = .ok (.istore_n 3, 1) := by decide +kernel
theorem dX7_readNumber_7 : decode cX7_readNumber 7 = .ok (.aload_n 0, 1) := by decide +kernel
theorem dX7_readNumber_8 : decode cX7_readNumber 8 = .ok (.invokevirtual 122, 3) := by decide +kernel
theorem dX7_readNumber_11 : decode cX7_readNumber 11 = .ok (.iload_n 3, 1) := by decide +kernel
theorem dX7_readNumber_12 : decode cX7_readNumber 12 = .ok (.ireturn, 1) := by decide +kernel
theorem dX7_readMan_0 : decode cX7_readMan 0 = .ok (.iconst 4, 1) := by decide +kernel
theorem dX7_readMan_1 : decode cX7_readMan 1 = .ok (.aload_n 0, 1) := by decide +kernel
theorem dX7_readMan_2 : decode cX7_readMan 2 = .ok (.getfield 50, 3) := by decide +kernel
theorem dX7_readMan_5 : decode cX7_readMan 5 = .ok (.imul, 1) := by decide +kernel
theorem dX7_readMan_6 : decode cX7_readMan 6 = .ok (.istore_n 2, 1) := by decide +kernel
theorem dX7_readMan_7 : decode cX7_readMan 7 = .ok (.aload_n 0, 1) := by decide +kernel
theorem dX7_readMan_8 : decode cX7_readMan 8 = .ok (.getfield 20, 3) := by decide +kernel
theorem dX7_readMan_11 : decode cX7_readMan 11 = .ok (.iload_n 2, 1) := by decide +kernel
theorem dX7_readMan_12 : decode cX7_readMan 12 = .ok (.iconst 0, 1) := by decide +kernel
theorem dX7_readMan_13 : decode cX7_readMan 13 = .ok (.iadd, 1) := by decide +kernel
theorem dX7_readMan_14 : decode cX7_readMan 14 = .ok (.iload_n 1, 1) := by decide +kernel
theorem dX7_readMan_15 : decode cX7_readMan 15 = .ok (.iastore, 1) := by decide +kernel
theorem dX7_readMan_16 : decode cX7_readMan 16 = .ok (.aload_n 0, 1) := by decide +kernel
theorem dX7_readMan_17 : decode cX7_readMan 17 = .ok (.getfield 20, 3) := by decide +kernel
theorem dX7_readMan_20 : decode cX7_readMan 20 = .ok (.iload_n 2, 1) := by decide +kernel
theorem dX7_readMan_21 : decode cX7_readMan 21 = .ok (.iconst 1, 1) := by decide +kernel
theorem dX7_readMan_22 : decode cX7_readMan 22 = .ok (.iadd, 1) := by decide +kernel
theorem dX7_readMan_23 : decode cX7_readMan 23 = .ok (.aload_n 0, 1) := by decide +kernel
theorem dX7_readMan_24 : decode cX7_readMan 24 = .ok (.iconst 0, 1) := by decide +kernel
theorem dX7_readMan_25 : decode cX7_readMan 25 = .ok (.bipush 9, 2) := by decide +kernel
theorem dX7_readMan_27 : decode cX7_readMan 27 = .ok (.invokevirtual 125, 3) := by decide +kernel
theorem dX7_readMan_30 : decode cX7_readMan 30 = .ok (.iastore, 1) := by decide +kernel
theorem dX7_readMan_31 : decode cX7_readMan 31 = .ok (.aload_n 0, 1) := by decide +kernel
theorem dX7_readMan_32 : decode cX7_readMan 32 = .ok (.getfield 20, 3) := by decide +kernel
theorem dX7_readMan_35 : decode cX7_readMan 35 = .ok (.iload_n 2, 1) := by decide +kernel
theorem dX7_readMan_36 : decode cX7_readMan 36 = .ok (.iconst 2, 1) := by decide +kernel
theorem dX7_readMan_37 : decode cX7_readMan 37 = .ok (.iadd, 1) := by decide +kernel
theorem dX7_readMan_38 : decode cX7_readMan 38 = .ok (.aload_n 0, 1) := by decide +kernel
theorem dX7_readMan_39 : decode cX7_readMan 39 = .ok (.iconst 0, 1) := by decide +kernel
theorem dX7_readMan_40 : decode cX7_readMan 40 = .ok (.bipush 9, 2) := by decide +kernel
theorem dX7_readMan_42 : decode cX7_readMan 42 = .ok (.invokevirtual 125, 3) := by decide +kernel
theorem dX7_readMan_45 : decode cX7_readMan 45 = .ok (.iastore, 1) := by decide +kernel
theorem dX7_readMan_46 : decode cX7_readMan 46 = .ok (.aload_n 0, 1) := by decide +kernel
theorem dX7_readMan_47 : decode cX7_readMan 47 = .ok (.dup, 1) := by decide +kernel
theorem dX7_readMan_48 : decode cX7_readMan 48 = .ok (.getfield 50, 3) := by decide +kernel
theorem dX7_readMan_51 : decode cX7_readMan 51 = .ok (.iconst 1, 1) := by decide +kernel
theorem dX7_readMan_52 : decode cX7_readMan 52 = .ok (.iadd, 1) := by decide +kernel
theorem dX7_readMan_53 : decode cX7_readMan 53 = .ok (.putfield 50, 3) := by decide +kernel
theorem dX7_readMan_56 : decode cX7_readMan 56 = .ok (.return_, 1) := by decide +kernel
theorem dX7_readCousins_0 : decode cX7_readCousins 0 = .ok (.aload_n 0, 1) := by decide +kernel
theorem dX7_readCousins_1 : decode cX7_readCousins 1 = .ok (.iconst 0, 1) := by decide +kernel
theorem dX7_readCousins_2 : decode cX7_readCousins 2 = .ok (.iconst 4, 1) := by decide +kernel
theorem dX7_readCousins_3 : decode cX7_readCousins 3 = .ok (.invokevirtual 125, 3) := by decide +kernel
theorem dX7_readCousins_6 : decode cX7_readCousins 6 = .ok (.istore_n 1, 1) := by decide +kernel
theorem dX7_readCousins_7 : decode cX7_readCousins 7 = .ok (.aload_n 0, 1) := by decide +kernel
theorem dX7_readCousins_8 : decode cX7_readCousins 8 = .ok (.iconst 0, 1) := by decide +kernel
theorem dX7_readCousins_9 : decode cX7_readCousins 9 = .ok (.iconst 4, 1) := by decide +kernel
theorem dX7_readCousins_10 : decode cX7_readCousins 10 = .ok (.invokevirtual 118, 3) := by decide +kernel
theorem dX7_readCousins_13 : decode cX7_readCousins 13 = .ok (.istore_n 2, 1) := by decide +kernel
theorem dX7_readCousins_14 : decode cX7_readCousins 14 = .ok (.aload_n 0, 1) := by decide +kernel
theorem dX7_readCousins_15 : decode cX7_readCousins 15 = .ok (.getfield 76, 3) := by decide +kernel
theorem dX7_readCousins_18 : decode cX7_readCousins 18 = .ok (.ifCond .ne 94, 3) := by decide +kernel
theorem dX7_readCousins_21 : decode cX7_readCousins 21 = .ok (.aload_n 0, 1) := by decide +kernel
theorem dX7_readCousins_22 : decode cX7_readCousins 22 = .ok (.aload_n 0, 1) := by decide +kernel
theorem dX7_readCousins_23 : decode cX7_readCousins 23 = .ok (.getfield 20, 3) := by decide +kernel
theorem dX7_readCousins_26 : decode cX7_readCousins 26 = .ok (.bipush 25, 2) := by decide +kernel
theorem dX7_readCousins_28 : decode cX7_readCousins 28 = .ok (.iload_n 1, 1) := by decide +kernel
theorem dX7_readCousins_29 : decode cX7_readCousins 29 = .ok (.iadd, 1) := by decide +kernel
theorem dX7_readCousins_30 : decode cX7_readCousins 30 = .ok (.iaload, 1) := by decide +kernel
theorem dX7_readCousins_31 : decode cX7_readCousins 31 = .ok (.iload_n 2, 1) := by decide +kernel
theorem dX7_readCousins_32 : decode cX7_readCousins 32 = .ok (.ishr, 1) := by decide +kernel
theorem dX7_readCousins_33 : decode cX7_readCousins 33 = .ok (.iconst 1, 1) := by decide +kernel
theorem dX7_readCousins_34 : decode cX7_readCousins 34 = .ok (.iand, 1) := by decide +kernel
theorem dX7_readCousins_35 : decode cX7_readCousins 35 = .ok (.ifCond .ne 7, 3) := by decide +kernel
theorem dX7_readCousins_38 : decode cX7_readCousins 38 = .ok (.iconst 1, 1) := by decide +kernel
theorem dX7_readCousins_39 : decode cX7_readCousins 39 = .ok (.goto 4, 3) := by decide +kernel
theorem dX7_readCousins_42 : decode cX7_readCousins 42 = .ok (.iconst 0, 1) := by decide +kernel
theorem dX7_readCousins_43 : decode cX7_readCousins 43 = .ok (.iconst 4, 1) := by decide +kernel
theorem dX7_readCousins_44 : decode cX7_readCousins 44 = .ok (.invokevirtual 114, 3) := by decide +kernel
theorem dX7_readCousins_47 : decode cX7_readCousins 47 = .ok (.aload_n 0, 1) := by decide +kernel
theorem dX7_readCousins_48 : decode cX7_readCousins 48 = .ok (.getfield 20, 3) := by decide +kernel
theorem dX7_readCousins_51 : decode cX7_readCousins 51 = .ok (.bipush 25, 2) := by decide +kernel
theorem dX7_readCousins_53 : decode cX7_readCousins 53 = .ok (.iload_n 1, 1) := by decide +kernel
theorem dX7_readCousins_54 : decode cX7_readCousins 54 = .ok (.iadd, 1) := by decide +kernel
theorem dX7_readCousins_55 : decode cX7_readCousins 55 = .ok (.dup2, 1) := by decide +kernel
theorem dX7_readCousins_56 : decode cX7_readCousins 56 = .ok (.iaload, 1) := by decide +kernel
theorem dX7_readCousins_57 : decode cX7_readCousins 57 = .ok (.iconst 1, 1) := by decide +kernel
theorem dX7_readCousins_58 : decode cX7_readCousins 58 = .ok (.iload_n 2, 1) := by decide +kernel
theorem dX7_readCousins_59 : decode cX7_readCousins 59 = .ok (.ishl, 1) := by decide +kernel
theorem dX7_readCousins_60 : decode cX7_readCousins 60 = .ok (.ior, 1) := by decide +kernel
theorem dX7_readCousins_61 : decode cX7_readCousins 61 = .ok (.iastore, 1) := by decide +kernel
theorem dX7_readCousins_62 : decode cX7_readCousins 62 = .ok (.aload_n 0, 1) := by decide +kernel
theorem dX7_readCousins_63 : decode cX7_readCousins 63 = .ok (.dup, 1) := by decide +kernel
theorem dX7_readCousins_64 : decode cX7_readCousins 64 = .ok (.getfield 54, 3) := by decide +kernel
theorem dX7_readCousins_67 : decode cX7_readCousins 67 = .ok (.iconst 1, 1) := by decide +kernel
theorem dX7_readCousins_68 : decode cX7_readCousins 68 = .ok (.iadd, 1) := by decide +kernel
theorem dX7_readCousins_69 : decode cX7_readCousins 69 = .ok (.putfield 54, 3) := by decide +kernel
theorem dX7_readCousins_72 : decode cX7_readCousins 72 = .ok (.aload_n 0, 1) := by decide +kernel
theorem dX7_readCousins_73 : decode cX7_readCousins 73 = .ok (.iload_n 1, 1) := by decide +kernel
theorem dX7_readCousins_74 : decode cX7_readCousins 74 = .ok (.aload_n 0, 1) := by decide +kernel
theorem dX7_readCousins_75 : decode cX7_readCousins 75 = .ok (.getfield 61, 3) := by decide +kernel
theorem dX7_readCousins_78 : decode cX7_readCousins 78 = .ok (.if_icmp .le 7, 3) := by decide +kernel
theorem dX7_readCousins_81 : decode cX7_readCousins 81 = .ok (.iload_n 1, 1) := by decide +kernel
theorem dX7_readCousins_82 : decode cX7_readCousins 82 = .ok (.goto 7, 3) := by decide +kernel
theorem dX7_readCousins_85 : decode cX7_readCousins 85 = .ok (.aload_n 0, 1) := by decide +kernel
theorem dX7_readCousins_86 : decode cX7_readCousins 86 = .ok (.getfield 61, 3) := by decide +kernel
theorem dX7_readCousins_89 : decode cX7_readCousins 89 = .ok (.putfield 61, 3) := by decide +kernel
theorem dX7_readCousins_92 : decode cX7_readCousins 92 = .ok (.aload_n 0, 1) := by decide +kernel
theorem dX7_readCousins_93 : decode cX7_readCousins 93 = .ok (.iload_n 2, 1) := by decide +kernel
theorem dX7_readCousins_94 : decode cX7_readCousins 94 = .ok (.aload_n 0, 1) := by decide +kernel
theorem dX7_readCousins_95 : decode cX7_readCousins 95 = .ok (.getfield 61, 3) := by decide +kernel
theorem dX7_readCousins_98 : decode cX7_readCousins 98 = .ok (.if_icmp .le 7, 3) := by decide +kernel
theorem dX7_readCousins_101 : decode cX7_readCousins 101 = .ok (.iload_n 2, 1) := by decide +kernel
theorem dX7_readCousins_102 : decode cX7_readCousins 102 = .ok (.goto 7, 3) := by decide +kernel
theorem dX7_readCousins_105 : decode cX7_readCousins 105 = .ok (.aload_n 0, 1) := by decide +kernel
theorem dX7_readCousins_106 : decode cX7_readCousins 106 = .ok (.getfield 61, 3) := by decide +kernel
theorem dX7_readCousins_109 : decode cX7_readCousins 109 = .ok (.putfield 61, 3) := by decide +kernel
theorem dX7_readCousins_112 : decode cX7_readCousins 112 = .ok (.aload_n 0, 1) := by decide +kernel
theorem dX7_readCousins_113 : decode cX7_readCousins 113 = .ok (.invokevirtual 122, 3) := by decide +kernel
theorem dX7_readCousins_116 : decode cX7_readCousins 116 = .ok (.return_, 1) := by decide +kernel
theorem dX7_readProgram_0 : decode cX7_readProgram 0 = .ok (.aload_n 0, 1) := by decide +kernel
theorem dX7_readProgram_1 : decode cX7_readProgram 1 = .ok (.getfield 76, 3) := by decide +kernel
theorem dX7_readProgram_4 : decode cX7_readProgram 4 = .ok (.ifCond .ne 95, 3) := by decide +kernel
theorem dX7_readProgram_7 : decode cX7_readProgram 7 = .ok (.aload_n 0, 1) := by decide +kernel
theorem dX7_readProgram_8 : decode cX7_readProgram 8 = .ok (.getfield 100, 3) := by decide +kernel
theorem dX7_readProgram_11 : decode cX7_readProgram 11 = .ok (.iconst 1, 1) := by decide +kernel
theorem dX7_readProgram_12 : decode cX7_readProgram 12 = .ok (.if_icmp .ne 87, 3) := by decide +kernel
theorem dX7_readProgram_15 : decode cX7_readProgram 15 = .ok (.aload_n 0, 1) := by decide +kernel
theorem dX7_readProgram_16 : decode cX7_readProgram 16 = .ok (.invokevirtual 128, 3) := by decide +kernel
theorem dX7_readProgram_19 : decode cX7_readProgram 19 = .ok (.istore_n 1, 1) := by decide +kernel
theorem dX7_readProgram_20 : decode cX7_readProgram 20 = .ok (.aload_n 0, 1) := by decide +kernel
theorem dX7_readProgram_21 : decode cX7_readProgram 21 = .ok (.aload_n 0, 1) := by decide +kernel
theorem dX7_readProgram_22 : decode cX7_readProgram 22 = .ok (.getfield 20, 3) := by decide +kernel
theorem dX7_readProgram_25 : decode cX7_readProgram 25 = .ok (.bipush 31, 2) := by decide +kernel
theorem dX7_readProgram_27 : decode cX7_readProgram 27 = .ok (.iaload, 1) := by decide +kernel
theorem dX7_readProgram_28 : decode cX7_readProgram 28 = .ok (.bipush 8, 2) := by decide +kernel
theorem dX7_readProgram_30 : decode cX7_readProgram 30 = .ok (.if_icmp .ge 7, 3) := by decide +kernel
theorem dX7_readProgram_33 : decode cX7_readProgram 33 = .ok (.iconst 1, 1) := by decide +kernel
theorem dX7_readProgram_34 : decode cX7_readProgram 34 = .ok (.goto 4, 3) := by decide +kernel
theorem dX7_readProgram_37 : decode cX7_readProgram 37 = .ok (.iconst 0, 1) := by decide +kernel
theorem dX7_readProgram_38 : decode cX7_readProgram 38 = .ok (.iconst 5, 1) := by decide +kernel
theorem dX7_readProgram_39 : decode cX7_readProgram 39 = .ok (.invokevirtual 114, 3) := by decide +kernel
theorem dX7_readProgram_42 : decode cX7_readProgram 42 = .ok (.aload_n 0, 1) := by decide +kernel
theorem dX7_readProgram_43 : decode cX7_readProgram 43 = .ok (.iload_n 1, 1) := by decide +kernel
theorem dX7_readProgram_44 : decode cX7_readProgram 44 = .ok (.bipush (-4), 2) := by decide +kernel
theorem dX7_readProgram_46 : decode cX7_readProgram 46 = .ok (.if_icmp .eq 7, 3) := by decide +kernel
theorem dX7_readProgram_49 : decode cX7_readProgram 49 = .ok (.iconst 1, 1) := by decide +kernel
theorem dX7_readProgram_50 : decode cX7_readProgram 50 = .ok (.goto 4, 3) := by decide +kernel
theorem dX7_readProgram_53 : decode cX7_readProgram 53 = .ok (.iconst 0, 1) := by decide +kernel
theorem dX7_readProgram_54 : decode cX7_readProgram 54 = .ok (.iconst 2, 1) := by decide +kernel
theorem dX7_readProgram_55 : decode cX7_readProgram 55 = .ok (.invokevirtual 114, 3) := by decide +kernel
theorem dX7_readProgram_58 : decode cX7_readProgram 58 = .ok (.aload_n 0, 1) := by decide +kernel
theorem dX7_readProgram_59 : decode cX7_readProgram 59 = .ok (.getfield 76, 3) := by decide +kernel
theorem dX7_readProgram_62 : decode cX7_readProgram 62 = .ok (.ifCond .ne 30, 3) := by decide +kernel
theorem dX7_readProgram_65 : decode cX7_readProgram 65 = .ok (.aload_n 0, 1) := by decide +kernel
theorem dX7_readProgram_66 : decode cX7_readProgram 66 = .ok (.getfield 20, 3) := by decide +kernel
theorem dX7_readProgram_69 : decode cX7_readProgram 69 = .ok (.bipush 32, 2) := by decide +kernel
theorem dX7_readProgram_71 : decode cX7_readProgram 71 = .ok (.aload_n 0, 1) := by decide +kernel
theorem dX7_readProgram_72 : decode cX7_readProgram 72 = .ok (.getfield 20, 3) := by decide +kernel
theorem dX7_readProgram_75 : decode cX7_readProgram 75 = .ok (.bipush 31, 2) := by decide +kernel
theorem dX7_readProgram_77 : decode cX7_readProgram 77 = .ok (.iaload, 1) := by decide +kernel
theorem dX7_readProgram_78 : decode cX7_readProgram 78 = .ok (.iadd, 1) := by decide +kernel
theorem dX7_readProgram_79 : decode cX7_readProgram 79 = .ok (.iload_n 1, 1) := by decide +kernel
theorem dX7_readProgram_80 : decode cX7_readProgram 80 = .ok (.iastore, 1) := by decide +kernel
theorem dX7_readProgram_81 : decode cX7_readProgram 81 = .ok (.aload_n 0, 1) := by decide +kernel
theorem dX7_readProgram_82 : decode cX7_readProgram 82 = .ok (.getfield 20, 3) := by decide +kernel
theorem dX7_readProgram_85 : decode cX7_readProgram 85 = .ok (.bipush 31, 2) := by decide +kernel
theorem dX7_readProgram_87 : decode cX7_readProgram 87 = .ok (.dup2, 1) := by decide +kernel
theorem dX7_readProgram_88 : decode cX7_readProgram 88 = .ok (.iaload, 1) := by decide +kernel
theorem dX7_readProgram_89 : decode cX7_readProgram 89 = .ok (.iconst 1, 1) := by decide +kernel
theorem dX7_readProgram_90 : decode cX7_readProgram 90 = .ok (.iadd, 1) := by decide +kernel
theorem dX7_readProgram_91 : decode cX7_readProgram 91 = .ok (.iastore, 1) := by decide +kernel
theorem dX7_readProgram_92 : decode cX7_readProgram 92 = .ok (.aload_n 0, 1) := by decide +kernel
theorem dX7_readProgram_93 : decode cX7_readProgram 93 = .ok (.invokevirtual 122, 3) := by decide +kernel
theorem dX7_readProgram_96 : decode cX7_readProgram 96 = .ok (.goto (-96), 3) := by decide +kernel
theorem dX7_readProgram_99 : decode cX7_readProgram 99 = .ok (.return_, 1) := by decide +kernel
theorem dX7_readLine_0 : decode cX7_readLine 0 = .ok (.aload_n 0, 1) := by decide +kernel
theorem dX7_readLine_1 : decode cX7_readLine 1 = .ok (.getfield 100, 3) := by decide +kernel
theorem dX7_readLine_4 : decode cX7_readLine 4 = .ok (.iconst 1, 1) := by decide +kernel
theorem dX7_readLine_5 : decode cX7_readLine 5 = .ok (.if_icmp .ne 10, 3) := by decide +kernel
theorem dX7_readLine_8 : decode cX7_readLine 8 = .ok (.aload_n 0, 1) := by decide +kernel
theorem dX7_readLine_9 : decode cX7_readLine 9 = .ok (.invokevirtual 132, 3) := by decide +kernel
theorem dX7_readLine_12 : decode cX7_readLine 12 = .ok (.goto 5, 3) := by decide +kernel
theorem dX7_readLine_15 : decode cX7_readLine 15 = .ok (.bipush (-4), 2) := by decide +kernel
theorem dX7_readLine_17 : decode cX7_readLine 17 = .ok (.istore_n 1, 1) := by decide +kernel
theorem dX7_readLine_18 : decode cX7_readLine 18 = .ok (.aload_n 0, 1) := by decide +kernel
theorem dX7_readLine_19 : decode cX7_readLine 19 = .ok (.iload_n 1, 1) := by decide +kernel
theorem dX7_readLine_20 : decode cX7_readLine 20 = .ok (.bipush (-4), 2) := by decide +kernel
theorem dX7_readLine_22 : decode cX7_readLine 22 = .ok (.if_icmp .eq 7, 3) := by decide +kernel
theorem dX7_readLine_25 : decode cX7_readLine 25 = .ok (.iconst 1, 1) := by decide +kernel
theorem dX7_readLine_26 : decode cX7_readLine 26 = .ok (.goto 4, 3) := by decide +kernel
theorem dX7_readLine_29 : decode cX7_readLine 29 = .ok (.iconst 0, 1) := by decide +kernel
theorem dX7_readLine_30 : decode cX7_readLine 30 = .ok (.iconst 2, 1) := by decide +kernel
theorem dX7_readLine_31 : decode cX7_readLine 31 = .ok (.invokevirtual 114, 3) := by decide +kernel
theorem dX7_readLine_34 : decode cX7_readLine 34 = .ok (.aload_n 0, 1) := by decide +kernel
theorem dX7_readLine_35 : decode cX7_readLine 35 = .ok (.iload_n 1, 1) := by decide +kernel
theorem dX7_readLine_36 : decode cX7_readLine 36 = .ok (.iconst 4, 1) := by decide +kernel
theorem dX7_readLine_37 : decode cX7_readLine 37 = .ok (.if_icmp .ne 20, 3) := by decide +kernel
theorem dX7_readLine_40 : decode cX7_readLine 40 = .ok (.aload_n 0, 1) := by decide +kernel
theorem dX7_readLine_41 : decode cX7_readLine 41 = .ok (.getfield 54, 3) := by decide +kernel
theorem dX7_readLine_44 : decode cX7_readLine 44 = .ok (.bipush 6, 2) := by decide +kernel
theorem dX7_readLine_46 : decode cX7_readLine 46 = .ok (.if_icmp .ge 7, 3) := by decide +kernel
theorem dX7_readLine_49 : decode cX7_readLine 49 = .ok (.iconst 1, 1) := by decide +kernel
theorem dX7_readLine_50 : decode cX7_readLine 50 = .ok (.goto 25, 3) := by decide +kernel
theorem dX7_readLine_53 : decode cX7_readLine 53 = .ok (.iconst 0, 1) := by decide +kernel
theorem dX7_readLine_54 : decode cX7_readLine 54 = .ok (.goto 21, 3) := by decide +kernel
theorem dX7_readLine_57 : decode cX7_readLine 57 = .ok (.iload_n 1, 1) := by decide +kernel
theorem dX7_readLine_58 : decode cX7_readLine 58 = .ok (.iconst 5, 1) := by decide +kernel
theorem dX7_readLine_59 : decode cX7_readLine 59 = .ok (.if_icmp .eq 11, 3) := by decide +kernel
theorem dX7_readLine_62 : decode cX7_readLine 62 = .ok (.aload_n 0, 1) := by decide +kernel
theorem dX7_readLine_63 : decode cX7_readLine 63 = .ok (.getfield 50, 3) := by decide +kernel
theorem dX7_readLine_66 : decode cX7_readLine 66 = .ok (.iconst 5, 1) := by decide +kernel
theorem dX7_readLine_67 : decode cX7_readLine 67 = .ok (.if_icmp .ge 7, 3) := by decide +kernel
theorem dX7_readLine_70 : decode cX7_readLine 70 = .ok (.iconst 1, 1) := by decide +kernel
theorem dX7_readLine_71 : decode cX7_readLine 71 = .ok (.goto 4, 3) := by decide +kernel
theorem dX7_readLine_74 : decode cX7_readLine 74 = .ok (.iconst 0, 1) := by decide +kernel
theorem dX7_readLine_75 : decode cX7_readLine 75 = .ok (.iconst 5, 1) := by decide +kernel
theorem dX7_readLine_76 : decode cX7_readLine 76 = .ok (.invokevirtual 114, 3) := by decide +kernel
theorem dX7_readLine_79 : decode cX7_readLine 79 = .ok (.aload_n 0, 1) := by decide +kernel
theorem dX7_readLine_80 : decode cX7_readLine 80 = .ok (.iload_n 1, 1) := by decide +kernel
theorem dX7_readLine_81 : decode cX7_readLine 81 = .ok (.iconst 5, 1) := by decide +kernel
theorem dX7_readLine_82 : decode cX7_readLine 82 = .ok (.if_icmp .ne 10, 3) := by decide +kernel
theorem dX7_readLine_85 : decode cX7_readLine 85 = .ok (.aload_n 0, 1) := by decide +kernel
theorem dX7_readLine_86 : decode cX7_readLine 86 = .ok (.getfield 57, 3) := by decide +kernel
theorem dX7_readLine_89 : decode cX7_readLine 89 = .ok (.ifCond .ne 7, 3) := by decide +kernel
theorem dX7_readLine_92 : decode cX7_readLine 92 = .ok (.iconst 1, 1) := by decide +kernel
theorem dX7_readLine_93 : decode cX7_readLine 93 = .ok (.goto 4, 3) := by decide +kernel
theorem dX7_readLine_96 : decode cX7_readLine 96 = .ok (.iconst 0, 1) := by decide +kernel
theorem dX7_readLine_97 : decode cX7_readLine 97 = .ok (.iconst 4, 1) := by decide +kernel
theorem dX7_readLine_98 : decode cX7_readLine 98 = .ok (.invokevirtual 114, 3) := by decide +kernel
theorem dX7_readLine_101 : decode cX7_readLine 101 = .ok (.aload_n 0, 1) := by decide +kernel
theorem dX7_readLine_102 : decode cX7_readLine 102 = .ok (.aload_n 0, 1) := by decide +kernel
theorem dX7_readLine_103 : decode cX7_readLine 103 = .ok (.getfield 57, 3) := by decide +kernel
theorem dX7_readLine_106 : decode cX7_readLine 106 = .ok (.ifCond .ne 8, 3) := by decide +kernel
theorem dX7_readLine_109 : decode cX7_readLine 109 = .ok (.iload_n 1, 1) := by decide +kernel
theorem dX7_readLine_110 : decode cX7_readLine 110 = .ok (.iconst 5, 1) := by decide +kernel
theorem dX7_readLine_111 : decode cX7_readLine 111 = .ok (.if_icmp .ne 7, 3) := by decide +kernel
theorem dX7_readLine_114 : decode cX7_readLine 114 = .ok (.iconst 1, 1) := by decide +kernel
theorem dX7_readLine_115 : decode cX7_readLine 115 = .ok (.goto 4, 3) := by decide +kernel
theorem dX7_readLine_118 : decode cX7_readLine 118 = .ok (.iconst 0, 1) := by decide +kernel
theorem dX7_readLine_119 : decode cX7_readLine 119 = .ok (.putfield 57, 3) := by decide +kernel
theorem dX7_readLine_122 : decode cX7_readLine 122 = .ok (.aload_n 0, 1) := by decide +kernel
theorem dX7_readLine_123 : decode cX7_readLine 123 = .ok (.invokevirtual 122, 3) := by decide +kernel
theorem dX7_readLine_126 : decode cX7_readLine 126 = .ok (.aload_n 0, 1) := by decide +kernel
theorem dX7_readLine_127 : decode cX7_readLine 127 = .ok (.getfield 76, 3) := by decide +kernel
theorem dX7_readLine_130 : decode cX7_readLine 130 = .ok (.ifCond .le 4, 3) := by decide +kernel
theorem dX7_readLine_133 : decode cX7_readLine 133 = .ok (.return_, 1) := by decide +kernel
theorem dX7_readLine_134 : decode cX7_readLine 134 = .ok (.iload_n 1, 1) := by decide +kernel
theorem dX7_readLine_135 : decode cX7_readLine 135 = .ok (.iconst 4, 1) := by decide +kernel
theorem dX7_readLine_136 : decode cX7_readLine 136 = .ok (.if_icmp .ne 10, 3) := by decide +kernel
theorem dX7_readLine_139 : decode cX7_readLine 139 = .ok (.aload_n 0, 1) := by decide +kernel
theorem dX7_readLine_140 : decode cX7_readLine 140 = .ok (.invokevirtual 135, 3) := by decide +kernel
theorem dX7_readLine_143 : decode cX7_readLine 143 = .ok (.goto 20, 3) := by decide +kernel
theorem dX7_readLine_146 : decode cX7_readLine 146 = .ok (.iload_n 1, 1) := by decide +kernel
theorem dX7_readLine_147 : decode cX7_readLine 147 = .ok (.iconst 5, 1) := by decide +kernel
theorem dX7_readLine_148 : decode cX7_readLine 148 = .ok (.if_icmp .ne 10, 3) := by decide +kernel
theorem dX7_readLine_151 : decode cX7_readLine 151 = .ok (.aload_n 0, 1) := by decide +kernel
theorem dX7_readLine_152 : decode cX7_readLine 152 = .ok (.invokevirtual 138, 3) := by decide +kernel
theorem dX7_readLine_155 : decode cX7_readLine 155 = .ok (.goto 8, 3) := by decide +kernel
theorem dX7_readLine_158 : decode cX7_readLine 158 = .ok (.aload_n 0, 1) := by decide +kernel
theorem dX7_readLine_159 : decode cX7_readLine 159 = .ok (.iload_n 1, 1) := by decide +kernel
theorem dX7_readLine_160 : decode cX7_readLine 160 = .ok (.invokevirtual 141, 3) := by decide +kernel
theorem dX7_readLine_163 : decode cX7_readLine 163 = .ok (.aload_n 0, 1) := by decide +kernel
theorem dX7_readLine_164 : decode cX7_readLine 164 = .ok (.getfield 76, 3) := by decide +kernel
theorem dX7_readLine_167 : decode cX7_readLine 167 = .ok (.ifCond .ne 21, 3) := by decide +kernel
theorem dX7_readLine_170 : decode cX7_readLine 170 = .ok (.aload_n 0, 1) := by decide +kernel
theorem dX7_readLine_171 : decode cX7_readLine 171 = .ok (.aload_n 0, 1) := by decide +kernel
theorem dX7_readLine_172 : decode cX7_readLine 172 = .ok (.getfield 100, 3) := by decide +kernel
theorem dX7_readLine_175 : decode cX7_readLine 175 = .ok (.iconst 3, 1) := by decide +kernel
theorem dX7_readLine_176 : decode cX7_readLine 176 = .ok (.if_icmp .ne 7, 3) := by decide +kernel
theorem dX7_readLine_179 : decode cX7_readLine 179 = .ok (.iconst 1, 1) := by decide +kernel
theorem dX7_readLine_180 : decode cX7_readLine 180 = .ok (.goto 4, 3) := by decide +kernel
theorem dX7_readLine_183 : decode cX7_readLine 183 = .ok (.iconst 0, 1) := by decide +kernel
theorem dX7_readLine_184 : decode cX7_readLine 184 = .ok (.iconst 2, 1) := by decide +kernel
theorem dX7_readLine_185 : decode cX7_readLine 185 = .ok (.invokevirtual 114, 3) := by decide +kernel
theorem dX7_readLine_188 : decode cX7_readLine 188 = .ok (.aload_n 0, 1) := by decide +kernel
theorem dX7_readLine_189 : decode cX7_readLine 189 = .ok (.invokevirtual 122, 3) := by decide +kernel
theorem dX7_readLine_192 : decode cX7_readLine 192 = .ok (.return_, 1) := by decide +kernel
theorem dX7_text_0 : decode cX7_text 0 = .ok (.iconst 0, 1) := by decide +kernel
theorem dX7_text_1 : decode cX7_text 1 = .ok (.istore_n 1, 1) := by decide +kernel
theorem dX7_text_2 : decode cX7_text 2 = .ok (.aload_n 0, 1) := by decide +kernel
theorem dX7_text_3 : decode cX7_text 3 = .ok (.iconst 0, 1) := by decide +kernel
theorem dX7_text_4 : decode cX7_text 4 = .ok (.putfield 76, 3) := by decide +kernel
theorem dX7_text_7 : decode cX7_text 7 = .ok (.aload_n 0, 1) := by decide +kernel
theorem dX7_text_8 : decode cX7_text 8 = .ok (.iconst 0, 1) := by decide +kernel
theorem dX7_text_9 : decode cX7_text 9 = .ok (.putfield 85, 3) := by decide +kernel
theorem dX7_text_12 : decode cX7_text 12 = .ok (.aload_n 0, 1) := by decide +kernel
theorem dX7_text_13 : decode cX7_text 13 = .ok (.invokevirtual 44, 3) := by decide +kernel
theorem dX7_text_16 : decode cX7_text 16 = .ok (.aload_n 0, 1) := by decide +kernel
theorem dX7_text_17 : decode cX7_text 17 = .ok (.invokevirtual 122, 3) := by decide +kernel
theorem dX7_text_20 : decode cX7_text 20 = .ok (.aload_n 0, 1) := by decide +kernel
theorem dX7_text_21 : decode cX7_text 21 = .ok (.getfield 76, 3) := by decide +kernel
theorem dX7_text_24 : decode cX7_text 24 = .ok (.ifCond .ne 20, 3) := by decide +kernel
theorem dX7_text_27 : decode cX7_text 27 = .ok (.aload_n 0, 1) := by decide +kernel
theorem dX7_text_28 : decode cX7_text 28 = .ok (.getfield 100, 3) := by decide +kernel
theorem dX7_text_31 : decode cX7_text 31 = .ok (.ifCond .eq 13, 3) := by decide +kernel
theorem dX7_text_34 : decode cX7_text 34 = .ok (.aload_n 0, 1) := by decide +kernel
theorem dX7_text_35 : decode cX7_text 35 = .ok (.invokevirtual 145, 3) := by decide +kernel
theorem dX7_text_38 : decode cX7_text 38 = .ok (.iinc 1 1, 3) := by decide +kernel
theorem dX7_text_41 : decode cX7_text 41 = .ok (.goto (-21), 3) := by decide +kernel
theorem dX7_text_44 : decode cX7_text 44 = .ok (.aload_n 0, 1) := by decide +kernel
theorem dX7_text_45 : decode cX7_text 45 = .ok (.getfield 76, 3) := by decide +kernel
theorem dX7_text_48 : decode cX7_text 48 = .ok (.ifCond .ne 25, 3) := by decide +kernel
theorem dX7_text_51 : decode cX7_text 51 = .ok (.aload_n 0, 1) := by decide +kernel
theorem dX7_text_52 : decode cX7_text 52 = .ok (.aload_n 0, 1) := by decide +kernel
theorem dX7_text_53 : decode cX7_text 53 = .ok (.getfield 61, 3) := by decide +kernel
theorem dX7_text_56 : decode cX7_text 56 = .ok (.aload_n 0, 1) := by decide +kernel
theorem dX7_text_57 : decode cX7_text 57 = .ok (.getfield 50, 3) := by decide +kernel
theorem dX7_text_60 : decode cX7_text 60 = .ok (.if_icmp .ge 7, 3) := by decide +kernel
theorem dX7_text_63 : decode cX7_text 63 = .ok (.iconst 1, 1) := by decide +kernel
theorem dX7_text_64 : decode cX7_text 64 = .ok (.goto 4, 3) := by decide +kernel
theorem dX7_text_67 : decode cX7_text 67 = .ok (.iconst 0, 1) := by decide +kernel
theorem dX7_text_68 : decode cX7_text 68 = .ok (.bipush 6, 2) := by decide +kernel
theorem dX7_text_70 : decode cX7_text 70 = .ok (.invokevirtual 114, 3) := by decide +kernel
theorem dX7_text_73 : decode cX7_text 73 = .ok (.aload_n 0, 1) := by decide +kernel
theorem dX7_text_74 : decode cX7_text 74 = .ok (.iconst 0, 1) := by decide +kernel
theorem dX7_text_75 : decode cX7_text 75 = .ok (.putfield 73, 3) := by decide +kernel
theorem dX7_text_78 : decode cX7_text 78 = .ok (.aload_n 0, 1) := by decide +kernel
theorem dX7_text_79 : decode cX7_text 79 = .ok (.getfield 76, 3) := by decide +kernel
theorem dX7_text_82 : decode cX7_text 82 = .ok (.ifCond .le 11, 3) := by decide +kernel
theorem dX7_text_85 : decode cX7_text 85 = .ok (.bipush (-10), 2) := by decide +kernel
theorem dX7_text_87 : decode cX7_text 87 = .ok (.aload_n 0, 1) := by decide +kernel
theorem dX7_text_88 : decode cX7_text 88 = .ok (.getfield 82, 3) := by decide +kernel
theorem dX7_text_91 : decode cX7_text 91 = .ok (.isub, 1) := by decide +kernel
theorem dX7_text_92 : decode cX7_text 92 = .ok (.ireturn, 1) := by decide +kernel
theorem dX7_text_93 : decode cX7_text 93 = .ok (.aload_n 0, 1) := by decide +kernel
theorem dX7_text_94 : decode cX7_text 94 = .ok (.invokevirtual 47, 3) := by decide +kernel
theorem dX7_text_97 : decode cX7_text 97 = .ok (.iload_n 1, 1) := by decide +kernel
theorem dX7_text_98 : decode cX7_text 98 = .ok (.ireturn, 1) := by decide +kernel
theorem dX7_fault_0 : decode cX7_fault 0 = .ok (.aload_n 0, 1) := by decide +kernel
theorem dX7_fault_1 : decode cX7_fault 1 = .ok (.getfield 76, 3) := by decide +kernel
theorem dX7_fault_4 : decode cX7_fault 4 = .ok (.ireturn, 1) := by decide +kernel
theorem dX7_isOne_0 : decode cX7_isOne 0 = .ok (.iload_n 1, 1) := by decide +kernel
theorem dX7_isOne_1 : decode cX7_isOne 1 = .ok (.i2l, 1) := by decide +kernel
theorem dX7_isOne_2 : decode cX7_isOne 2 = .ok (.lconst 0, 1) := by decide +kernel
theorem dX7_isOne_3 : decode cX7_isOne 3 = .ok (.aload_n 0, 1) := by decide +kernel
theorem dX7_isOne_4 : decode cX7_isOne 4 = .ok (.getfield 64, 3) := by decide +kernel
theorem dX7_isOne_7 : decode cX7_isOne 7 = .ok (.iconst 1, 1) := by decide +kernel
theorem dX7_isOne_8 : decode cX7_isOne 8 = .ok (.isub, 1) := by decide +kernel
theorem dX7_isOne_9 : decode cX7_isOne 9 = .ok (.i2l, 1) := by decide +kernel
theorem dX7_isOne_10 : decode cX7_isOne 10 = .ok (.invokestatic 69, 3) := by decide +kernel
theorem dX7_isOne_13 : decode cX7_isOne 13 = .ok (.ireturn, 1) := by decide +kernel
theorem dX7_isFigure_0 : decode cX7_isFigure 0 = .ok (.iload_n 0, 1) := by decide +kernel
theorem dX7_isFigure_1 : decode cX7_isFigure 1 = .ok (.i2l, 1) := by decide +kernel
theorem dX7_isFigure_2 : decode cX7_isFigure 2 = .ok (.lconst 0, 1) := by decide +kernel
theorem dX7_isFigure_3 : decode cX7_isFigure 3 = .ok (.ldc2_w 148, 3) := by decide +kernel
theorem dX7_isFigure_6 : decode cX7_isFigure 6 = .ok (.invokestatic 69, 3) := by decide +kernel
theorem dX7_isFigure_9 : decode cX7_isFigure 9 = .ok (.ireturn, 1) := by decide +kernel
theorem dX7_isPart_0 : decode cX7_isPart 0 = .ok (.iload_n 0, 1) := by decide +kernel
theorem dX7_isPart_1 : decode cX7_isPart 1 = .ok (.i2l, 1) := by decide +kernel
theorem dX7_isPart_2 : decode cX7_isPart 2 = .ok (.lconst 0, 1) := by decide +kernel
theorem dX7_isPart_3 : decode cX7_isPart 3 = .ok (.lconst 1, 1) := by decide +kernel
theorem dX7_isPart_4 : decode cX7_isPart 4 = .ok (.invokestatic 69, 3) := by decide +kernel
theorem dX7_isPart_7 : decode cX7_isPart 7 = .ok (.ireturn, 1) := by decide +kernel
theorem dX7_starts_0 : decode cX7_starts 0 = .ok (.iconst 0, 1) := by decide +kernel
theorem dX7_starts_1 : decode cX7_starts 1 = .ok (.istore_n 1, 1) := by decide +kernel
theorem dX7_starts_2 : decode cX7_starts 2 = .ok (.iload_n 1, 1) := by decide +kernel
theorem dX7_starts_3 : decode cX7_starts 3 = .ok (.bipush 59, 2) := by decide +kernel
theorem dX7_starts_5 : decode cX7_starts 5 = .ok (.if_icmp .ge 21, 3) := by decide +kernel
theorem dX7_starts_8 : decode cX7_starts 8 = .ok (.aload_n 0, 1) := by decide +kernel
theorem dX7_starts_9 : decode cX7_starts 9 = .ok (.getfield 13, 3) := by decide +kernel
theorem dX7_starts_12 : decode cX7_starts 12 = .ok (.iload_n 1, 1) := by decide +kernel
theorem dX7_starts_13 : decode cX7_starts 13 = .ok (.aload_n 0, 1) := by decide +kernel
theorem dX7_starts_14 : decode cX7_starts 14 = .ok (.getfield 7, 3) := by decide +kernel
theorem dX7_starts_17 : decode cX7_starts 17 = .ok (.iload_n 1, 1) := by decide +kernel
theorem dX7_starts_18 : decode cX7_starts 18 = .ok (.iaload, 1) := by decide +kernel
theorem dX7_starts_19 : decode cX7_starts 19 = .ok (.iastore, 1) := by decide +kernel
theorem dX7_starts_20 : decode cX7_starts 20 = .ok (.iinc 1 1, 3) := by decide +kernel
theorem dX7_starts_23 : decode cX7_starts 23 = .ok (.goto (-21), 3) := by decide +kernel
theorem dX7_starts_26 : decode cX7_starts 26 = .ok (.return_, 1) := by decide +kernel
theorem dX7_settles_0 : decode cX7_settles 0 = .ok (.iconst 0, 1) := by decide +kernel
theorem dX7_settles_1 : decode cX7_settles 1 = .ok (.istore_n 1, 1) := by decide +kernel
theorem dX7_settles_2 : decode cX7_settles 2 = .ok (.iload_n 1, 1) := by decide +kernel
theorem dX7_settles_3 : decode cX7_settles 3 = .ok (.bipush 59, 2) := by decide +kernel
theorem dX7_settles_5 : decode cX7_settles 5 = .ok (.if_icmp .ge 21, 3) := by decide +kernel
theorem dX7_settles_8 : decode cX7_settles 8 = .ok (.aload_n 0, 1) := by decide +kernel
theorem dX7_settles_9 : decode cX7_settles 9 = .ok (.getfield 7, 3) := by decide +kernel
theorem dX7_settles_12 : decode cX7_settles 12 = .ok (.iload_n 1, 1) := by decide +kernel
theorem dX7_settles_13 : decode cX7_settles 13 = .ok (.aload_n 0, 1) := by decide +kernel
theorem dX7_settles_14 : decode cX7_settles 14 = .ok (.getfield 13, 3) := by decide +kernel
theorem dX7_settles_17 : decode cX7_settles 17 = .ok (.iload_n 1, 1) := by decide +kernel
theorem dX7_settles_18 : decode cX7_settles 18 = .ok (.iaload, 1) := by decide +kernel
theorem dX7_settles_19 : decode cX7_settles 19 = .ok (.iastore, 1) := by decide +kernel
theorem dX7_settles_20 : decode cX7_settles 20 = .ok (.iinc 1 1, 3) := by decide +kernel
theorem dX7_settles_23 : decode cX7_settles 23 = .ok (.goto (-21), 3) := by decide +kernel
theorem dX7_settles_26 : decode cX7_settles 26 = .ok (.return_, 1) := by decide +kernel
theorem dX7_of_0 : decode cX7_of 0 = .ok (.aload_n 0, 1) := by decide +kernel
theorem dX7_of_1 : decode cX7_of 1 = .ok (.getfield 13, 3) := by decide +kernel
theorem dX7_of_4 : decode cX7_of 4 = .ok (.iconst 4, 1) := by decide +kernel
theorem dX7_of_5 : decode cX7_of 5 = .ok (.iload_n 1, 1) := by decide +kernel
theorem dX7_of_6 : decode cX7_of 6 = .ok (.imul, 1) := by decide +kernel
theorem dX7_of_7 : decode cX7_of 7 = .ok (.iload_n 2, 1) := by decide +kernel
theorem dX7_of_8 : decode cX7_of 8 = .ok (.iadd, 1) := by decide +kernel
theorem dX7_of_9 : decode cX7_of 9 = .ok (.iaload, 1) := by decide +kernel
theorem dX7_of_10 : decode cX7_of 10 = .ok (.ireturn, 1) := by decide +kernel
theorem dX7_becomesOf_0 : decode cX7_becomesOf 0 = .ok (.aload_n 0, 1) := by decide +kernel
theorem dX7_becomesOf_1 : decode cX7_becomesOf 1 = .ok (.getfield 13, 3) := by decide +kernel
theorem dX7_becomesOf_4 : decode cX7_becomesOf 4 = .ok (.iconst 4, 1) := by decide +kernel
theorem dX7_becomesOf_5 : decode cX7_becomesOf 5 = .ok (.iload_n 1, 1) := by decide +kernel
theorem dX7_becomesOf_6 : decode cX7_becomesOf 6 = .ok (.imul, 1) := by decide +kernel
theorem dX7_becomesOf_7 : decode cX7_becomesOf 7 = .ok (.iload_n 2, 1) := by decide +kernel
theorem dX7_becomesOf_8 : decode cX7_becomesOf 8 = .ok (.iadd, 1) := by decide +kernel
theorem dX7_becomesOf_9 : decode cX7_becomesOf 9 = .ok (.iload_n 3, 1) := by decide +kernel
theorem dX7_becomesOf_10 : decode cX7_becomesOf 10 = .ok (.iastore, 1) := by decide +kernel
theorem dX7_becomesOf_11 : decode cX7_becomesOf 11 = .ok (.return_, 1) := by decide +kernel
theorem dX7_stature_0 : decode cX7_stature 0 = .ok (.aload_n 0, 1) := by decide +kernel
theorem dX7_stature_1 : decode cX7_stature 1 = .ok (.iload_n 1, 1) := by decide +kernel
theorem dX7_stature_2 : decode cX7_stature 2 = .ok (.iconst 0, 1) := by decide +kernel
theorem dX7_stature_3 : decode cX7_stature 3 = .ok (.invokevirtual 150, 3) := by decide +kernel
theorem dX7_stature_6 : decode cX7_stature 6 = .ok (.istore_n 2, 1) := by decide +kernel
theorem dX7_stature_7 : decode cX7_stature 7 = .ok (.aload_n 0, 1) := by decide +kernel
theorem dX7_stature_8 : decode cX7_stature 8 = .ok (.iload_n 1, 1) := by decide +kernel
theorem dX7_stature_9 : decode cX7_stature 9 = .ok (.iconst 1, 1) := by decide +kernel
theorem dX7_stature_10 : decode cX7_stature 10 = .ok (.invokevirtual 150, 3) := by decide +kernel
theorem dX7_stature_13 : decode cX7_stature 13 = .ok (.aload_n 0, 1) := by decide +kernel
theorem dX7_stature_14 : decode cX7_stature 14 = .ok (.iload_n 1, 1) := by decide +kernel
theorem dX7_stature_15 : decode cX7_stature 15 = .ok (.iconst 2, 1) := by decide +kernel
theorem dX7_stature_16 : decode cX7_stature 16 = .ok (.invokevirtual 150, 3) := by decide +kernel
theorem dX7_stature_19 : decode cX7_stature 19 = .ok (.iadd, 1) := by decide +kernel
theorem dX7_stature_20 : decode cX7_stature 20 = .ok (.iload_n 2, 1) := by decide +kernel
theorem dX7_stature_21 : decode cX7_stature 21 = .ok (.iconst 2, 1) := by decide +kernel
theorem dX7_stature_22 : decode cX7_stature 22 = .ok (.if_icmp .ne 8, 3) := by decide +kernel
theorem dX7_stature_25 : decode cX7_stature 25 = .ok (.bipush (-2), 2) := by decide +kernel
theorem dX7_stature_27 : decode cX7_stature 27 = .ok (.goto 13, 3) := by decide +kernel
theorem dX7_stature_30 : decode cX7_stature 30 = .ok (.iload_n 2, 1) := by decide +kernel
theorem dX7_stature_31 : decode cX7_stature 31 = .ok (.iconst 3, 1) := by decide +kernel
theorem dX7_stature_32 : decode cX7_stature 32 = .ok (.if_icmp .ne 7, 3) := by decide +kernel
theorem dX7_stature_35 : decode cX7_stature 35 = .ok (.iconst 3, 1) := by decide +kernel
theorem dX7_stature_36 : decode cX7_stature 36 = .ok (.goto 4, 3) := by decide +kernel
theorem dX7_stature_39 : decode cX7_stature 39 = .ok (.iconst 0, 1) := by decide +kernel
theorem dX7_stature_40 : decode cX7_stature 40 = .ok (.iadd, 1) := by decide +kernel
theorem dX7_stature_41 : decode cX7_stature 41 = .ok (.ireturn, 1) := by decide +kernel
theorem dX7_isBelow_0 : decode cX7_isBelow 0 = .ok (.aload_n 0, 1) := by decide +kernel
theorem dX7_isBelow_1 : decode cX7_isBelow 1 = .ok (.iload_n 1, 1) := by decide +kernel
theorem dX7_isBelow_2 : decode cX7_isBelow 2 = .ok (.invokevirtual 153, 3) := by decide +kernel
theorem dX7_isBelow_5 : decode cX7_isBelow 5 = .ok (.aload_n 0, 1) := by decide +kernel
theorem dX7_isBelow_6 : decode cX7_isBelow 6 = .ok (.iload_n 2, 1) := by decide +kernel
theorem dX7_isBelow_7 : decode cX7_isBelow 7 = .ok (.invokevirtual 153, 3) := by decide +kernel
theorem dX7_isBelow_10 : decode cX7_isBelow 10 = .ok (.isub, 1) := by decide +kernel
theorem dX7_isBelow_11 : decode cX7_isBelow 11 = .ok (.istore_n 3, 1) := by decide +kernel
theorem dX7_isBelow_12 : decode cX7_isBelow 12 = .ok (.aload_n 0, 1) := by decide +kernel
theorem dX7_isBelow_13 : decode cX7_isBelow 13 = .ok (.iload_n 1, 1) := by decide +kernel
theorem dX7_isBelow_14 : decode cX7_isBelow 14 = .ok (.iconst 3, 1) := by decide +kernel
theorem dX7_isBelow_15 : decode cX7_isBelow 15 = .ok (.invokevirtual 150, 3) := by decide +kernel
theorem dX7_isBelow_18 : decode cX7_isBelow 18 = .ok (.aload_n 0, 1) := by decide +kernel
theorem dX7_isBelow_19 : decode cX7_isBelow 19 = .ok (.iload_n 2, 1) := by decide +kernel
theorem dX7_isBelow_20 : decode cX7_isBelow 20 = .ok (.iconst 3, 1) := by decide +kernel
theorem dX7_isBelow_21 : decode cX7_isBelow 21 = .ok (.invokevirtual 150, 3) := by decide +kernel
theorem dX7_isBelow_24 : decode cX7_isBelow 24 = .ok (.isub, 1) := by decide +kernel
theorem dX7_isBelow_25 : decode cX7_isBelow 25 = .ok (.istore 4, 2) := by decide +kernel
theorem dX7_isBelow_27 : decode cX7_isBelow 27 = .ok (.iload_n 3, 1) := by decide +kernel
theorem dX7_isBelow_28 : decode cX7_isBelow 28 = .ok (.ifCond .lt 22, 3) := by decide +kernel
theorem dX7_isBelow_31 : decode cX7_isBelow 31 = .ok (.iload_n 3, 1) := by decide +kernel
theorem dX7_isBelow_32 : decode cX7_isBelow 32 = .ok (.ifCond .ne 22, 3) := by decide +kernel
theorem dX7_isBelow_35 : decode cX7_isBelow 35 = .ok (.iload 4, 2) := by decide +kernel
theorem dX7_isBelow_37 : decode cX7_isBelow 37 = .ok (.ifCond .gt 13, 3) := by decide +kernel
theorem dX7_isBelow_40 : decode cX7_isBelow 40 = .ok (.iload 4, 2) := by decide +kernel
theorem dX7_isBelow_42 : decode cX7_isBelow 42 = .ok (.ifCond .ne 12, 3) := by decide +kernel
theorem dX7_isBelow_45 : decode cX7_isBelow 45 = .ok (.iload_n 1, 1) := by decide +kernel
theorem dX7_isBelow_46 : decode cX7_isBelow 46 = .ok (.iload_n 2, 1) := by decide +kernel
theorem dX7_isBelow_47 : decode cX7_isBelow 47 = .ok (.if_icmp .ge 7, 3) := by decide +kernel
theorem dX7_isBelow_50 : decode cX7_isBelow 50 = .ok (.iconst 1, 1) := by decide +kernel
theorem dX7_isBelow_51 : decode cX7_isBelow 51 = .ok (.goto 4, 3) := by decide +kernel
theorem dX7_isBelow_54 : decode cX7_isBelow 54 = .ok (.iconst 0, 1) := by decide +kernel
theorem dX7_isBelow_55 : decode cX7_isBelow 55 = .ok (.ireturn, 1) := by decide +kernel
theorem dX7_rankOf_0 : decode cX7_rankOf 0 = .ok (.iconst 0, 1) := by decide +kernel
theorem dX7_rankOf_1 : decode cX7_rankOf 1 = .ok (.istore_n 2, 1) := by decide +kernel
theorem dX7_rankOf_2 : decode cX7_rankOf 2 = .ok (.iconst 0, 1) := by decide +kernel
theorem dX7_rankOf_3 : decode cX7_rankOf 3 = .ok (.istore_n 3, 1) := by decide +kernel
theorem dX7_rankOf_4 : decode cX7_rankOf 4 = .ok (.iload_n 3, 1) := by decide +kernel
theorem dX7_rankOf_5 : decode cX7_rankOf 5 = .ok (.aload_n 0, 1) := by decide +kernel
theorem dX7_rankOf_6 : decode cX7_rankOf 6 = .ok (.getfield 64, 3) := by decide +kernel
theorem dX7_rankOf_9 : decode cX7_rankOf 9 = .ok (.if_icmp .ge 34, 3) := by decide +kernel
theorem dX7_rankOf_12 : decode cX7_rankOf 12 = .ok (.iload_n 2, 1) := by decide +kernel
theorem dX7_rankOf_13 : decode cX7_rankOf 13 = .ok (.iload_n 3, 1) := by decide +kernel
theorem dX7_rankOf_14 : decode cX7_rankOf 14 = .ok (.iload_n 1, 1) := by decide +kernel
theorem dX7_rankOf_15 : decode cX7_rankOf 15 = .ok (.if_icmp .eq 16, 3) := by decide +kernel
theorem dX7_rankOf_18 : decode cX7_rankOf 18 = .ok (.aload_n 0, 1) := by decide +kernel
theorem dX7_rankOf_19 : decode cX7_rankOf 19 = .ok (.iload_n 3, 1) := by decide +kernel
theorem dX7_rankOf_20 : decode cX7_rankOf 20 = .ok (.iload_n 1, 1) := by decide +kernel
theorem dX7_rankOf_21 : decode cX7_rankOf 21 = .ok (.invokevirtual 156, 3) := by decide +kernel
theorem dX7_rankOf_24 : decode cX7_rankOf 24 = .ok (.ifCond .eq 7, 3) := by decide +kernel
theorem dX7_rankOf_27 : decode cX7_rankOf 27 = .ok (.iconst 1, 1) := by decide +kernel
theorem dX7_rankOf_28 : decode cX7_rankOf 28 = .ok (.goto 4, 3) := by decide +kernel
theorem dX7_rankOf_31 : decode cX7_rankOf 31 = .ok (.iconst 0, 1) := by decide +kernel
theorem dX7_rankOf_32 : decode cX7_rankOf 32 = .ok (.invokestatic 160, 3) := by decide +kernel
theorem dX7_rankOf_35 : decode cX7_rankOf 35 = .ok (.iadd, 1) := by decide +kernel
theorem dX7_rankOf_36 : decode cX7_rankOf 36 = .ok (.istore_n 2, 1) := by decide +kernel
theorem dX7_rankOf_37 : decode cX7_rankOf 37 = .ok (.iinc 3 1, 3) := by decide +kernel
theorem dX7_rankOf_40 : decode cX7_rankOf 40 = .ok (.goto (-36), 3) := by decide +kernel
theorem dX7_rankOf_43 : decode cX7_rankOf 43 = .ok (.iload_n 2, 1) := by decide +kernel
theorem dX7_rankOf_44 : decode cX7_rankOf 44 = .ok (.ireturn, 1) := by decide +kernel
theorem dX7_findRanks_0 : decode cX7_findRanks 0 = .ok (.iconst 0, 1) := by decide +kernel
theorem dX7_findRanks_1 : decode cX7_findRanks 1 = .ok (.istore_n 1, 1) := by decide +kernel
theorem dX7_findRanks_2 : decode cX7_findRanks 2 = .ok (.iload_n 1, 1) := by decide +kernel
theorem dX7_findRanks_3 : decode cX7_findRanks 3 = .ok (.aload_n 0, 1) := by decide +kernel
theorem dX7_findRanks_4 : decode cX7_findRanks 4 = .ok (.getfield 64, 3) := by decide +kernel
theorem dX7_findRanks_7 : decode cX7_findRanks 7 = .ok (.if_icmp .ge 20, 3) := by decide +kernel
theorem dX7_findRanks_10 : decode cX7_findRanks 10 = .ok (.aload_n 0, 1) := by decide +kernel
theorem dX7_findRanks_11 : decode cX7_findRanks 11 = .ok (.getfield 26, 3) := by decide +kernel
theorem dX7_findRanks_14 : decode cX7_findRanks 14 = .ok (.aload_n 0, 1) := by decide +kernel
theorem dX7_findRanks_15 : decode cX7_findRanks 15 = .ok (.iload_n 1, 1) := by decide +kernel
theorem dX7_findRanks_16 : decode cX7_findRanks 16 = .ok (.invokevirtual 164, 3) := by decide +kernel
theorem dX7_findRanks_19 : decode cX7_findRanks 19 = .ok (.iload_n 1, 1) := by decide +kernel
theorem dX7_findRanks_20 : decode cX7_findRanks 20 = .ok (.iastore, 1) := by decide +kernel
theorem dX7_findRanks_21 : decode cX7_findRanks 21 = .ok (.iinc 1 1, 3) := by decide +kernel
theorem dX7_findRanks_24 : decode cX7_findRanks 24 = .ok (.goto (-22), 3) := by decide +kernel
theorem dX7_findRanks_27 : decode cX7_findRanks 27 = .ok (.return_, 1) := by decide +kernel
theorem dX7_goesTo_0 : decode cX7_goesTo 0 = .ok (.iload_n 2, 1) := by decide +kernel
theorem dX7_goesTo_1 : decode cX7_goesTo 1 = .ok (.tableswitch 59 0 2 #[27, 36, 50], 27) := by decide +kernel
theorem dX7_goesTo_28 : decode cX7_goesTo 28 = .ok (.iload_n 1, 1) := by decide +kernel
theorem dX7_goesTo_29 : decode cX7_goesTo 29 = .ok (.iconst 1, 1) := by decide +kernel
theorem dX7_goesTo_30 : decode cX7_goesTo 30 = .ok (.iadd, 1) := by decide +kernel
theorem dX7_goesTo_31 : decode cX7_goesTo 31 = .ok (.aload_n 0, 1) := by decide +kernel
theorem dX7_goesTo_32 : decode cX7_goesTo 32 = .ok (.getfield 64, 3) := by decide +kernel
theorem dX7_goesTo_35 : decode cX7_goesTo 35 = .ok (.irem, 1) := by decide +kernel
theorem dX7_goesTo_36 : decode cX7_goesTo 36 = .ok (.ireturn, 1) := by decide +kernel
theorem dX7_goesTo_37 : decode cX7_goesTo 37 = .ok (.iload_n 1, 1) := by decide +kernel
theorem dX7_goesTo_38 : decode cX7_goesTo 38 = .ok (.aload_n 0, 1) := by decide +kernel
theorem dX7_goesTo_39 : decode cX7_goesTo 39 = .ok (.getfield 64, 3) := by decide +kernel
theorem dX7_goesTo_42 : decode cX7_goesTo 42 = .ok (.iadd, 1) := by decide +kernel
theorem dX7_goesTo_43 : decode cX7_goesTo 43 = .ok (.iconst 1, 1) := by decide +kernel
theorem dX7_goesTo_44 : decode cX7_goesTo 44 = .ok (.isub, 1) := by decide +kernel
theorem dX7_goesTo_45 : decode cX7_goesTo 45 = .ok (.aload_n 0, 1) := by decide +kernel
theorem dX7_goesTo_46 : decode cX7_goesTo 46 = .ok (.getfield 64, 3) := by decide +kernel
theorem dX7_goesTo_49 : decode cX7_goesTo 49 = .ok (.irem, 1) := by decide +kernel
theorem dX7_goesTo_50 : decode cX7_goesTo 50 = .ok (.ireturn, 1) := by decide +kernel
theorem dX7_goesTo_51 : decode cX7_goesTo 51 = .ok (.iload_n 1, 1) := by decide +kernel
theorem dX7_goesTo_52 : decode cX7_goesTo 52 = .ok (.iconst 2, 1) := by decide +kernel
theorem dX7_goesTo_53 : decode cX7_goesTo 53 = .ok (.iadd, 1) := by decide +kernel
theorem dX7_goesTo_54 : decode cX7_goesTo 54 = .ok (.aload_n 0, 1) := by decide +kernel
theorem dX7_goesTo_55 : decode cX7_goesTo 55 = .ok (.getfield 64, 3) := by decide +kernel
theorem dX7_goesTo_58 : decode cX7_goesTo 58 = .ok (.irem, 1) := by decide +kernel
theorem dX7_goesTo_59 : decode cX7_goesTo 59 = .ok (.ireturn, 1) := by decide +kernel
theorem dX7_goesTo_60 : decode cX7_goesTo 60 = .ok (.aload_n 0, 1) := by decide +kernel
theorem dX7_goesTo_61 : decode cX7_goesTo 61 = .ok (.getfield 64, 3) := by decide +kernel
theorem dX7_goesTo_64 : decode cX7_goesTo 64 = .ok (.iconst 1, 1) := by decide +kernel
theorem dX7_goesTo_65 : decode cX7_goesTo 65 = .ok (.isub, 1) := by decide +kernel
theorem dX7_goesTo_66 : decode cX7_goesTo 66 = .ok (.iload_n 1, 1) := by decide +kernel
theorem dX7_goesTo_67 : decode cX7_goesTo 67 = .ok (.isub, 1) := by decide +kernel
theorem dX7_goesTo_68 : decode cX7_goesTo 68 = .ok (.ireturn, 1) := by decide +kernel
theorem dX7_changes_0 : decode cX7_changes 0 = .ok (.aload_n 0, 1) := by decide +kernel
theorem dX7_changes_1 : decode cX7_changes 1 = .ok (.invokevirtual 167, 3) := by decide +kernel
theorem dX7_changes_4 : decode cX7_changes 4 = .ok (.iconst 0, 1) := by decide +kernel
theorem dX7_changes_5 : decode cX7_changes 5 = .ok (.istore_n 2, 1) := by decide +kernel
theorem dX7_changes_6 : decode cX7_changes 6 = .ok (.iload_n 2, 1) := by decide +kernel
theorem dX7_changes_7 : decode cX7_changes 7 = .ok (.aload_n 0, 1) := by decide +kernel
theorem dX7_changes_8 : decode cX7_changes 8 = .ok (.getfield 64, 3) := by decide +kernel
theorem dX7_changes_11 : decode cX7_changes 11 = .ok (.if_icmp .ge 41, 3) := by decide +kernel
theorem dX7_changes_14 : decode cX7_changes 14 = .ok (.aload_n 0, 1) := by decide +kernel
theorem dX7_changes_15 : decode cX7_changes 15 = .ok (.getfield 13, 3) := by decide +kernel
theorem dX7_changes_18 : decode cX7_changes 18 = .ok (.bipush 20, 2) := by decide +kernel
theorem dX7_changes_20 : decode cX7_changes 20 = .ok (.iload_n 2, 1) := by decide +kernel
theorem dX7_changes_21 : decode cX7_changes 21 = .ok (.iadd, 1) := by decide +kernel
theorem dX7_changes_22 : decode cX7_changes 22 = .ok (.aload_n 0, 1) := by decide +kernel
theorem dX7_changes_23 : decode cX7_changes 23 = .ok (.getfield 26, 3) := by decide +kernel
theorem dX7_changes_26 : decode cX7_changes 26 = .ok (.aload_n 0, 1) := by decide +kernel
theorem dX7_changes_27 : decode cX7_changes 27 = .ok (.aload_n 0, 1) := by decide +kernel
theorem dX7_changes_28 : decode cX7_changes 28 = .ok (.aload_n 0, 1) := by decide +kernel
theorem dX7_changes_29 : decode cX7_changes 29 = .ok (.getfield 13, 3) := by decide +kernel
theorem dX7_changes_32 : decode cX7_changes 32 = .ok (.bipush 20, 2) := by decide +kernel
theorem dX7_changes_34 : decode cX7_changes 34 = .ok (.iload_n 2, 1) := by decide +kernel
theorem dX7_changes_35 : decode cX7_changes 35 = .ok (.iadd, 1) := by decide +kernel
theorem dX7_changes_36 : decode cX7_changes 36 = .ok (.iaload, 1) := by decide +kernel
theorem dX7_changes_37 : decode cX7_changes 37 = .ok (.invokevirtual 164, 3) := by decide +kernel
theorem dX7_changes_40 : decode cX7_changes 40 = .ok (.iload_n 1, 1) := by decide +kernel
theorem dX7_changes_41 : decode cX7_changes 41 = .ok (.invokevirtual 170, 3) := by decide +kernel
theorem dX7_changes_44 : decode cX7_changes 44 = .ok (.iaload, 1) := by decide +kernel
theorem dX7_changes_45 : decode cX7_changes 45 = .ok (.iastore, 1) := by decide +kernel
theorem dX7_changes_46 : decode cX7_changes 46 = .ok (.iinc 2 1, 3) := by decide +kernel
theorem dX7_changes_49 : decode cX7_changes 49 = .ok (.goto (-43), 3) := by decide +kernel
theorem dX7_changes_52 : decode cX7_changes 52 = .ok (.return_, 1) := by decide +kernel
theorem dX7_danceOn_0 : decode cX7_danceOn 0 = .ok (.aload_n 0, 1) := by decide +kernel
theorem dX7_danceOn_1 : decode cX7_danceOn 1 = .ok (.iload_n 1, 1) := by decide +kernel
theorem dX7_danceOn_2 : decode cX7_danceOn 2 = .ok (.invokevirtual 173, 3) := by decide +kernel
theorem dX7_danceOn_5 : decode cX7_danceOn 5 = .ok (.iconst 0, 1) := by decide +kernel
theorem dX7_danceOn_6 : decode cX7_danceOn 6 = .ok (.istore_n 2, 1) := by decide +kernel
theorem dX7_danceOn_7 : decode cX7_danceOn 7 = .ok (.iload_n 2, 1) := by decide +kernel
theorem dX7_danceOn_8 : decode cX7_danceOn 8 = .ok (.aload_n 0, 1) := by decide +kernel
theorem dX7_danceOn_9 : decode cX7_danceOn 9 = .ok (.getfield 64, 3) := by decide +kernel
theorem dX7_danceOn_12 : decode cX7_danceOn 12 = .ok (.if_icmp .ge 91, 3) := by decide +kernel
theorem dX7_danceOn_15 : decode cX7_danceOn 15 = .ok (.aload_n 0, 1) := by decide +kernel
theorem dX7_danceOn_16 : decode cX7_danceOn 16 = .ok (.iload_n 2, 1) := by decide +kernel
theorem dX7_danceOn_17 : decode cX7_danceOn 17 = .ok (.iconst 0, 1) := by decide +kernel
theorem dX7_danceOn_18 : decode cX7_danceOn 18 = .ok (.invokevirtual 150, 3) := by decide +kernel
theorem dX7_danceOn_21 : decode cX7_danceOn 21 = .ok (.istore_n 3, 1) := by decide +kernel
theorem dX7_danceOn_22 : decode cX7_danceOn 22 = .ok (.iload_n 3, 1) := by decide +kernel
theorem dX7_danceOn_23 : decode cX7_danceOn 23 = .ok (.iconst 1, 1) := by decide +kernel
theorem dX7_danceOn_24 : decode cX7_danceOn 24 = .ok (.if_icmp .ne 24, 3) := by decide +kernel
theorem dX7_danceOn_27 : decode cX7_danceOn 27 = .ok (.aload_n 0, 1) := by decide +kernel
theorem dX7_danceOn_28 : decode cX7_danceOn 28 = .ok (.getfield 13, 3) := by decide +kernel
theorem dX7_danceOn_31 : decode cX7_danceOn 31 = .ok (.bipush 30, 2) := by decide +kernel
theorem dX7_danceOn_33 : decode cX7_danceOn 33 = .ok (.iaload, 1) := by decide +kernel
theorem dX7_danceOn_34 : decode cX7_danceOn 34 = .ok (.iconst 2, 1) := by decide +kernel
theorem dX7_danceOn_35 : decode cX7_danceOn 35 = .ok (.irem, 1) := by decide +kernel
theorem dX7_danceOn_36 : decode cX7_danceOn 36 = .ok (.iconst 1, 1) := by decide +kernel
theorem dX7_danceOn_37 : decode cX7_danceOn 37 = .ok (.if_icmp .ne 7, 3) := by decide +kernel
theorem dX7_danceOn_40 : decode cX7_danceOn 40 = .ok (.iconst 1, 1) := by decide +kernel
theorem dX7_danceOn_41 : decode cX7_danceOn 41 = .ok (.goto 17, 3) := by decide +kernel
theorem dX7_danceOn_44 : decode cX7_danceOn 44 = .ok (.iconst 0, 1) := by decide +kernel
theorem dX7_danceOn_45 : decode cX7_danceOn 45 = .ok (.goto 13, 3) := by decide +kernel
theorem dX7_danceOn_48 : decode cX7_danceOn 48 = .ok (.iload_n 3, 1) := by decide +kernel
theorem dX7_danceOn_49 : decode cX7_danceOn 49 = .ok (.iconst 3, 1) := by decide +kernel
theorem dX7_danceOn_50 : decode cX7_danceOn 50 = .ok (.if_icmp .eq 7, 3) := by decide +kernel
theorem dX7_danceOn_53 : decode cX7_danceOn 53 = .ok (.iconst 1, 1) := by decide +kernel
theorem dX7_danceOn_54 : decode cX7_danceOn 54 = .ok (.goto 4, 3) := by decide +kernel
theorem dX7_danceOn_57 : decode cX7_danceOn 57 = .ok (.iconst 0, 1) := by decide +kernel
theorem dX7_danceOn_58 : decode cX7_danceOn 58 = .ok (.istore 4, 2) := by decide +kernel
theorem dX7_danceOn_60 : decode cX7_danceOn 60 = .ok (.aload_n 0, 1) := by decide +kernel
theorem dX7_danceOn_61 : decode cX7_danceOn 61 = .ok (.iload_n 2, 1) := by decide +kernel
theorem dX7_danceOn_62 : decode cX7_danceOn 62 = .ok (.iconst 2, 1) := by decide +kernel
theorem dX7_danceOn_63 : decode cX7_danceOn 63 = .ok (.iload 4, 2) := by decide +kernel
theorem dX7_danceOn_65 : decode cX7_danceOn 65 = .ok (.ifCond .eq 23, 3) := by decide +kernel
theorem dX7_danceOn_68 : decode cX7_danceOn 68 = .ok (.aload_n 0, 1) := by decide +kernel
theorem dX7_danceOn_69 : decode cX7_danceOn 69 = .ok (.iload_n 2, 1) := by decide +kernel
theorem dX7_danceOn_70 : decode cX7_danceOn 70 = .ok (.iconst 2, 1) := by decide +kernel
theorem dX7_danceOn_71 : decode cX7_danceOn 71 = .ok (.invokevirtual 150, 3) := by decide +kernel
theorem dX7_danceOn_74 : decode cX7_danceOn 74 = .ok (.ifCond .le 14, 3) := by decide +kernel
theorem dX7_danceOn_77 : decode cX7_danceOn 77 = .ok (.aload_n 0, 1) := by decide +kernel
theorem dX7_danceOn_78 : decode cX7_danceOn 78 = .ok (.iload_n 2, 1) := by decide +kernel
theorem dX7_danceOn_79 : decode cX7_danceOn 79 = .ok (.iconst 2, 1) := by decide +kernel
theorem dX7_danceOn_80 : decode cX7_danceOn 80 = .ok (.invokevirtual 150, 3) := by decide +kernel
theorem dX7_danceOn_83 : decode cX7_danceOn 83 = .ok (.iconst 1, 1) := by decide +kernel
theorem dX7_danceOn_84 : decode cX7_danceOn 84 = .ok (.isub, 1) := by decide +kernel
theorem dX7_danceOn_85 : decode cX7_danceOn 85 = .ok (.goto 9, 3) := by decide +kernel
theorem dX7_danceOn_88 : decode cX7_danceOn 88 = .ok (.aload_n 0, 1) := by decide +kernel
theorem dX7_danceOn_89 : decode cX7_danceOn 89 = .ok (.iload_n 2, 1) := by decide +kernel
theorem dX7_danceOn_90 : decode cX7_danceOn 90 = .ok (.iconst 2, 1) := by decide +kernel
theorem dX7_danceOn_91 : decode cX7_danceOn 91 = .ok (.invokevirtual 150, 3) := by decide +kernel
theorem dX7_danceOn_94 : decode cX7_danceOn 94 = .ok (.invokevirtual 176, 3) := by decide +kernel
theorem dX7_danceOn_97 : decode cX7_danceOn 97 = .ok (.iinc 2 1, 3) := by decide +kernel
theorem dX7_danceOn_100 : decode cX7_danceOn 100 = .ok (.goto (-93), 3) := by decide +kernel
theorem dX7_danceOn_103 : decode cX7_danceOn 103 = .ok (.iconst 0, 1) := by decide +kernel
theorem dX7_danceOn_104 : decode cX7_danceOn 104 = .ok (.istore_n 2, 1) := by decide +kernel
theorem dX7_danceOn_105 : decode cX7_danceOn 105 = .ok (.iload_n 2, 1) := by decide +kernel
theorem dX7_danceOn_106 : decode cX7_danceOn 106 = .ok (.aload_n 0, 1) := by decide +kernel
theorem dX7_danceOn_107 : decode cX7_danceOn 107 = .ok (.getfield 64, 3) := by decide +kernel
theorem dX7_danceOn_110 : decode cX7_danceOn 110 = .ok (.if_icmp .ge 56, 3) := by decide +kernel
theorem dX7_danceOn_113 : decode cX7_danceOn 113 = .ok (.aload_n 0, 1) := by decide +kernel
theorem dX7_danceOn_114 : decode cX7_danceOn 114 = .ok (.getfield 13, 3) := by decide +kernel
theorem dX7_danceOn_117 : decode cX7_danceOn 117 = .ok (.bipush 20, 2) := by decide +kernel
theorem dX7_danceOn_119 : decode cX7_danceOn 119 = .ok (.iload_n 2, 1) := by decide +kernel
theorem dX7_danceOn_120 : decode cX7_danceOn 120 = .ok (.iadd, 1) := by decide +kernel
theorem dX7_danceOn_121 : decode cX7_danceOn 121 = .ok (.iaload, 1) := by decide +kernel
theorem dX7_danceOn_122 : decode cX7_danceOn 122 = .ok (.iload_n 2, 1) := by decide +kernel
theorem dX7_danceOn_123 : decode cX7_danceOn 123 = .ok (.if_icmp .ne 18, 3) := by decide +kernel
theorem dX7_danceOn_126 : decode cX7_danceOn 126 = .ok (.aload_n 0, 1) := by decide +kernel
theorem dX7_danceOn_127 : decode cX7_danceOn 127 = .ok (.iload_n 2, 1) := by decide +kernel
theorem dX7_danceOn_128 : decode cX7_danceOn 128 = .ok (.iconst 3, 1) := by decide +kernel
theorem dX7_danceOn_129 : decode cX7_danceOn 129 = .ok (.invokevirtual 150, 3) := by decide +kernel
theorem dX7_danceOn_132 : decode cX7_danceOn 132 = .ok (.bipush 9, 2) := by decide +kernel
theorem dX7_danceOn_134 : decode cX7_danceOn 134 = .ok (.if_icmp .ge 7, 3) := by decide +kernel
theorem dX7_danceOn_137 : decode cX7_danceOn 137 = .ok (.iconst 1, 1) := by decide +kernel
theorem dX7_danceOn_138 : decode cX7_danceOn 138 = .ok (.goto 4, 3) := by decide +kernel
theorem dX7_danceOn_141 : decode cX7_danceOn 141 = .ok (.iconst 0, 1) := by decide +kernel
theorem dX7_danceOn_142 : decode cX7_danceOn 142 = .ok (.istore_n 3, 1) := by decide +kernel
theorem dX7_danceOn_143 : decode cX7_danceOn 143 = .ok (.aload_n 0, 1) := by decide +kernel
theorem dX7_danceOn_144 : decode cX7_danceOn 144 = .ok (.iload_n 2, 1) := by decide +kernel
theorem dX7_danceOn_145 : decode cX7_danceOn 145 = .ok (.iconst 3, 1) := by decide +kernel
theorem dX7_danceOn_146 : decode cX7_danceOn 146 = .ok (.aload_n 0, 1) := by decide +kernel
theorem dX7_danceOn_147 : decode cX7_danceOn 147 = .ok (.iload_n 2, 1) := by decide +kernel
theorem dX7_danceOn_148 : decode cX7_danceOn 148 = .ok (.iconst 3, 1) := by decide +kernel
theorem dX7_danceOn_149 : decode cX7_danceOn 149 = .ok (.invokevirtual 150, 3) := by decide +kernel
theorem dX7_danceOn_152 : decode cX7_danceOn 152 = .ok (.iload_n 3, 1) := by decide +kernel
theorem dX7_danceOn_153 : decode cX7_danceOn 153 = .ok (.invokestatic 160, 3) := by decide +kernel
theorem dX7_danceOn_156 : decode cX7_danceOn 156 = .ok (.iadd, 1) := by decide +kernel
theorem dX7_danceOn_157 : decode cX7_danceOn 157 = .ok (.invokevirtual 176, 3) := by decide +kernel
theorem dX7_danceOn_160 : decode cX7_danceOn 160 = .ok (.iinc 2 1, 3) := by decide +kernel
theorem dX7_danceOn_163 : decode cX7_danceOn 163 = .ok (.goto (-58), 3) := by decide +kernel
theorem dX7_danceOn_166 : decode cX7_danceOn 166 = .ok (.aload_n 0, 1) := by decide +kernel
theorem dX7_danceOn_167 : decode cX7_danceOn 167 = .ok (.getfield 13, 3) := by decide +kernel
theorem dX7_danceOn_170 : decode cX7_danceOn 170 = .ok (.bipush 30, 2) := by decide +kernel
theorem dX7_danceOn_172 : decode cX7_danceOn 172 = .ok (.dup2, 1) := by decide +kernel
theorem dX7_danceOn_173 : decode cX7_danceOn 173 = .ok (.iaload, 1) := by decide +kernel
theorem dX7_danceOn_174 : decode cX7_danceOn 174 = .ok (.aload_n 0, 1) := by decide +kernel
theorem dX7_danceOn_175 : decode cX7_danceOn 175 = .ok (.getfield 13, 3) := by decide +kernel
theorem dX7_danceOn_178 : decode cX7_danceOn 178 = .ok (.bipush 30, 2) := by decide +kernel
theorem dX7_danceOn_180 : decode cX7_danceOn 180 = .ok (.iaload, 1) := by decide +kernel
theorem dX7_danceOn_181 : decode cX7_danceOn 181 = .ok (.sipush 999, 3) := by decide +kernel
theorem dX7_danceOn_184 : decode cX7_danceOn 184 = .ok (.if_icmp .ge 7, 3) := by decide +kernel
theorem dX7_danceOn_187 : decode cX7_danceOn 187 = .ok (.iconst 1, 1) := by decide +kernel
theorem dX7_danceOn_188 : decode cX7_danceOn 188 = .ok (.goto 4, 3) := by decide +kernel
theorem dX7_danceOn_191 : decode cX7_danceOn 191 = .ok (.iconst 0, 1) := by decide +kernel
theorem dX7_danceOn_192 : decode cX7_danceOn 192 = .ok (.invokestatic 160, 3) := by decide +kernel
theorem dX7_danceOn_195 : decode cX7_danceOn 195 = .ok (.iadd, 1) := by decide +kernel
theorem dX7_danceOn_196 : decode cX7_danceOn 196 = .ok (.iastore, 1) := by decide +kernel
theorem dX7_danceOn_197 : decode cX7_danceOn 197 = .ok (.return_, 1) := by decide +kernel
theorem dX7_round_0 : decode cX7_round 0 = .ok (.iconst 0, 1) := by decide +kernel
theorem dX7_round_1 : decode cX7_round 1 = .ok (.istore_n 1, 1) := by decide +kernel
theorem dX7_round_2 : decode cX7_round 2 = .ok (.iconst 0, 1) := by decide +kernel
theorem dX7_round_3 : decode cX7_round 3 = .ok (.istore_n 2, 1) := by decide +kernel
theorem dX7_round_4 : decode cX7_round 4 = .ok (.iload_n 2, 1) := by decide +kernel
theorem dX7_round_5 : decode cX7_round 5 = .ok (.aload_n 0, 1) := by decide +kernel
theorem dX7_round_6 : decode cX7_round 6 = .ok (.getfield 64, 3) := by decide +kernel
theorem dX7_round_9 : decode cX7_round 9 = .ok (.if_icmp .ge 35, 3) := by decide +kernel
theorem dX7_round_12 : decode cX7_round 12 = .ok (.iload_n 1, 1) := by decide +kernel
theorem dX7_round_13 : decode cX7_round 13 = .ok (.aload_n 0, 1) := by decide +kernel
theorem dX7_round_14 : decode cX7_round 14 = .ok (.getfield 13, 3) := by decide +kernel
theorem dX7_round_17 : decode cX7_round 17 = .ok (.bipush 20, 2) := by decide +kernel
theorem dX7_round_19 : decode cX7_round 19 = .ok (.iload_n 2, 1) := by decide +kernel
theorem dX7_round_20 : decode cX7_round 20 = .ok (.iadd, 1) := by decide +kernel
theorem dX7_round_21 : decode cX7_round 21 = .ok (.iaload, 1) := by decide +kernel
theorem dX7_round_22 : decode cX7_round 22 = .ok (.iload_n 2, 1) := by decide +kernel
theorem dX7_round_23 : decode cX7_round 23 = .ok (.if_icmp .ne 7, 3) := by decide +kernel
theorem dX7_round_26 : decode cX7_round 26 = .ok (.iconst 1, 1) := by decide +kernel
theorem dX7_round_27 : decode cX7_round 27 = .ok (.goto 4, 3) := by decide +kernel
theorem dX7_round_30 : decode cX7_round 30 = .ok (.iconst 0, 1) := by decide +kernel
theorem dX7_round_31 : decode cX7_round 31 = .ok (.invokestatic 160, 3) := by decide +kernel
theorem dX7_round_34 : decode cX7_round 34 = .ok (.iload_n 2, 1) := by decide +kernel
theorem dX7_round_35 : decode cX7_round 35 = .ok (.ishl, 1) := by decide +kernel
theorem dX7_round_36 : decode cX7_round 36 = .ok (.ior, 1) := by decide +kernel
theorem dX7_round_37 : decode cX7_round 37 = .ok (.istore_n 1, 1) := by decide +kernel
theorem dX7_round_38 : decode cX7_round 38 = .ok (.iinc 2 1, 3) := by decide +kernel
theorem dX7_round_41 : decode cX7_round 41 = .ok (.goto (-37), 3) := by decide +kernel
theorem dX7_round_44 : decode cX7_round 44 = .ok (.iload_n 1, 1) := by decide +kernel
theorem dX7_round_45 : decode cX7_round 45 = .ok (.ireturn, 1) := by decide +kernel
theorem dX7_bitsOf_0 : decode cX7_bitsOf 0 = .ok (.iconst 0, 1) := by decide +kernel
theorem dX7_bitsOf_1 : decode cX7_bitsOf 1 = .ok (.istore_n 1, 1) := by decide +kernel
theorem dX7_bitsOf_2 : decode cX7_bitsOf 2 = .ok (.iconst 0, 1) := by decide +kernel
theorem dX7_bitsOf_3 : decode cX7_bitsOf 3 = .ok (.istore_n 2, 1) := by decide +kernel
theorem dX7_bitsOf_4 : decode cX7_bitsOf 4 = .ok (.iload_n 2, 1) := by decide +kernel
theorem dX7_bitsOf_5 : decode cX7_bitsOf 5 = .ok (.bipush 8, 2) := by decide +kernel
theorem dX7_bitsOf_7 : decode cX7_bitsOf 7 = .ok (.if_icmp .ge 17, 3) := by decide +kernel
theorem dX7_bitsOf_10 : decode cX7_bitsOf 10 = .ok (.iload_n 1, 1) := by decide +kernel
theorem dX7_bitsOf_11 : decode cX7_bitsOf 11 = .ok (.iload_n 0, 1) := by decide +kernel
theorem dX7_bitsOf_12 : decode cX7_bitsOf 12 = .ok (.iload_n 2, 1) := by decide +kernel
theorem dX7_bitsOf_13 : decode cX7_bitsOf 13 = .ok (.ishr, 1) := by decide +kernel
theorem dX7_bitsOf_14 : decode cX7_bitsOf 14 = .ok (.iconst 1, 1) := by decide +kernel
theorem dX7_bitsOf_15 : decode cX7_bitsOf 15 = .ok (.iand, 1) := by decide +kernel
theorem dX7_bitsOf_16 : decode cX7_bitsOf 16 = .ok (.iadd, 1) := by decide +kernel
theorem dX7_bitsOf_17 : decode cX7_bitsOf 17 = .ok (.istore_n 1, 1) := by decide +kernel
theorem dX7_bitsOf_18 : decode cX7_bitsOf 18 = .ok (.iinc 2 1, 3) := by decide +kernel
theorem dX7_bitsOf_21 : decode cX7_bitsOf 21 = .ok (.goto (-17), 3) := by decide +kernel
theorem dX7_bitsOf_24 : decode cX7_bitsOf 24 = .ok (.iload_n 1, 1) := by decide +kernel
theorem dX7_bitsOf_25 : decode cX7_bitsOf 25 = .ok (.ireturn, 1) := by decide +kernel
theorem dX7_meetings_0 : decode cX7_meetings 0 = .ok (.iconst 0, 1) := by decide +kernel
theorem dX7_meetings_1 : decode cX7_meetings 1 = .ok (.istore_n 1, 1) := by decide +kernel
theorem dX7_meetings_2 : decode cX7_meetings 2 = .ok (.iconst 0, 1) := by decide +kernel
theorem dX7_meetings_3 : decode cX7_meetings 3 = .ok (.istore_n 2, 1) := by decide +kernel
theorem dX7_meetings_4 : decode cX7_meetings 4 = .ok (.iload_n 2, 1) := by decide +kernel
theorem dX7_meetings_5 : decode cX7_meetings 5 = .ok (.aload_n 0, 1) := by decide +kernel
theorem dX7_meetings_6 : decode cX7_meetings 6 = .ok (.getfield 64, 3) := by decide +kernel
theorem dX7_meetings_9 : decode cX7_meetings 9 = .ok (.if_icmp .ge 33, 3) := by decide +kernel
theorem dX7_meetings_12 : decode cX7_meetings 12 = .ok (.iload_n 1, 1) := by decide +kernel
theorem dX7_meetings_13 : decode cX7_meetings 13 = .ok (.aload_n 0, 1) := by decide +kernel
theorem dX7_meetings_14 : decode cX7_meetings 14 = .ok (.getfield 13, 3) := by decide +kernel
theorem dX7_meetings_17 : decode cX7_meetings 17 = .ok (.bipush 25, 2) := by decide +kernel
theorem dX7_meetings_19 : decode cX7_meetings 19 = .ok (.iload_n 2, 1) := by decide +kernel
theorem dX7_meetings_20 : decode cX7_meetings 20 = .ok (.iadd, 1) := by decide +kernel
theorem dX7_meetings_21 : decode cX7_meetings 21 = .ok (.iaload, 1) := by decide +kernel
theorem dX7_meetings_22 : decode cX7_meetings 22 = .ok (.aload_n 0, 1) := by decide +kernel
theorem dX7_meetings_23 : decode cX7_meetings 23 = .ok (.getfield 13, 3) := by decide +kernel
theorem dX7_meetings_26 : decode cX7_meetings 26 = .ok (.bipush 20, 2) := by decide +kernel
theorem dX7_meetings_28 : decode cX7_meetings 28 = .ok (.iload_n 2, 1) := by decide +kernel
theorem dX7_meetings_29 : decode cX7_meetings 29 = .ok (.iadd, 1) := by decide +kernel
theorem dX7_meetings_30 : decode cX7_meetings 30 = .ok (.iaload, 1) := by decide +kernel
theorem dX7_meetings_31 : decode cX7_meetings 31 = .ok (.ishr, 1) := by decide +kernel
theorem dX7_meetings_32 : decode cX7_meetings 32 = .ok (.iconst 1, 1) := by decide +kernel
theorem dX7_meetings_33 : decode cX7_meetings 33 = .ok (.iand, 1) := by decide +kernel
theorem dX7_meetings_34 : decode cX7_meetings 34 = .ok (.iadd, 1) := by decide +kernel
theorem dX7_meetings_35 : decode cX7_meetings 35 = .ok (.istore_n 1, 1) := by decide +kernel
theorem dX7_meetings_36 : decode cX7_meetings 36 = .ok (.iinc 2 1, 3) := by decide +kernel
theorem dX7_meetings_39 : decode cX7_meetings 39 = .ok (.goto (-35), 3) := by decide +kernel
theorem dX7_meetings_42 : decode cX7_meetings 42 = .ok (.iload_n 1, 1) := by decide +kernel
theorem dX7_meetings_43 : decode cX7_meetings 43 = .ok (.ireturn, 1) := by decide +kernel
theorem dX7_allOf_0 : decode cX7_allOf 0 = .ok (.iconst 0, 1) := by decide +kernel
theorem dX7_allOf_1 : decode cX7_allOf 1 = .ok (.istore_n 2, 1) := by decide +kernel
theorem dX7_allOf_2 : decode cX7_allOf 2 = .ok (.iconst 0, 1) := by decide +kernel
theorem dX7_allOf_3 : decode cX7_allOf 3 = .ok (.istore_n 3, 1) := by decide +kernel
theorem dX7_allOf_4 : decode cX7_allOf 4 = .ok (.iload_n 3, 1) := by decide +kernel
theorem dX7_allOf_5 : decode cX7_allOf 5 = .ok (.aload_n 0, 1) := by decide +kernel
theorem dX7_allOf_6 : decode cX7_allOf 6 = .ok (.getfield 64, 3) := by decide +kernel
theorem dX7_allOf_9 : decode cX7_allOf 9 = .ok (.if_icmp .ge 18, 3) := by decide +kernel
theorem dX7_allOf_12 : decode cX7_allOf 12 = .ok (.iload_n 2, 1) := by decide +kernel
theorem dX7_allOf_13 : decode cX7_allOf 13 = .ok (.aload_n 0, 1) := by decide +kernel
theorem dX7_allOf_14 : decode cX7_allOf 14 = .ok (.iload_n 3, 1) := by decide +kernel
theorem dX7_allOf_15 : decode cX7_allOf 15 = .ok (.iload_n 1, 1) := by decide +kernel
theorem dX7_allOf_16 : decode cX7_allOf 16 = .ok (.invokevirtual 150, 3) := by decide +kernel
theorem dX7_allOf_19 : decode cX7_allOf 19 = .ok (.iadd, 1) := by decide +kernel
theorem dX7_allOf_20 : decode cX7_allOf 20 = .ok (.istore_n 2, 1) := by decide +kernel
theorem dX7_allOf_21 : decode cX7_allOf 21 = .ok (.iinc 3 1, 3) := by decide +kernel
theorem dX7_allOf_24 : decode cX7_allOf 24 = .ok (.goto (-20), 3) := by decide +kernel
theorem dX7_allOf_27 : decode cX7_allOf 27 = .ok (.iload_n 2, 1) := by decide +kernel
theorem dX7_allOf_28 : decode cX7_allOf 28 = .ok (.ireturn, 1) := by decide +kernel
theorem dX7_programGoes_0 : decode cX7_programGoes 0 = .ok (.iconst 0, 1) := by decide +kernel
theorem dX7_programGoes_1 : decode cX7_programGoes 1 = .ok (.istore_n 1, 1) := by decide +kernel
theorem dX7_programGoes_2 : decode cX7_programGoes 2 = .ok (.iload_n 1, 1) := by decide +kernel
theorem dX7_programGoes_3 : decode cX7_programGoes 3 = .ok (.aload_n 0, 1) := by decide +kernel
theorem dX7_programGoes_4 : decode cX7_programGoes 4 = .ok (.getfield 13, 3) := by decide +kernel
theorem dX7_programGoes_7 : decode cX7_programGoes 7 = .ok (.bipush 31, 2) := by decide +kernel
theorem dX7_programGoes_9 : decode cX7_programGoes 9 = .ok (.iaload, 1) := by decide +kernel
theorem dX7_programGoes_10 : decode cX7_programGoes 10 = .ok (.if_icmp .ge 22, 3) := by decide +kernel
theorem dX7_programGoes_13 : decode cX7_programGoes 13 = .ok (.aload_n 0, 1) := by decide +kernel
theorem dX7_programGoes_14 : decode cX7_programGoes 14 = .ok (.aload_n 0, 1) := by decide +kernel
theorem dX7_programGoes_15 : decode cX7_programGoes 15 = .ok (.getfield 13, 3) := by decide +kernel
theorem dX7_programGoes_18 : decode cX7_programGoes 18 = .ok (.bipush 32, 2) := by decide +kernel
theorem dX7_programGoes_20 : decode cX7_programGoes 20 = .ok (.iload_n 1, 1) := by decide +kernel
theorem dX7_programGoes_21 : decode cX7_programGoes 21 = .ok (.iadd, 1) := by decide +kernel
theorem dX7_programGoes_22 : decode cX7_programGoes 22 = .ok (.iaload, 1) := by decide +kernel
theorem dX7_programGoes_23 : decode cX7_programGoes 23 = .ok (.invokevirtual 180, 3) := by decide +kernel
theorem dX7_programGoes_26 : decode cX7_programGoes 26 = .ok (.iinc 1 1, 3) := by decide +kernel
theorem dX7_programGoes_29 : decode cX7_programGoes 29 = .ok (.goto (-27), 3) := by decide +kernel
theorem dX7_programGoes_32 : decode cX7_programGoes 32 = .ok (.return_, 1) := by decide +kernel
theorem dX7_kinMany_0 : decode cX7_kinMany 0 = .ok (.iconst 0, 1) := by decide +kernel
theorem dX7_kinMany_1 : decode cX7_kinMany 1 = .ok (.istore_n 1, 1) := by decide +kernel
theorem dX7_kinMany_2 : decode cX7_kinMany 2 = .ok (.iconst 0, 1) := by decide +kernel
theorem dX7_kinMany_3 : decode cX7_kinMany 3 = .ok (.istore_n 2, 1) := by decide +kernel
theorem dX7_kinMany_4 : decode cX7_kinMany 4 = .ok (.iload_n 2, 1) := by decide +kernel
theorem dX7_kinMany_5 : decode cX7_kinMany 5 = .ok (.iconst 5, 1) := by decide +kernel
theorem dX7_kinMany_6 : decode cX7_kinMany 6 = .ok (.if_icmp .ge 24, 3) := by decide +kernel
theorem dX7_kinMany_9 : decode cX7_kinMany 9 = .ok (.iload_n 1, 1) := by decide +kernel
theorem dX7_kinMany_10 : decode cX7_kinMany 10 = .ok (.aload_n 0, 1) := by decide +kernel
theorem dX7_kinMany_11 : decode cX7_kinMany 11 = .ok (.getfield 7, 3) := by decide +kernel
theorem dX7_kinMany_14 : decode cX7_kinMany 14 = .ok (.bipush 25, 2) := by decide +kernel
theorem dX7_kinMany_16 : decode cX7_kinMany 16 = .ok (.iload_n 2, 1) := by decide +kernel
theorem dX7_kinMany_17 : decode cX7_kinMany 17 = .ok (.iadd, 1) := by decide +kernel
theorem dX7_kinMany_18 : decode cX7_kinMany 18 = .ok (.iaload, 1) := by decide +kernel
theorem dX7_kinMany_19 : decode cX7_kinMany 19 = .ok (.invokestatic 183, 3) := by decide +kernel
theorem dX7_kinMany_22 : decode cX7_kinMany 22 = .ok (.iadd, 1) := by decide +kernel
theorem dX7_kinMany_23 : decode cX7_kinMany 23 = .ok (.istore_n 1, 1) := by decide +kernel
theorem dX7_kinMany_24 : decode cX7_kinMany 24 = .ok (.iinc 2 1, 3) := by decide +kernel
theorem dX7_kinMany_27 : decode cX7_kinMany 27 = .ok (.goto (-23), 3) := by decide +kernel
theorem dX7_kinMany_30 : decode cX7_kinMany 30 = .ok (.iload_n 1, 1) := by decide +kernel
theorem dX7_kinMany_31 : decode cX7_kinMany 31 = .ok (.ireturn, 1) := by decide +kernel
theorem dX7_rule_0 : decode cX7_rule 0 = .ok (.aload_n 0, 1) := by decide +kernel
theorem dX7_rule_1 : decode cX7_rule 1 = .ok (.invokevirtual 186, 3) := by decide +kernel
theorem dX7_rule_4 : decode cX7_rule 4 = .ok (.iload_n 1, 1) := by decide +kernel
theorem dX7_rule_5 : decode cX7_rule 5 = .ok (.tableswitch 66 0 4 #[35, 40, 45, 53, 61], 35) := by decide +kernel
theorem dX7_rule_40 : decode cX7_rule 40 = .ok (.aload_n 0, 1) := by decide +kernel
theorem dX7_rule_41 : decode cX7_rule 41 = .ok (.getfield 64, 3) := by decide +kernel
theorem dX7_rule_44 : decode cX7_rule 44 = .ok (.ireturn, 1) := by decide +kernel
theorem dX7_rule_45 : decode cX7_rule 45 = .ok (.aload_n 0, 1) := by decide +kernel
theorem dX7_rule_46 : decode cX7_rule 46 = .ok (.invokevirtual 189, 3) := by decide +kernel
theorem dX7_rule_49 : decode cX7_rule 49 = .ok (.ireturn, 1) := by decide +kernel
theorem dX7_rule_50 : decode cX7_rule 50 = .ok (.aload_n 0, 1) := by decide +kernel
theorem dX7_rule_51 : decode cX7_rule 51 = .ok (.getfield 7, 3) := by decide +kernel
theorem dX7_rule_54 : decode cX7_rule 54 = .ok (.bipush 31, 2) := by decide +kernel
theorem dX7_rule_56 : decode cX7_rule 56 = .ok (.iaload, 1) := by decide +kernel
theorem dX7_rule_57 : decode cX7_rule 57 = .ok (.ireturn, 1) := by decide +kernel
theorem dX7_rule_58 : decode cX7_rule 58 = .ok (.aload_n 0, 1) := by decide +kernel
theorem dX7_rule_59 : decode cX7_rule 59 = .ok (.getfield 7, 3) := by decide +kernel
theorem dX7_rule_62 : decode cX7_rule 62 = .ok (.bipush 30, 2) := by decide +kernel
theorem dX7_rule_64 : decode cX7_rule 64 = .ok (.iaload, 1) := by decide +kernel
theorem dX7_rule_65 : decode cX7_rule 65 = .ok (.ireturn, 1) := by decide +kernel
theorem dX7_rule_66 : decode cX7_rule 66 = .ok (.aload_n 0, 1) := by decide +kernel
theorem dX7_rule_67 : decode cX7_rule 67 = .ok (.invokevirtual 192, 3) := by decide +kernel
theorem dX7_rule_70 : decode cX7_rule 70 = .ok (.ireturn, 1) := by decide +kernel
theorem dX7_rule_71 : decode cX7_rule 71 = .ok (.iconst (-1), 1) := by decide +kernel
theorem dX7_rule_72 : decode cX7_rule 72 = .ok (.ireturn, 1) := by decide +kernel
theorem dX7_partnerOf_0 : decode cX7_partnerOf 0 = .ok (.bipush (-4), 2) := by decide +kernel
theorem dX7_partnerOf_2 : decode cX7_partnerOf 2 = .ok (.istore_n 2, 1) := by decide +kernel
theorem dX7_partnerOf_3 : decode cX7_partnerOf 3 = .ok (.iconst 0, 1) := by decide +kernel
theorem dX7_partnerOf_4 : decode cX7_partnerOf 4 = .ok (.istore_n 3, 1) := by decide +kernel
theorem dX7_partnerOf_5 : decode cX7_partnerOf 5 = .ok (.iload_n 3, 1) := by decide +kernel
theorem dX7_partnerOf_6 : decode cX7_partnerOf 6 = .ok (.aload_n 0, 1) := by decide +kernel
theorem dX7_partnerOf_7 : decode cX7_partnerOf 7 = .ok (.getfield 64, 3) := by decide +kernel
theorem dX7_partnerOf_10 : decode cX7_partnerOf 10 = .ok (.if_icmp .ge 28, 3) := by decide +kernel
theorem dX7_partnerOf_13 : decode cX7_partnerOf 13 = .ok (.aload_n 0, 1) := by decide +kernel
theorem dX7_partnerOf_14 : decode cX7_partnerOf 14 = .ok (.getfield 13, 3) := by decide +kernel
theorem dX7_partnerOf_17 : decode cX7_partnerOf 17 = .ok (.bipush 20, 2) := by decide +kernel
theorem dX7_partnerOf_19 : decode cX7_partnerOf 19 = .ok (.iload_n 3, 1) := by decide +kernel
theorem dX7_partnerOf_20 : decode cX7_partnerOf 20 = .ok (.iadd, 1) := by decide +kernel
theorem dX7_partnerOf_21 : decode cX7_partnerOf 21 = .ok (.iaload, 1) := by decide +kernel
theorem dX7_partnerOf_22 : decode cX7_partnerOf 22 = .ok (.iload_n 1, 1) := by decide +kernel
theorem dX7_partnerOf_23 : decode cX7_partnerOf 23 = .ok (.if_icmp .ne 7, 3) := by decide +kernel
theorem dX7_partnerOf_26 : decode cX7_partnerOf 26 = .ok (.iload_n 3, 1) := by decide +kernel
theorem dX7_partnerOf_27 : decode cX7_partnerOf 27 = .ok (.goto 4, 3) := by decide +kernel
theorem dX7_partnerOf_30 : decode cX7_partnerOf 30 = .ok (.iload_n 2, 1) := by decide +kernel
theorem dX7_partnerOf_31 : decode cX7_partnerOf 31 = .ok (.istore_n 2, 1) := by decide +kernel
theorem dX7_partnerOf_32 : decode cX7_partnerOf 32 = .ok (.iinc 3 1, 3) := by decide +kernel
theorem dX7_partnerOf_35 : decode cX7_partnerOf 35 = .ok (.goto (-30), 3) := by decide +kernel
theorem dX7_partnerOf_38 : decode cX7_partnerOf 38 = .ok (.iload_n 2, 1) := by decide +kernel
theorem dX7_partnerOf_39 : decode cX7_partnerOf 39 = .ok (.ireturn, 1) := by decide +kernel
theorem dX7_man_0 : decode cX7_man 0 = .ok (.aload_n 0, 1) := by decide +kernel
theorem dX7_man_1 : decode cX7_man 1 = .ok (.iload_n 1, 1) := by decide +kernel
theorem dX7_man_2 : decode cX7_man 2 = .ok (.invokevirtual 195, 3) := by decide +kernel
theorem dX7_man_5 : decode cX7_man 5 = .ok (.ifCond .ne 5, 3) := by decide +kernel
theorem dX7_man_8 : decode cX7_man 8 = .ok (.iconst (-1), 1) := by decide +kernel
theorem dX7_man_9 : decode cX7_man 9 = .ok (.ireturn, 1) := by decide +kernel
theorem dX7_man_10 : decode cX7_man 10 = .ok (.aload_n 0, 1) := by decide +kernel
theorem dX7_man_11 : decode cX7_man 11 = .ok (.invokevirtual 186, 3) := by decide +kernel
theorem dX7_man_14 : decode cX7_man 14 = .ok (.iload_n 2, 1) := by decide +kernel
theorem dX7_man_15 : decode cX7_man 15 = .ok (.tableswitch 68 0 6 #[41, 41, 41, 41, 48, 56, 62], 41) := by decide +kernel
theorem dX7_man_56 : decode cX7_man 56 = .ok (.aload_n 0, 1) := by decide +kernel
theorem dX7_man_57 : decode cX7_man 57 = .ok (.iload_n 1, 1) := by decide +kernel
theorem dX7_man_58 : decode cX7_man 58 = .ok (.iload_n 2, 1) := by decide +kernel
theorem dX7_man_59 : decode cX7_man 59 = .ok (.invokevirtual 150, 3) := by decide +kernel
theorem dX7_man_62 : decode cX7_man 62 = .ok (.ireturn, 1) := by decide +kernel
theorem dX7_man_63 : decode cX7_man 63 = .ok (.aload_n 0, 1) := by decide +kernel
theorem dX7_man_64 : decode cX7_man 64 = .ok (.iload_n 1, 1) := by decide +kernel
theorem dX7_man_65 : decode cX7_man 65 = .ok (.invokevirtual 153, 3) := by decide +kernel
theorem dX7_man_68 : decode cX7_man 68 = .ok (.iconst 2, 1) := by decide +kernel
theorem dX7_man_69 : decode cX7_man 69 = .ok (.iadd, 1) := by decide +kernel
theorem dX7_man_70 : decode cX7_man 70 = .ok (.ireturn, 1) := by decide +kernel
theorem dX7_man_71 : decode cX7_man 71 = .ok (.aload_n 0, 1) := by decide +kernel
theorem dX7_man_72 : decode cX7_man 72 = .ok (.iload_n 1, 1) := by decide +kernel
theorem dX7_man_73 : decode cX7_man 73 = .ok (.invokevirtual 164, 3) := by decide +kernel
theorem dX7_man_76 : decode cX7_man 76 = .ok (.ireturn, 1) := by decide +kernel
theorem dX7_man_77 : decode cX7_man 77 = .ok (.aload_n 0, 1) := by decide +kernel
theorem dX7_man_78 : decode cX7_man 78 = .ok (.iload_n 1, 1) := by decide +kernel
theorem dX7_man_79 : decode cX7_man 79 = .ok (.invokevirtual 199, 3) := by decide +kernel
theorem dX7_man_82 : decode cX7_man 82 = .ok (.ireturn, 1) := by decide +kernel
theorem dX7_man_83 : decode cX7_man 83 = .ok (.iconst (-1), 1) := by decide +kernel
theorem dX7_man_84 : decode cX7_man 84 = .ok (.ireturn, 1) := by decide +kernel
theorem dX7_woman_0 : decode cX7_woman 0 = .ok (.aload_n 0, 1) := by decide +kernel
theorem dX7_woman_1 : decode cX7_woman 1 = .ok (.iload_n 1, 1) := by decide +kernel
theorem dX7_woman_2 : decode cX7_woman 2 = .ok (.invokevirtual 195, 3) := by decide +kernel
theorem dX7_woman_5 : decode cX7_woman 5 = .ok (.ifCond .eq 15, 3) := by decide +kernel
theorem dX7_woman_8 : decode cX7_woman 8 = .ok (.aload_n 0, 1) := by decide +kernel
theorem dX7_woman_9 : decode cX7_woman 9 = .ok (.getfield 7, 3) := by decide +kernel
theorem dX7_woman_12 : decode cX7_woman 12 = .ok (.bipush 20, 2) := by decide +kernel
theorem dX7_woman_14 : decode cX7_woman 14 = .ok (.iload_n 1, 1) := by decide +kernel
theorem dX7_woman_15 : decode cX7_woman 15 = .ok (.iadd, 1) := by decide +kernel
theorem dX7_woman_16 : decode cX7_woman 16 = .ok (.iaload, 1) := by decide +kernel
theorem dX7_woman_17 : decode cX7_woman 17 = .ok (.goto 4, 3) := by decide +kernel
theorem dX7_woman_20 : decode cX7_woman 20 = .ok (.iconst (-1), 1) := by decide +kernel
theorem dX7_woman_21 : decode cX7_woman 21 = .ok (.ireturn, 1) := by decide +kernel
theorem dX7_at_0 : decode cX7_at 0 = .ok (.aload_n 0, 1) := by decide +kernel
theorem dX7_at_1 : decode cX7_at 1 = .ok (.iload_n 1, 1) := by decide +kernel
theorem dX7_at_2 : decode cX7_at 2 = .ok (.invokevirtual 195, 3) := by decide +kernel
theorem dX7_at_5 : decode cX7_at 5 = .ok (.ifCond .ne 5, 3) := by decide +kernel
theorem dX7_at_8 : decode cX7_at 8 = .ok (.iconst (-1), 1) := by decide +kernel
theorem dX7_at_9 : decode cX7_at 9 = .ok (.ireturn, 1) := by decide +kernel
theorem dX7_at_10 : decode cX7_at 10 = .ok (.aload_n 0, 1) := by decide +kernel
theorem dX7_at_11 : decode cX7_at 11 = .ok (.invokevirtual 186, 3) := by decide +kernel
theorem dX7_at_14 : decode cX7_at 14 = .ok (.aload_n 0, 1) := by decide +kernel
theorem dX7_at_15 : decode cX7_at 15 = .ok (.invokevirtual 167, 3) := by decide +kernel
theorem dX7_at_18 : decode cX7_at 18 = .ok (.aload_n 0, 1) := by decide +kernel
theorem dX7_at_19 : decode cX7_at 19 = .ok (.getfield 26, 3) := by decide +kernel
theorem dX7_at_22 : decode cX7_at 22 = .ok (.iload_n 1, 1) := by decide +kernel
theorem dX7_at_23 : decode cX7_at 23 = .ok (.iaload, 1) := by decide +kernel
theorem dX7_at_24 : decode cX7_at 24 = .ok (.ireturn, 1) := by decide +kernel
theorem dX7_figure_0 : decode cX7_figure 0 = .ok (.iload_n 1, 1) := by decide +kernel
theorem dX7_figure_1 : decode cX7_figure 1 = .ok (.i2l, 1) := by decide +kernel
theorem dX7_figure_2 : decode cX7_figure 2 = .ok (.lconst 0, 1) := by decide +kernel
theorem dX7_figure_3 : decode cX7_figure 3 = .ok (.aload_n 0, 1) := by decide +kernel
theorem dX7_figure_4 : decode cX7_figure 4 = .ok (.getfield 7, 3) := by decide +kernel
theorem dX7_figure_7 : decode cX7_figure 7 = .ok (.bipush 31, 2) := by decide +kernel
theorem dX7_figure_9 : decode cX7_figure 9 = .ok (.iaload, 1) := by decide +kernel
theorem dX7_figure_10 : decode cX7_figure 10 = .ok (.iconst 1, 1) := by decide +kernel
theorem dX7_figure_11 : decode cX7_figure 11 = .ok (.isub, 1) := by decide +kernel
theorem dX7_figure_12 : decode cX7_figure 12 = .ok (.i2l, 1) := by decide +kernel
theorem dX7_figure_13 : decode cX7_figure 13 = .ok (.invokestatic 69, 3) := by decide +kernel
theorem dX7_figure_16 : decode cX7_figure 16 = .ok (.ifCond .eq 15, 3) := by decide +kernel
theorem dX7_figure_19 : decode cX7_figure 19 = .ok (.aload_n 0, 1) := by decide +kernel
theorem dX7_figure_20 : decode cX7_figure 20 = .ok (.getfield 7, 3) := by decide +kernel
theorem dX7_figure_23 : decode cX7_figure 23 = .ok (.bipush 32, 2) := by decide +kernel
theorem dX7_figure_25 : decode cX7_figure 25 = .ok (.iload_n 1, 1) := by decide +kernel
theorem dX7_figure_26 : decode cX7_figure 26 = .ok (.iadd, 1) := by decide +kernel
theorem dX7_figure_27 : decode cX7_figure 27 = .ok (.iaload, 1) := by decide +kernel
theorem dX7_figure_28 : decode cX7_figure 28 = .ok (.goto 4, 3) := by decide +kernel
theorem dX7_figure_31 : decode cX7_figure 31 = .ok (.iconst (-1), 1) := by decide +kernel
theorem dX7_figure_32 : decode cX7_figure 32 = .ok (.ireturn, 1) := by decide +kernel
theorem dX7_cousins_0 : decode cX7_cousins 0 = .ok (.aload_n 0, 1) := by decide +kernel
theorem dX7_cousins_1 : decode cX7_cousins 1 = .ok (.iload_n 1, 1) := by decide +kernel
theorem dX7_cousins_2 : decode cX7_cousins 2 = .ok (.invokevirtual 195, 3) := by decide +kernel
theorem dX7_cousins_5 : decode cX7_cousins 5 = .ok (.ifCond .eq 15, 3) := by decide +kernel
theorem dX7_cousins_8 : decode cX7_cousins 8 = .ok (.aload_n 0, 1) := by decide +kernel
theorem dX7_cousins_9 : decode cX7_cousins 9 = .ok (.getfield 7, 3) := by decide +kernel
theorem dX7_cousins_12 : decode cX7_cousins 12 = .ok (.bipush 25, 2) := by decide +kernel
theorem dX7_cousins_14 : decode cX7_cousins 14 = .ok (.iload_n 1, 1) := by decide +kernel
theorem dX7_cousins_15 : decode cX7_cousins 15 = .ok (.iadd, 1) := by decide +kernel
theorem dX7_cousins_16 : decode cX7_cousins 16 = .ok (.iaload, 1) := by decide +kernel
theorem dX7_cousins_17 : decode cX7_cousins 17 = .ok (.goto 4, 3) := by decide +kernel
theorem dX7_cousins_20 : decode cX7_cousins 20 = .ok (.iconst (-1), 1) := by decide +kernel
theorem dX7_cousins_21 : decode cX7_cousins 21 = .ok (.ireturn, 1) := by decide +kernel
theorem dX7_becomes_0 : decode cX7_becomes 0 = .ok (.aload_n 0, 1) := by decide +kernel
theorem dX7_becomes_1 : decode cX7_becomes 1 = .ok (.getfield 7, 3) := by decide +kernel
theorem dX7_becomes_4 : decode cX7_becomes 4 = .ok (.iload_n 1, 1) := by decide +kernel
theorem dX7_becomes_5 : decode cX7_becomes 5 = .ok (.iaload, 1) := by decide +kernel
theorem dX7_becomes_6 : decode cX7_becomes 6 = .ok (.istore_n 3, 1) := by decide +kernel
theorem dX7_becomes_7 : decode cX7_becomes 7 = .ok (.aload_n 0, 1) := by decide +kernel
theorem dX7_becomes_8 : decode cX7_becomes 8 = .ok (.getfield 7, 3) := by decide +kernel
theorem dX7_becomes_11 : decode cX7_becomes 11 = .ok (.iload_n 1, 1) := by decide +kernel
theorem dX7_becomes_12 : decode cX7_becomes 12 = .ok (.iload_n 2, 1) := by decide +kernel
theorem dX7_becomes_13 : decode cX7_becomes 13 = .ok (.iastore, 1) := by decide +kernel
theorem dX7_becomes_14 : decode cX7_becomes 14 = .ok (.iload_n 3, 1) := by decide +kernel
theorem dX7_becomes_15 : decode cX7_becomes 15 = .ok (.ireturn, 1) := by decide +kernel
theorem dX7_alter_0 : decode cX7_alter 0 = .ok (.aload_n 0, 1) := by decide +kernel
theorem dX7_alter_1 : decode cX7_alter 1 = .ok (.iload_n 1, 1) := by decide +kernel
theorem dX7_alter_2 : decode cX7_alter 2 = .ok (.invokevirtual 195, 3) := by decide +kernel
theorem dX7_alter_5 : decode cX7_alter 5 = .ok (.ifCond .eq 50, 3) := by decide +kernel
theorem dX7_alter_8 : decode cX7_alter 8 = .ok (.iload_n 2, 1) := by decide +kernel
theorem dX7_alter_9 : decode cX7_alter 9 = .ok (.i2l, 1) := by decide +kernel
theorem dX7_alter_10 : decode cX7_alter 10 = .ok (.lconst 0, 1) := by decide +kernel
theorem dX7_alter_11 : decode cX7_alter 11 = .ok (.ldc2_w 148, 3) := by decide +kernel
theorem dX7_alter_14 : decode cX7_alter 14 = .ok (.invokestatic 69, 3) := by decide +kernel
theorem dX7_alter_17 : decode cX7_alter 17 = .ok (.ifCond .eq 38, 3) := by decide +kernel
theorem dX7_alter_20 : decode cX7_alter 20 = .ok (.iload_n 3, 1) := by decide +kernel
theorem dX7_alter_21 : decode cX7_alter 21 = .ok (.i2l, 1) := by decide +kernel
theorem dX7_alter_22 : decode cX7_alter 22 = .ok (.lconst 0, 1) := by decide +kernel
theorem dX7_alter_23 : decode cX7_alter 23 = .ok (.iload_n 2, 1) := by decide +kernel
theorem dX7_alter_24 : decode cX7_alter 24 = .ok (.ifCond .ne 9, 3) := by decide +kernel
theorem dX7_alter_27 : decode cX7_alter 27 = .ok (.ldc2_w 148, 3) := by decide +kernel
theorem dX7_alter_30 : decode cX7_alter 30 = .ok (.goto 6, 3) := by decide +kernel
theorem dX7_alter_33 : decode cX7_alter 33 = .ok (.ldc2_w 202, 3) := by decide +kernel
theorem dX7_alter_36 : decode cX7_alter 36 = .ok (.invokestatic 69, 3) := by decide +kernel
theorem dX7_alter_39 : decode cX7_alter 39 = .ok (.ifCond .eq 16, 3) := by decide +kernel
theorem dX7_alter_42 : decode cX7_alter 42 = .ok (.aload_n 0, 1) := by decide +kernel
theorem dX7_alter_43 : decode cX7_alter 43 = .ok (.iconst 4, 1) := by decide +kernel
theorem dX7_alter_44 : decode cX7_alter 44 = .ok (.iload_n 1, 1) := by decide +kernel
theorem dX7_alter_45 : decode cX7_alter 45 = .ok (.imul, 1) := by decide +kernel
theorem dX7_alter_46 : decode cX7_alter 46 = .ok (.iload_n 2, 1) := by decide +kernel
theorem dX7_alter_47 : decode cX7_alter 47 = .ok (.iadd, 1) := by decide +kernel
theorem dX7_alter_48 : decode cX7_alter 48 = .ok (.iload_n 3, 1) := by decide +kernel
theorem dX7_alter_49 : decode cX7_alter 49 = .ok (.invokevirtual 204, 3) := by decide +kernel
theorem dX7_alter_52 : decode cX7_alter 52 = .ok (.goto 4, 3) := by decide +kernel
theorem dX7_alter_55 : decode cX7_alter 55 = .ok (.iconst (-1), 1) := by decide +kernel
theorem dX7_alter_56 : decode cX7_alter 56 = .ok (.ireturn, 1) := by decide +kernel
theorem dX7_swap_0 : decode cX7_swap 0 = .ok (.aload_n 0, 1) := by decide +kernel
theorem dX7_swap_1 : decode cX7_swap 1 = .ok (.iload_n 1, 1) := by decide +kernel
theorem dX7_swap_2 : decode cX7_swap 2 = .ok (.invokevirtual 195, 3) := by decide +kernel
theorem dX7_swap_5 : decode cX7_swap 5 = .ok (.ifCond .eq 16, 3) := by decide +kernel
theorem dX7_swap_8 : decode cX7_swap 8 = .ok (.aload_n 0, 1) := by decide +kernel
theorem dX7_swap_9 : decode cX7_swap 9 = .ok (.iload_n 2, 1) := by decide +kernel
theorem dX7_swap_10 : decode cX7_swap 10 = .ok (.invokevirtual 195, 3) := by decide +kernel
theorem dX7_swap_13 : decode cX7_swap 13 = .ok (.ifCond .eq 8, 3) := by decide +kernel
theorem dX7_swap_16 : decode cX7_swap 16 = .ok (.iload_n 1, 1) := by decide +kernel
theorem dX7_swap_17 : decode cX7_swap 17 = .ok (.iload_n 2, 1) := by decide +kernel
theorem dX7_swap_18 : decode cX7_swap 18 = .ok (.if_icmp .ne 5, 3) := by decide +kernel
theorem dX7_swap_21 : decode cX7_swap 21 = .ok (.iconst (-1), 1) := by decide +kernel
theorem dX7_swap_22 : decode cX7_swap 22 = .ok (.ireturn, 1) := by decide +kernel
theorem dX7_swap_23 : decode cX7_swap 23 = .ok (.aload_n 0, 1) := by decide +kernel
theorem dX7_swap_24 : decode cX7_swap 24 = .ok (.getfield 7, 3) := by decide +kernel
theorem dX7_swap_27 : decode cX7_swap 27 = .ok (.bipush 20, 2) := by decide +kernel
theorem dX7_swap_29 : decode cX7_swap 29 = .ok (.iload_n 2, 1) := by decide +kernel
theorem dX7_swap_30 : decode cX7_swap 30 = .ok (.iadd, 1) := by decide +kernel
theorem dX7_swap_31 : decode cX7_swap 31 = .ok (.aload_n 0, 1) := by decide +kernel
theorem dX7_swap_32 : decode cX7_swap 32 = .ok (.bipush 20, 2) := by decide +kernel
theorem dX7_swap_34 : decode cX7_swap 34 = .ok (.iload_n 1, 1) := by decide +kernel
theorem dX7_swap_35 : decode cX7_swap 35 = .ok (.iadd, 1) := by decide +kernel
theorem dX7_swap_36 : decode cX7_swap 36 = .ok (.aload_n 0, 1) := by decide +kernel
theorem dX7_swap_37 : decode cX7_swap 37 = .ok (.getfield 7, 3) := by decide +kernel
theorem dX7_swap_40 : decode cX7_swap 40 = .ok (.bipush 20, 2) := by decide +kernel
theorem dX7_swap_42 : decode cX7_swap 42 = .ok (.iload_n 2, 1) := by decide +kernel
theorem dX7_swap_43 : decode cX7_swap 43 = .ok (.iadd, 1) := by decide +kernel
theorem dX7_swap_44 : decode cX7_swap 44 = .ok (.iaload, 1) := by decide +kernel
theorem dX7_swap_45 : decode cX7_swap 45 = .ok (.invokevirtual 204, 3) := by decide +kernel
theorem dX7_swap_48 : decode cX7_swap 48 = .ok (.iastore, 1) := by decide +kernel
theorem dX7_swap_49 : decode cX7_swap 49 = .ok (.aload_n 0, 1) := by decide +kernel
theorem dX7_swap_50 : decode cX7_swap 50 = .ok (.getfield 7, 3) := by decide +kernel
theorem dX7_swap_53 : decode cX7_swap 53 = .ok (.bipush 20, 2) := by decide +kernel
theorem dX7_swap_55 : decode cX7_swap 55 = .ok (.iload_n 1, 1) := by decide +kernel
theorem dX7_swap_56 : decode cX7_swap 56 = .ok (.iadd, 1) := by decide +kernel
theorem dX7_swap_57 : decode cX7_swap 57 = .ok (.iaload, 1) := by decide +kernel
theorem dX7_swap_58 : decode cX7_swap 58 = .ok (.ireturn, 1) := by decide +kernel
theorem dX7_kin_0 : decode cX7_kin 0 = .ok (.aload_n 0, 1) := by decide +kernel
theorem dX7_kin_1 : decode cX7_kin 1 = .ok (.iload_n 1, 1) := by decide +kernel
theorem dX7_kin_2 : decode cX7_kin 2 = .ok (.invokevirtual 195, 3) := by decide +kernel
theorem dX7_kin_5 : decode cX7_kin 5 = .ok (.ifCond .eq 11, 3) := by decide +kernel
theorem dX7_kin_8 : decode cX7_kin 8 = .ok (.aload_n 0, 1) := by decide +kernel
theorem dX7_kin_9 : decode cX7_kin 9 = .ok (.iload_n 2, 1) := by decide +kernel
theorem dX7_kin_10 : decode cX7_kin 10 = .ok (.invokevirtual 195, 3) := by decide +kernel
theorem dX7_kin_13 : decode cX7_kin 13 = .ok (.ifCond .ne 5, 3) := by decide +kernel
theorem dX7_kin_16 : decode cX7_kin 16 = .ok (.iconst (-1), 1) := by decide +kernel
theorem dX7_kin_17 : decode cX7_kin 17 = .ok (.ireturn, 1) := by decide +kernel
theorem dX7_kin_18 : decode cX7_kin 18 = .ok (.aload_n 0, 1) := by decide +kernel
theorem dX7_kin_19 : decode cX7_kin 19 = .ok (.getfield 7, 3) := by decide +kernel
theorem dX7_kin_22 : decode cX7_kin 22 = .ok (.bipush 25, 2) := by decide +kernel
theorem dX7_kin_24 : decode cX7_kin 24 = .ok (.iload_n 1, 1) := by decide +kernel
theorem dX7_kin_25 : decode cX7_kin 25 = .ok (.iadd, 1) := by decide +kernel
theorem dX7_kin_26 : decode cX7_kin 26 = .ok (.iaload, 1) := by decide +kernel
theorem dX7_kin_27 : decode cX7_kin 27 = .ok (.iload_n 2, 1) := by decide +kernel
theorem dX7_kin_28 : decode cX7_kin 28 = .ok (.ishr, 1) := by decide +kernel
theorem dX7_kin_29 : decode cX7_kin 29 = .ok (.iconst 1, 1) := by decide +kernel
theorem dX7_kin_30 : decode cX7_kin 30 = .ok (.iand, 1) := by decide +kernel
theorem dX7_kin_31 : decode cX7_kin 31 = .ok (.istore 4, 2) := by decide +kernel
theorem dX7_kin_33 : decode cX7_kin 33 = .ok (.iload_n 3, 1) := by decide +kernel
theorem dX7_kin_34 : decode cX7_kin 34 = .ok (.ifCond .eq 20, 3) := by decide +kernel
theorem dX7_kin_37 : decode cX7_kin 37 = .ok (.iload 4, 2) := by decide +kernel
theorem dX7_kin_39 : decode cX7_kin 39 = .ok (.ifCond .ne 15, 3) := by decide +kernel
theorem dX7_kin_42 : decode cX7_kin 42 = .ok (.aload_n 0, 1) := by decide +kernel
theorem dX7_kin_43 : decode cX7_kin 43 = .ok (.invokevirtual 189, 3) := by decide +kernel
theorem dX7_kin_46 : decode cX7_kin 46 = .ok (.bipush 6, 2) := by decide +kernel
theorem dX7_kin_48 : decode cX7_kin 48 = .ok (.if_icmp .ne 6, 3) := by decide +kernel
theorem dX7_kin_51 : decode cX7_kin 51 = .ok (.bipush (-3), 2) := by decide +kernel
theorem dX7_kin_53 : decode cX7_kin 53 = .ok (.ireturn, 1) := by decide +kernel
theorem dX7_kin_54 : decode cX7_kin 54 = .ok (.aload_n 0, 1) := by decide +kernel
theorem dX7_kin_55 : decode cX7_kin 55 = .ok (.getfield 7, 3) := by decide +kernel
theorem dX7_kin_58 : decode cX7_kin 58 = .ok (.bipush 25, 2) := by decide +kernel
theorem dX7_kin_60 : decode cX7_kin 60 = .ok (.iload_n 1, 1) := by decide +kernel
theorem dX7_kin_61 : decode cX7_kin 61 = .ok (.iadd, 1) := by decide +kernel
theorem dX7_kin_62 : decode cX7_kin 62 = .ok (.iload_n 3, 1) := by decide +kernel
theorem dX7_kin_63 : decode cX7_kin 63 = .ok (.ifCond .eq 19, 3) := by decide +kernel
theorem dX7_kin_66 : decode cX7_kin 66 = .ok (.aload_n 0, 1) := by decide +kernel
theorem dX7_kin_67 : decode cX7_kin 67 = .ok (.getfield 7, 3) := by decide +kernel
theorem dX7_kin_70 : decode cX7_kin 70 = .ok (.bipush 25, 2) := by decide +kernel
theorem dX7_kin_72 : decode cX7_kin 72 = .ok (.iload_n 1, 1) := by decide +kernel
theorem dX7_kin_73 : decode cX7_kin 73 = .ok (.iadd, 1) := by decide +kernel
theorem dX7_kin_74 : decode cX7_kin 74 = .ok (.iaload, 1) := by decide +kernel
theorem dX7_kin_75 : decode cX7_kin 75 = .ok (.iconst 1, 1) := by decide +kernel
theorem dX7_kin_76 : decode cX7_kin 76 = .ok (.iload_n 2, 1) := by decide +kernel
theorem dX7_kin_77 : decode cX7_kin 77 = .ok (.ishl, 1) := by decide +kernel
theorem dX7_kin_78 : decode cX7_kin 78 = .ok (.ior, 1) := by decide +kernel
theorem dX7_kin_79 : decode cX7_kin 79 = .ok (.goto 18, 3) := by decide +kernel
theorem dX7_kin_82 : decode cX7_kin 82 = .ok (.aload_n 0, 1) := by decide +kernel
theorem dX7_kin_83 : decode cX7_kin 83 = .ok (.getfield 7, 3) := by decide +kernel
theorem dX7_kin_86 : decode cX7_kin 86 = .ok (.bipush 25, 2) := by decide +kernel
theorem dX7_kin_88 : decode cX7_kin 88 = .ok (.iload_n 1, 1) := by decide +kernel
theorem dX7_kin_89 : decode cX7_kin 89 = .ok (.iadd, 1) := by decide +kernel
theorem dX7_kin_90 : decode cX7_kin 90 = .ok (.iaload, 1) := by decide +kernel
theorem dX7_kin_91 : decode cX7_kin 91 = .ok (.iconst 1, 1) := by decide +kernel
theorem dX7_kin_92 : decode cX7_kin 92 = .ok (.iload_n 2, 1) := by decide +kernel
theorem dX7_kin_93 : decode cX7_kin 93 = .ok (.ishl, 1) := by decide +kernel
theorem dX7_kin_94 : decode cX7_kin 94 = .ok (.iconst (-1), 1) := by decide +kernel
theorem dX7_kin_95 : decode cX7_kin 95 = .ok (.ixor, 1) := by decide +kernel
theorem dX7_kin_96 : decode cX7_kin 96 = .ok (.iand, 1) := by decide +kernel
theorem dX7_kin_97 : decode cX7_kin 97 = .ok (.iastore, 1) := by decide +kernel
theorem dX7_kin_98 : decode cX7_kin 98 = .ok (.iload 4, 2) := by decide +kernel
theorem dX7_kin_100 : decode cX7_kin 100 = .ok (.ireturn, 1) := by decide +kernel
theorem dX7_plan_0 : decode cX7_plan 0 = .ok (.iload_n 1, 1) := by decide +kernel
theorem dX7_plan_1 : decode cX7_plan 1 = .ok (.invokestatic 207, 3) := by decide +kernel
theorem dX7_plan_4 : decode cX7_plan 4 = .ok (.ifCond .ne 5, 3) := by decide +kernel
theorem dX7_plan_7 : decode cX7_plan 7 = .ok (.iconst (-1), 1) := by decide +kernel
theorem dX7_plan_8 : decode cX7_plan 8 = .ok (.ireturn, 1) := by decide +kernel
theorem dX7_plan_9 : decode cX7_plan 9 = .ok (.aload_n 0, 1) := by decide +kernel
theorem dX7_plan_10 : decode cX7_plan 10 = .ok (.getfield 7, 3) := by decide +kernel
theorem dX7_plan_13 : decode cX7_plan 13 = .ok (.bipush 31, 2) := by decide +kernel
theorem dX7_plan_15 : decode cX7_plan 15 = .ok (.iaload, 1) := by decide +kernel
theorem dX7_plan_16 : decode cX7_plan 16 = .ok (.bipush 8, 2) := by decide +kernel
theorem dX7_plan_18 : decode cX7_plan 18 = .ok (.if_icmp .ne 6, 3) := by decide +kernel
theorem dX7_plan_21 : decode cX7_plan 21 = .ok (.bipush (-3), 2) := by decide +kernel
theorem dX7_plan_23 : decode cX7_plan 23 = .ok (.ireturn, 1) := by decide +kernel
theorem dX7_plan_24 : decode cX7_plan 24 = .ok (.aload_n 0, 1) := by decide +kernel
theorem dX7_plan_25 : decode cX7_plan 25 = .ok (.getfield 7, 3) := by decide +kernel
theorem dX7_plan_28 : decode cX7_plan 28 = .ok (.bipush 32, 2) := by decide +kernel
theorem dX7_plan_30 : decode cX7_plan 30 = .ok (.aload_n 0, 1) := by decide +kernel
theorem dX7_plan_31 : decode cX7_plan 31 = .ok (.getfield 7, 3) := by decide +kernel
theorem dX7_plan_34 : decode cX7_plan 34 = .ok (.bipush 31, 2) := by decide +kernel
theorem dX7_plan_36 : decode cX7_plan 36 = .ok (.iaload, 1) := by decide +kernel
theorem dX7_plan_37 : decode cX7_plan 37 = .ok (.iadd, 1) := by decide +kernel
theorem dX7_plan_38 : decode cX7_plan 38 = .ok (.iload_n 1, 1) := by decide +kernel
theorem dX7_plan_39 : decode cX7_plan 39 = .ok (.iastore, 1) := by decide +kernel
theorem dX7_plan_40 : decode cX7_plan 40 = .ok (.aload_n 0, 1) := by decide +kernel
theorem dX7_plan_41 : decode cX7_plan 41 = .ok (.getfield 7, 3) := by decide +kernel
theorem dX7_plan_44 : decode cX7_plan 44 = .ok (.bipush 31, 2) := by decide +kernel
theorem dX7_plan_46 : decode cX7_plan 46 = .ok (.dup2, 1) := by decide +kernel
theorem dX7_plan_47 : decode cX7_plan 47 = .ok (.iaload, 1) := by decide +kernel
theorem dX7_plan_48 : decode cX7_plan 48 = .ok (.iconst 1, 1) := by decide +kernel
theorem dX7_plan_49 : decode cX7_plan 49 = .ok (.iadd, 1) := by decide +kernel
theorem dX7_plan_50 : decode cX7_plan 50 = .ok (.iastore, 1) := by decide +kernel
theorem dX7_plan_51 : decode cX7_plan 51 = .ok (.aload_n 0, 1) := by decide +kernel
theorem dX7_plan_52 : decode cX7_plan 52 = .ok (.getfield 7, 3) := by decide +kernel
theorem dX7_plan_55 : decode cX7_plan 55 = .ok (.bipush 31, 2) := by decide +kernel
theorem dX7_plan_57 : decode cX7_plan 57 = .ok (.iaload, 1) := by decide +kernel
theorem dX7_plan_58 : decode cX7_plan 58 = .ok (.ireturn, 1) := by decide +kernel
theorem dX7_cut_0 : decode cX7_cut 0 = .ok (.iload_n 1, 1) := by decide +kernel
theorem dX7_cut_1 : decode cX7_cut 1 = .ok (.i2l, 1) := by decide +kernel
theorem dX7_cut_2 : decode cX7_cut 2 = .ok (.lconst 0, 1) := by decide +kernel
theorem dX7_cut_3 : decode cX7_cut 3 = .ok (.aload_n 0, 1) := by decide +kernel
theorem dX7_cut_4 : decode cX7_cut 4 = .ok (.getfield 7, 3) := by decide +kernel
theorem dX7_cut_7 : decode cX7_cut 7 = .ok (.bipush 31, 2) := by decide +kernel
theorem dX7_cut_9 : decode cX7_cut 9 = .ok (.iaload, 1) := by decide +kernel
theorem dX7_cut_10 : decode cX7_cut 10 = .ok (.i2l, 1) := by decide +kernel
theorem dX7_cut_11 : decode cX7_cut 11 = .ok (.invokestatic 69, 3) := by decide +kernel
theorem dX7_cut_14 : decode cX7_cut 14 = .ok (.ifCond .eq 13, 3) := by decide +kernel
theorem dX7_cut_17 : decode cX7_cut 17 = .ok (.aload_n 0, 1) := by decide +kernel
theorem dX7_cut_18 : decode cX7_cut 18 = .ok (.bipush 31, 2) := by decide +kernel
theorem dX7_cut_20 : decode cX7_cut 20 = .ok (.iload_n 1, 1) := by decide +kernel
theorem dX7_cut_21 : decode cX7_cut 21 = .ok (.invokevirtual 204, 3) := by decide +kernel
theorem dX7_cut_24 : decode cX7_cut 24 = .ok (.goto 4, 3) := by decide +kernel
theorem dX7_cut_27 : decode cX7_cut 27 = .ok (.iconst (-1), 1) := by decide +kernel
theorem dX7_cut_28 : decode cX7_cut 28 = .ok (.ireturn, 1) := by decide +kernel
theorem dX7_dance_0 : decode cX7_dance 0 = .ok (.iload_n 1, 1) := by decide +kernel
theorem dX7_dance_1 : decode cX7_dance 1 = .ok (.invokestatic 207, 3) := by decide +kernel
theorem dX7_dance_4 : decode cX7_dance 4 = .ok (.ifCond .ne 5, 3) := by decide +kernel
theorem dX7_dance_7 : decode cX7_dance 7 = .ok (.iconst (-1), 1) := by decide +kernel
theorem dX7_dance_8 : decode cX7_dance 8 = .ok (.ireturn, 1) := by decide +kernel
theorem dX7_dance_9 : decode cX7_dance 9 = .ok (.aload_n 0, 1) := by decide +kernel
theorem dX7_dance_10 : decode cX7_dance 10 = .ok (.getfield 64, 3) := by decide +kernel
theorem dX7_dance_13 : decode cX7_dance 13 = .ok (.ifCond .ne 6, 3) := by decide +kernel
theorem dX7_dance_16 : decode cX7_dance 16 = .ok (.bipush (-2), 2) := by decide +kernel
theorem dX7_dance_18 : decode cX7_dance 18 = .ok (.ireturn, 1) := by decide +kernel
theorem dX7_dance_19 : decode cX7_dance 19 = .ok (.aload_n 0, 1) := by decide +kernel
theorem dX7_dance_20 : decode cX7_dance 20 = .ok (.invokevirtual 186, 3) := by decide +kernel
theorem dX7_dance_23 : decode cX7_dance 23 = .ok (.aload_n 0, 1) := by decide +kernel
theorem dX7_dance_24 : decode cX7_dance 24 = .ok (.iload_n 1, 1) := by decide +kernel
theorem dX7_dance_25 : decode cX7_dance 25 = .ok (.invokevirtual 180, 3) := by decide +kernel
theorem dX7_dance_28 : decode cX7_dance 28 = .ok (.aload_n 0, 1) := by decide +kernel
theorem dX7_dance_29 : decode cX7_dance 29 = .ok (.invokevirtual 210, 3) := by decide +kernel
theorem dX7_dance_32 : decode cX7_dance 32 = .ok (.aload_n 0, 1) := by decide +kernel
theorem dX7_dance_33 : decode cX7_dance 33 = .ok (.invokevirtual 192, 3) := by decide +kernel
theorem dX7_dance_36 : decode cX7_dance 36 = .ok (.invokestatic 183, 3) := by decide +kernel
theorem dX7_dance_39 : decode cX7_dance 39 = .ok (.ireturn, 1) := by decide +kernel
theorem dX7_runs_0 : decode cX7_runs 0 = .ok (.iload_n 1, 1) := by decide +kernel
theorem dX7_runs_1 : decode cX7_runs 1 = .ok (.i2l, 1) := by decide +kernel
theorem dX7_runs_2 : decode cX7_runs 2 = .ok (.lconst 0, 1) := by decide +kernel
theorem dX7_runs_3 : decode cX7_runs 3 = .ok (.ldc2_w 213, 3) := by decide +kernel
theorem dX7_runs_6 : decode cX7_runs 6 = .ok (.invokestatic 69, 3) := by decide +kernel
theorem dX7_runs_9 : decode cX7_runs 9 = .ok (.ifCond .ne 5, 3) := by decide +kernel
theorem dX7_runs_12 : decode cX7_runs 12 = .ok (.iconst (-1), 1) := by decide +kernel
theorem dX7_runs_13 : decode cX7_runs 13 = .ok (.ireturn, 1) := by decide +kernel
theorem dX7_runs_14 : decode cX7_runs 14 = .ok (.aload_n 0, 1) := by decide +kernel
theorem dX7_runs_15 : decode cX7_runs 15 = .ok (.invokevirtual 186, 3) := by decide +kernel
theorem dX7_runs_18 : decode cX7_runs 18 = .ok (.iconst 0, 1) := by decide +kernel
theorem dX7_runs_19 : decode cX7_runs 19 = .ok (.istore_n 2, 1) := by decide +kernel
theorem dX7_runs_20 : decode cX7_runs 20 = .ok (.bipush (-4), 2) := by decide +kernel
theorem dX7_runs_22 : decode cX7_runs 22 = .ok (.istore_n 3, 1) := by decide +kernel
theorem dX7_runs_23 : decode cX7_runs 23 = .ok (.iconst 0, 1) := by decide +kernel
theorem dX7_runs_24 : decode cX7_runs 24 = .ok (.istore 4, 2) := by decide +kernel
theorem dX7_runs_26 : decode cX7_runs 26 = .ok (.iload 4, 2) := by decide +kernel
theorem dX7_runs_28 : decode cX7_runs 28 = .ok (.aload_n 0, 1) := by decide +kernel
theorem dX7_runs_29 : decode cX7_runs 29 = .ok (.getfield 13, 3) := by decide +kernel
theorem dX7_runs_32 : decode cX7_runs 32 = .ok (.bipush 31, 2) := by decide +kernel
theorem dX7_runs_34 : decode cX7_runs 34 = .ok (.iaload, 1) := by decide +kernel
theorem dX7_runs_35 : decode cX7_runs 35 = .ok (.if_icmp .ge 52, 3) := by decide +kernel
theorem dX7_runs_38 : decode cX7_runs 38 = .ok (.aload_n 0, 1) := by decide +kernel
theorem dX7_runs_39 : decode cX7_runs 39 = .ok (.aload_n 0, 1) := by decide +kernel
theorem dX7_runs_40 : decode cX7_runs 40 = .ok (.getfield 13, 3) := by decide +kernel
theorem dX7_runs_43 : decode cX7_runs 43 = .ok (.bipush 32, 2) := by decide +kernel
theorem dX7_runs_45 : decode cX7_runs 45 = .ok (.iload 4, 2) := by decide +kernel
theorem dX7_runs_47 : decode cX7_runs 47 = .ok (.iadd, 1) := by decide +kernel
theorem dX7_runs_48 : decode cX7_runs 48 = .ok (.iaload, 1) := by decide +kernel
theorem dX7_runs_49 : decode cX7_runs 49 = .ok (.invokevirtual 180, 3) := by decide +kernel
theorem dX7_runs_52 : decode cX7_runs 52 = .ok (.aload_n 0, 1) := by decide +kernel
theorem dX7_runs_53 : decode cX7_runs 53 = .ok (.invokevirtual 215, 3) := by decide +kernel
theorem dX7_runs_56 : decode cX7_runs 56 = .ok (.ifCond .le 16, 3) := by decide +kernel
theorem dX7_runs_59 : decode cX7_runs 59 = .ok (.iload_n 3, 1) := by decide +kernel
theorem dX7_runs_60 : decode cX7_runs 60 = .ok (.bipush (-4), 2) := by decide +kernel
theorem dX7_runs_62 : decode cX7_runs 62 = .ok (.if_icmp .ne 10, 3) := by decide +kernel
theorem dX7_runs_65 : decode cX7_runs 65 = .ok (.iload 4, 2) := by decide +kernel
theorem dX7_runs_67 : decode cX7_runs 67 = .ok (.iconst 1, 1) := by decide +kernel
theorem dX7_runs_68 : decode cX7_runs 68 = .ok (.iadd, 1) := by decide +kernel
theorem dX7_runs_69 : decode cX7_runs 69 = .ok (.goto 4, 3) := by decide +kernel
theorem dX7_runs_72 : decode cX7_runs 72 = .ok (.iload_n 3, 1) := by decide +kernel
theorem dX7_runs_73 : decode cX7_runs 73 = .ok (.istore_n 3, 1) := by decide +kernel
theorem dX7_runs_74 : decode cX7_runs 74 = .ok (.iload_n 2, 1) := by decide +kernel
theorem dX7_runs_75 : decode cX7_runs 75 = .ok (.aload_n 0, 1) := by decide +kernel
theorem dX7_runs_76 : decode cX7_runs 76 = .ok (.invokevirtual 215, 3) := by decide +kernel
theorem dX7_runs_79 : decode cX7_runs 79 = .ok (.iadd, 1) := by decide +kernel
theorem dX7_runs_80 : decode cX7_runs 80 = .ok (.istore_n 2, 1) := by decide +kernel
theorem dX7_runs_81 : decode cX7_runs 81 = .ok (.iinc 4 1, 3) := by decide +kernel
theorem dX7_runs_84 : decode cX7_runs 84 = .ok (.goto (-58), 3) := by decide +kernel
theorem dX7_runs_87 : decode cX7_runs 87 = .ok (.iload_n 1, 1) := by decide +kernel
theorem dX7_runs_88 : decode cX7_runs 88 = .ok (.tableswitch 49 0 3 #[32, 40, 45, 47], 32) := by decide +kernel
theorem dX7_runs_120 : decode cX7_runs 120 = .ok (.aload_n 0, 1) := by decide +kernel
theorem dX7_runs_121 : decode cX7_runs 121 = .ok (.invokevirtual 192, 3) := by decide +kernel
theorem dX7_runs_124 : decode cX7_runs 124 = .ok (.invokestatic 183, 3) := by decide +kernel
theorem dX7_runs_127 : decode cX7_runs 127 = .ok (.ireturn, 1) := by decide +kernel
theorem dX7_runs_128 : decode cX7_runs 128 = .ok (.aload_n 0, 1) := by decide +kernel
theorem dX7_runs_129 : decode cX7_runs 129 = .ok (.invokevirtual 192, 3) := by decide +kernel
theorem dX7_runs_132 : decode cX7_runs 132 = .ok (.ireturn, 1) := by decide +kernel
theorem dX7_runs_133 : decode cX7_runs 133 = .ok (.iload_n 2, 1) := by decide +kernel
theorem dX7_runs_134 : decode cX7_runs 134 = .ok (.ireturn, 1) := by decide +kernel
theorem dX7_runs_135 : decode cX7_runs 135 = .ok (.iload_n 3, 1) := by decide +kernel
theorem dX7_runs_136 : decode cX7_runs 136 = .ok (.ireturn, 1) := by decide +kernel
theorem dX7_runs_137 : decode cX7_runs 137 = .ok (.aload_n 0, 1) := by decide +kernel
theorem dX7_runs_138 : decode cX7_runs 138 = .ok (.iconst 2, 1) := by decide +kernel
theorem dX7_runs_139 : decode cX7_runs 139 = .ok (.invokevirtual 218, 3) := by decide +kernel
theorem dX7_runs_142 : decode cX7_runs 142 = .ok (.ireturn, 1) := by decide +kernel
theorem dX7_ahead_0 : decode cX7_ahead 0 = .ok (.aload_n 0, 1) := by decide +kernel
theorem dX7_ahead_1 : decode cX7_ahead 1 = .ok (.iload_n 1, 1) := by decide +kernel
theorem dX7_ahead_2 : decode cX7_ahead 2 = .ok (.invokevirtual 195, 3) := by decide +kernel
theorem dX7_ahead_5 : decode cX7_ahead 5 = .ok (.ifCond .eq 15, 3) := by decide +kernel
theorem dX7_ahead_8 : decode cX7_ahead 8 = .ok (.iload_n 2, 1) := by decide +kernel
theorem dX7_ahead_9 : decode cX7_ahead 9 = .ok (.i2l, 1) := by decide +kernel
theorem dX7_ahead_10 : decode cX7_ahead 10 = .ok (.lconst 0, 1) := by decide +kernel
theorem dX7_ahead_11 : decode cX7_ahead 11 = .ok (.ldc2_w 221, 3) := by decide +kernel
theorem dX7_ahead_14 : decode cX7_ahead 14 = .ok (.invokestatic 69, 3) := by decide +kernel
theorem dX7_ahead_17 : decode cX7_ahead 17 = .ok (.ifCond .ne 5, 3) := by decide +kernel
theorem dX7_ahead_20 : decode cX7_ahead 20 = .ok (.iconst (-1), 1) := by decide +kernel
theorem dX7_ahead_21 : decode cX7_ahead 21 = .ok (.ireturn, 1) := by decide +kernel
theorem dX7_ahead_22 : decode cX7_ahead 22 = .ok (.aload_n 0, 1) := by decide +kernel
theorem dX7_ahead_23 : decode cX7_ahead 23 = .ok (.invokevirtual 186, 3) := by decide +kernel
theorem dX7_ahead_26 : decode cX7_ahead 26 = .ok (.iconst 0, 1) := by decide +kernel
theorem dX7_ahead_27 : decode cX7_ahead 27 = .ok (.istore_n 3, 1) := by decide +kernel
theorem dX7_ahead_28 : decode cX7_ahead 28 = .ok (.iload_n 3, 1) := by decide +kernel
theorem dX7_ahead_29 : decode cX7_ahead 29 = .ok (.aload_n 0, 1) := by decide +kernel
theorem dX7_ahead_30 : decode cX7_ahead 30 = .ok (.getfield 13, 3) := by decide +kernel
theorem dX7_ahead_33 : decode cX7_ahead 33 = .ok (.bipush 31, 2) := by decide +kernel
theorem dX7_ahead_35 : decode cX7_ahead 35 = .ok (.iaload, 1) := by decide +kernel
theorem dX7_ahead_36 : decode cX7_ahead 36 = .ok (.if_icmp .ge 27, 3) := by decide +kernel
theorem dX7_ahead_39 : decode cX7_ahead 39 = .ok (.iload_n 3, 1) := by decide +kernel
theorem dX7_ahead_40 : decode cX7_ahead 40 = .ok (.iload_n 2, 1) := by decide +kernel
theorem dX7_ahead_41 : decode cX7_ahead 41 = .ok (.if_icmp .ge 22, 3) := by decide +kernel
theorem dX7_ahead_44 : decode cX7_ahead 44 = .ok (.aload_n 0, 1) := by decide +kernel
theorem dX7_ahead_45 : decode cX7_ahead 45 = .ok (.aload_n 0, 1) := by decide +kernel
theorem dX7_ahead_46 : decode cX7_ahead 46 = .ok (.getfield 13, 3) := by decide +kernel
theorem dX7_ahead_49 : decode cX7_ahead 49 = .ok (.bipush 32, 2) := by decide +kernel
theorem dX7_ahead_51 : decode cX7_ahead 51 = .ok (.iload_n 3, 1) := by decide +kernel
theorem dX7_ahead_52 : decode cX7_ahead 52 = .ok (.iadd, 1) := by decide +kernel
theorem dX7_ahead_53 : decode cX7_ahead 53 = .ok (.iaload, 1) := by decide +kernel
theorem dX7_ahead_54 : decode cX7_ahead 54 = .ok (.invokevirtual 180, 3) := by decide +kernel
theorem dX7_ahead_57 : decode cX7_ahead 57 = .ok (.iinc 3 1, 3) := by decide +kernel
theorem dX7_ahead_60 : decode cX7_ahead 60 = .ok (.goto (-32), 3) := by decide +kernel
theorem dX7_ahead_63 : decode cX7_ahead 63 = .ok (.aload_n 0, 1) := by decide +kernel
theorem dX7_ahead_64 : decode cX7_ahead 64 = .ok (.getfield 13, 3) := by decide +kernel
theorem dX7_ahead_67 : decode cX7_ahead 67 = .ok (.bipush 20, 2) := by decide +kernel
theorem dX7_ahead_69 : decode cX7_ahead 69 = .ok (.iload_n 1, 1) := by decide +kernel
theorem dX7_ahead_70 : decode cX7_ahead 70 = .ok (.iadd, 1) := by decide +kernel
theorem dX7_ahead_71 : decode cX7_ahead 71 = .ok (.iaload, 1) := by decide +kernel
theorem dX7_ahead_72 : decode cX7_ahead 72 = .ok (.ireturn, 1) := by decide +kernel
theorem dX7_meets_0 : decode cX7_meets 0 = .ok (.aload_n 0, 1) := by decide +kernel
theorem dX7_meets_1 : decode cX7_meets 1 = .ok (.iload_n 1, 1) := by decide +kernel
theorem dX7_meets_2 : decode cX7_meets 2 = .ok (.invokevirtual 195, 3) := by decide +kernel
theorem dX7_meets_5 : decode cX7_meets 5 = .ok (.ifCond .eq 11, 3) := by decide +kernel
theorem dX7_meets_8 : decode cX7_meets 8 = .ok (.aload_n 0, 1) := by decide +kernel
theorem dX7_meets_9 : decode cX7_meets 9 = .ok (.iload_n 2, 1) := by decide +kernel
theorem dX7_meets_10 : decode cX7_meets 10 = .ok (.invokevirtual 195, 3) := by decide +kernel
theorem dX7_meets_13 : decode cX7_meets 13 = .ok (.ifCond .ne 5, 3) := by decide +kernel
theorem dX7_meets_16 : decode cX7_meets 16 = .ok (.iconst (-1), 1) := by decide +kernel
theorem dX7_meets_17 : decode cX7_meets 17 = .ok (.ireturn, 1) := by decide +kernel
theorem dX7_meets_18 : decode cX7_meets 18 = .ok (.aload_n 0, 1) := by decide +kernel
theorem dX7_meets_19 : decode cX7_meets 19 = .ok (.invokevirtual 186, 3) := by decide +kernel
theorem dX7_meets_22 : decode cX7_meets 22 = .ok (.iconst 0, 1) := by decide +kernel
theorem dX7_meets_23 : decode cX7_meets 23 = .ok (.istore_n 3, 1) := by decide +kernel
theorem dX7_meets_24 : decode cX7_meets 24 = .ok (.iload_n 3, 1) := by decide +kernel
theorem dX7_meets_25 : decode cX7_meets 25 = .ok (.aload_n 0, 1) := by decide +kernel
theorem dX7_meets_26 : decode cX7_meets 26 = .ok (.getfield 13, 3) := by decide +kernel
theorem dX7_meets_29 : decode cX7_meets 29 = .ok (.bipush 31, 2) := by decide +kernel
theorem dX7_meets_31 : decode cX7_meets 31 = .ok (.iaload, 1) := by decide +kernel
theorem dX7_meets_32 : decode cX7_meets 32 = .ok (.if_icmp .gt 48, 3) := by decide +kernel
theorem dX7_meets_35 : decode cX7_meets 35 = .ok (.aload_n 0, 1) := by decide +kernel
theorem dX7_meets_36 : decode cX7_meets 36 = .ok (.getfield 13, 3) := by decide +kernel
theorem dX7_meets_39 : decode cX7_meets 39 = .ok (.bipush 20, 2) := by decide +kernel
theorem dX7_meets_41 : decode cX7_meets 41 = .ok (.iload_n 1, 1) := by decide +kernel
theorem dX7_meets_42 : decode cX7_meets 42 = .ok (.iadd, 1) := by decide +kernel
theorem dX7_meets_43 : decode cX7_meets 43 = .ok (.iaload, 1) := by decide +kernel
theorem dX7_meets_44 : decode cX7_meets 44 = .ok (.iload_n 2, 1) := by decide +kernel
theorem dX7_meets_45 : decode cX7_meets 45 = .ok (.if_icmp .ne 5, 3) := by decide +kernel
theorem dX7_meets_48 : decode cX7_meets 48 = .ok (.iload_n 3, 1) := by decide +kernel
theorem dX7_meets_49 : decode cX7_meets 49 = .ok (.ireturn, 1) := by decide +kernel
theorem dX7_meets_50 : decode cX7_meets 50 = .ok (.iload_n 3, 1) := by decide +kernel
theorem dX7_meets_51 : decode cX7_meets 51 = .ok (.aload_n 0, 1) := by decide +kernel
theorem dX7_meets_52 : decode cX7_meets 52 = .ok (.getfield 13, 3) := by decide +kernel
theorem dX7_meets_55 : decode cX7_meets 55 = .ok (.bipush 31, 2) := by decide +kernel
theorem dX7_meets_57 : decode cX7_meets 57 = .ok (.iaload, 1) := by decide +kernel
theorem dX7_meets_58 : decode cX7_meets 58 = .ok (.if_icmp .ge 16, 3) := by decide +kernel
theorem dX7_meets_61 : decode cX7_meets 61 = .ok (.aload_n 0, 1) := by decide +kernel
theorem dX7_meets_62 : decode cX7_meets 62 = .ok (.aload_n 0, 1) := by decide +kernel
theorem dX7_meets_63 : decode cX7_meets 63 = .ok (.getfield 13, 3) := by decide +kernel
theorem dX7_meets_66 : decode cX7_meets 66 = .ok (.bipush 32, 2) := by decide +kernel
theorem dX7_meets_68 : decode cX7_meets 68 = .ok (.iload_n 3, 1) := by decide +kernel
theorem dX7_meets_69 : decode cX7_meets 69 = .ok (.iadd, 1) := by decide +kernel
theorem dX7_meets_70 : decode cX7_meets 70 = .ok (.iaload, 1) := by decide +kernel
theorem dX7_meets_71 : decode cX7_meets 71 = .ok (.invokevirtual 180, 3) := by decide +kernel
theorem dX7_meets_74 : decode cX7_meets 74 = .ok (.iinc 3 1, 3) := by decide +kernel
theorem dX7_meets_77 : decode cX7_meets 77 = .ok (.goto (-53), 3) := by decide +kernel
theorem dX7_meets_80 : decode cX7_meets 80 = .ok (.bipush (-4), 2) := by decide +kernel
theorem dX7_meets_82 : decode cX7_meets 82 = .ok (.ireturn, 1) := by decide +kernel
theorem dX7_never_0 : decode cX7_never 0 = .ok (.aload_n 0, 1) := by decide +kernel
theorem dX7_never_1 : decode cX7_never 1 = .ok (.iload_n 1, 1) := by decide +kernel
theorem dX7_never_2 : decode cX7_never 2 = .ok (.invokevirtual 195, 3) := by decide +kernel
theorem dX7_never_5 : decode cX7_never 5 = .ok (.ifCond .ne 5, 3) := by decide +kernel
theorem dX7_never_8 : decode cX7_never 8 = .ok (.iconst (-1), 1) := by decide +kernel
theorem dX7_never_9 : decode cX7_never 9 = .ok (.ireturn, 1) := by decide +kernel
theorem dX7_never_10 : decode cX7_never 10 = .ok (.aload_n 0, 1) := by decide +kernel
theorem dX7_never_11 : decode cX7_never 11 = .ok (.invokevirtual 186, 3) := by decide +kernel
theorem dX7_never_14 : decode cX7_never 14 = .ok (.iconst 1, 1) := by decide +kernel
theorem dX7_never_15 : decode cX7_never 15 = .ok (.aload_n 0, 1) := by decide +kernel
theorem dX7_never_16 : decode cX7_never 16 = .ok (.getfield 13, 3) := by decide +kernel
theorem dX7_never_19 : decode cX7_never 19 = .ok (.bipush 20, 2) := by decide +kernel
theorem dX7_never_21 : decode cX7_never 21 = .ok (.iload_n 1, 1) := by decide +kernel
theorem dX7_never_22 : decode cX7_never 22 = .ok (.iadd, 1) := by decide +kernel
theorem dX7_never_23 : decode cX7_never 23 = .ok (.iaload, 1) := by decide +kernel
theorem dX7_never_24 : decode cX7_never 24 = .ok (.ishl, 1) := by decide +kernel
theorem dX7_never_25 : decode cX7_never 25 = .ok (.istore_n 2, 1) := by decide +kernel
theorem dX7_never_26 : decode cX7_never 26 = .ok (.iconst 0, 1) := by decide +kernel
theorem dX7_never_27 : decode cX7_never 27 = .ok (.istore_n 3, 1) := by decide +kernel
theorem dX7_never_28 : decode cX7_never 28 = .ok (.iload_n 3, 1) := by decide +kernel
theorem dX7_never_29 : decode cX7_never 29 = .ok (.aload_n 0, 1) := by decide +kernel
theorem dX7_never_30 : decode cX7_never 30 = .ok (.getfield 13, 3) := by decide +kernel
theorem dX7_never_33 : decode cX7_never 33 = .ok (.bipush 31, 2) := by decide +kernel
theorem dX7_never_35 : decode cX7_never 35 = .ok (.iaload, 1) := by decide +kernel
theorem dX7_never_36 : decode cX7_never 36 = .ok (.if_icmp .ge 36, 3) := by decide +kernel
theorem dX7_never_39 : decode cX7_never 39 = .ok (.aload_n 0, 1) := by decide +kernel
theorem dX7_never_40 : decode cX7_never 40 = .ok (.aload_n 0, 1) := by decide +kernel
theorem dX7_never_41 : decode cX7_never 41 = .ok (.getfield 13, 3) := by decide +kernel
theorem dX7_never_44 : decode cX7_never 44 = .ok (.bipush 32, 2) := by decide +kernel
theorem dX7_never_46 : decode cX7_never 46 = .ok (.iload_n 3, 1) := by decide +kernel
theorem dX7_never_47 : decode cX7_never 47 = .ok (.iadd, 1) := by decide +kernel
theorem dX7_never_48 : decode cX7_never 48 = .ok (.iaload, 1) := by decide +kernel
theorem dX7_never_49 : decode cX7_never 49 = .ok (.invokevirtual 180, 3) := by decide +kernel
theorem dX7_never_52 : decode cX7_never 52 = .ok (.iload_n 2, 1) := by decide +kernel
theorem dX7_never_53 : decode cX7_never 53 = .ok (.iconst 1, 1) := by decide +kernel
theorem dX7_never_54 : decode cX7_never 54 = .ok (.aload_n 0, 1) := by decide +kernel
theorem dX7_never_55 : decode cX7_never 55 = .ok (.getfield 13, 3) := by decide +kernel
theorem dX7_never_58 : decode cX7_never 58 = .ok (.bipush 20, 2) := by decide +kernel
theorem dX7_never_60 : decode cX7_never 60 = .ok (.iload_n 1, 1) := by decide +kernel
theorem dX7_never_61 : decode cX7_never 61 = .ok (.iadd, 1) := by decide +kernel
theorem dX7_never_62 : decode cX7_never 62 = .ok (.iaload, 1) := by decide +kernel
theorem dX7_never_63 : decode cX7_never 63 = .ok (.ishl, 1) := by decide +kernel
theorem dX7_never_64 : decode cX7_never 64 = .ok (.ior, 1) := by decide +kernel
theorem dX7_never_65 : decode cX7_never 65 = .ok (.istore_n 2, 1) := by decide +kernel
theorem dX7_never_66 : decode cX7_never 66 = .ok (.iinc 3 1, 3) := by decide +kernel
theorem dX7_never_69 : decode cX7_never 69 = .ok (.goto (-41), 3) := by decide +kernel
theorem dX7_never_72 : decode cX7_never 72 = .ok (.iconst 1, 1) := by decide +kernel
theorem dX7_never_73 : decode cX7_never 73 = .ok (.aload_n 0, 1) := by decide +kernel
theorem dX7_never_74 : decode cX7_never 74 = .ok (.getfield 64, 3) := by decide +kernel
theorem dX7_never_77 : decode cX7_never 77 = .ok (.ishl, 1) := by decide +kernel
theorem dX7_never_78 : decode cX7_never 78 = .ok (.iconst 1, 1) := by decide +kernel
theorem dX7_never_79 : decode cX7_never 79 = .ok (.isub, 1) := by decide +kernel
theorem dX7_never_80 : decode cX7_never 80 = .ok (.iload_n 2, 1) := by decide +kernel
theorem dX7_never_81 : decode cX7_never 81 = .ok (.iconst (-1), 1) := by decide +kernel
theorem dX7_never_82 : decode cX7_never 82 = .ok (.ixor, 1) := by decide +kernel
theorem dX7_never_83 : decode cX7_never 83 = .ok (.iand, 1) := by decide +kernel
theorem dX7_never_84 : decode cX7_never 84 = .ok (.ireturn, 1) := by decide +kernel
theorem dX7_period_0 : decode cX7_period 0 = .ok (.iload_n 1, 1) := by decide +kernel
theorem dX7_period_1 : decode cX7_period 1 = .ok (.invokestatic 207, 3) := by decide +kernel
theorem dX7_period_4 : decode cX7_period 4 = .ok (.ifCond .ne 5, 3) := by decide +kernel
theorem dX7_period_7 : decode cX7_period 7 = .ok (.iconst (-1), 1) := by decide +kernel
theorem dX7_period_8 : decode cX7_period 8 = .ok (.ireturn, 1) := by decide +kernel
theorem dX7_period_9 : decode cX7_period 9 = .ok (.aload_n 0, 1) := by decide +kernel
theorem dX7_period_10 : decode cX7_period 10 = .ok (.invokevirtual 186, 3) := by decide +kernel
theorem dX7_period_13 : decode cX7_period 13 = .ok (.iconst 1, 1) := by decide +kernel
theorem dX7_period_14 : decode cX7_period 14 = .ok (.istore_n 2, 1) := by decide +kernel
theorem dX7_period_15 : decode cX7_period 15 = .ok (.iload_n 2, 1) := by decide +kernel
theorem dX7_period_16 : decode cX7_period 16 = .ok (.bipush 60, 2) := by decide +kernel
theorem dX7_period_18 : decode cX7_period 18 = .ok (.if_icmp .gt 80, 3) := by decide +kernel
theorem dX7_period_21 : decode cX7_period 21 = .ok (.aload_n 0, 1) := by decide +kernel
theorem dX7_period_22 : decode cX7_period 22 = .ok (.getfield 64, 3) := by decide +kernel
theorem dX7_period_25 : decode cX7_period 25 = .ok (.ifCond .le 73, 3) := by decide +kernel
theorem dX7_period_28 : decode cX7_period 28 = .ok (.aload_n 0, 1) := by decide +kernel
theorem dX7_period_29 : decode cX7_period 29 = .ok (.iload_n 1, 1) := by decide +kernel
theorem dX7_period_30 : decode cX7_period 30 = .ok (.invokevirtual 173, 3) := by decide +kernel
theorem dX7_period_33 : decode cX7_period 33 = .ok (.iconst 1, 1) := by decide +kernel
theorem dX7_period_34 : decode cX7_period 34 = .ok (.istore_n 3, 1) := by decide +kernel
theorem dX7_period_35 : decode cX7_period 35 = .ok (.iconst 0, 1) := by decide +kernel
theorem dX7_period_36 : decode cX7_period 36 = .ok (.istore 4, 2) := by decide +kernel
theorem dX7_period_38 : decode cX7_period 38 = .ok (.iload 4, 2) := by decide +kernel
theorem dX7_period_40 : decode cX7_period 40 = .ok (.aload_n 0, 1) := by decide +kernel
theorem dX7_period_41 : decode cX7_period 41 = .ok (.getfield 64, 3) := by decide +kernel
theorem dX7_period_44 : decode cX7_period 44 = .ok (.if_icmp .ge 42, 3) := by decide +kernel
theorem dX7_period_47 : decode cX7_period 47 = .ok (.iload_n 3, 1) := by decide +kernel
theorem dX7_period_48 : decode cX7_period 48 = .ok (.ifCond .eq 30, 3) := by decide +kernel
theorem dX7_period_51 : decode cX7_period 51 = .ok (.aload_n 0, 1) := by decide +kernel
theorem dX7_period_52 : decode cX7_period 52 = .ok (.getfield 13, 3) := by decide +kernel
theorem dX7_period_55 : decode cX7_period 55 = .ok (.bipush 20, 2) := by decide +kernel
theorem dX7_period_57 : decode cX7_period 57 = .ok (.iload 4, 2) := by decide +kernel
theorem dX7_period_59 : decode cX7_period 59 = .ok (.iadd, 1) := by decide +kernel
theorem dX7_period_60 : decode cX7_period 60 = .ok (.iaload, 1) := by decide +kernel
theorem dX7_period_61 : decode cX7_period 61 = .ok (.aload_n 0, 1) := by decide +kernel
theorem dX7_period_62 : decode cX7_period 62 = .ok (.getfield 7, 3) := by decide +kernel
theorem dX7_period_65 : decode cX7_period 65 = .ok (.bipush 20, 2) := by decide +kernel
theorem dX7_period_67 : decode cX7_period 67 = .ok (.iload 4, 2) := by decide +kernel
theorem dX7_period_69 : decode cX7_period 69 = .ok (.iadd, 1) := by decide +kernel
theorem dX7_period_70 : decode cX7_period 70 = .ok (.iaload, 1) := by decide +kernel
theorem dX7_period_71 : decode cX7_period 71 = .ok (.if_icmp .ne 7, 3) := by decide +kernel
theorem dX7_period_74 : decode cX7_period 74 = .ok (.iconst 1, 1) := by decide +kernel
theorem dX7_period_75 : decode cX7_period 75 = .ok (.goto 4, 3) := by decide +kernel
theorem dX7_period_78 : decode cX7_period 78 = .ok (.iconst 0, 1) := by decide +kernel
theorem dX7_period_79 : decode cX7_period 79 = .ok (.istore_n 3, 1) := by decide +kernel
theorem dX7_period_80 : decode cX7_period 80 = .ok (.iinc 4 1, 3) := by decide +kernel
theorem dX7_period_83 : decode cX7_period 83 = .ok (.goto (-45), 3) := by decide +kernel
theorem dX7_period_86 : decode cX7_period 86 = .ok (.iload_n 3, 1) := by decide +kernel
theorem dX7_period_87 : decode cX7_period 87 = .ok (.ifCond .eq 5, 3) := by decide +kernel
theorem dX7_period_90 : decode cX7_period 90 = .ok (.iload_n 2, 1) := by decide +kernel
theorem dX7_period_91 : decode cX7_period 91 = .ok (.ireturn, 1) := by decide +kernel
theorem dX7_period_92 : decode cX7_period 92 = .ok (.iinc 2 1, 3) := by decide +kernel
theorem dX7_period_95 : decode cX7_period 95 = .ok (.goto (-80), 3) := by decide +kernel
theorem dX7_period_98 : decode cX7_period 98 = .ok (.bipush (-4), 2) := by decide +kernel
theorem dX7_period_100 : decode cX7_period 100 = .ok (.ireturn, 1) := by decide +kernel
theorem dX7_power_0 : decode cX7_power 0 = .ok (.iconst 1, 1) := by decide +kernel
theorem dX7_power_1 : decode cX7_power 1 = .ok (.istore_n 2, 1) := by decide +kernel
theorem dX7_power_2 : decode cX7_power 2 = .ok (.iconst 0, 1) := by decide +kernel
theorem dX7_power_3 : decode cX7_power 3 = .ok (.istore_n 3, 1) := by decide +kernel
theorem dX7_power_4 : decode cX7_power 4 = .ok (.iload_n 3, 1) := by decide +kernel
theorem dX7_power_5 : decode cX7_power 5 = .ok (.iload_n 1, 1) := by decide +kernel
theorem dX7_power_6 : decode cX7_power 6 = .ok (.if_icmp .ge 13, 3) := by decide +kernel
theorem dX7_power_9 : decode cX7_power 9 = .ok (.iload_n 2, 1) := by decide +kernel
theorem dX7_power_10 : decode cX7_power 10 = .ok (.iload_n 0, 1) := by decide +kernel
theorem dX7_power_11 : decode cX7_power 11 = .ok (.imul, 1) := by decide +kernel
theorem dX7_power_12 : decode cX7_power 12 = .ok (.istore_n 2, 1) := by decide +kernel
theorem dX7_power_13 : decode cX7_power 13 = .ok (.iinc 3 1, 3) := by decide +kernel
theorem dX7_power_16 : decode cX7_power 16 = .ok (.goto (-12), 3) := by decide +kernel
theorem dX7_power_19 : decode cX7_power 19 = .ok (.iload_n 2, 1) := by decide +kernel
theorem dX7_power_20 : decode cX7_power 20 = .ok (.ireturn, 1) := by decide +kernel
theorem dX7_figureIn_0 : decode cX7_figureIn 0 = .ok (.iload_n 0, 1) := by decide +kernel
theorem dX7_figureIn_1 : decode cX7_figureIn 1 = .ok (.iconst 4, 1) := by decide +kernel
theorem dX7_figureIn_2 : decode cX7_figureIn 2 = .ok (.iload_n 1, 1) := by decide +kernel
theorem dX7_figureIn_3 : decode cX7_figureIn 3 = .ok (.iconst 1, 1) := by decide +kernel
theorem dX7_figureIn_4 : decode cX7_figureIn 4 = .ok (.isub, 1) := by decide +kernel
theorem dX7_figureIn_5 : decode cX7_figureIn 5 = .ok (.iload_n 2, 1) := by decide +kernel
theorem dX7_figureIn_6 : decode cX7_figureIn 6 = .ok (.isub, 1) := by decide +kernel
theorem dX7_figureIn_7 : decode cX7_figureIn 7 = .ok (.invokestatic 223, 3) := by decide +kernel
theorem dX7_figureIn_10 : decode cX7_figureIn 10 = .ok (.idiv, 1) := by decide +kernel
theorem dX7_figureIn_11 : decode cX7_figureIn 11 = .ok (.iconst 4, 1) := by decide +kernel
theorem dX7_figureIn_12 : decode cX7_figureIn 12 = .ok (.irem, 1) := by decide +kernel
theorem dX7_figureIn_13 : decode cX7_figureIn 13 = .ok (.ireturn, 1) := by decide +kernel
theorem dX7_best_0 : decode cX7_best 0 = .ok (.iload_n 1, 1) := by decide +kernel
theorem dX7_best_1 : decode cX7_best 1 = .ok (.i2l, 1) := by decide +kernel
theorem dX7_best_2 : decode cX7_best 2 = .ok (.lconst 0, 1) := by decide +kernel
theorem dX7_best_3 : decode cX7_best 3 = .ok (.ldc2_w 213, 3) := by decide +kernel
theorem dX7_best_6 : decode cX7_best 6 = .ok (.invokestatic 69, 3) := by decide +kernel
theorem dX7_best_9 : decode cX7_best 9 = .ok (.ifCond .eq 22, 3) := by decide +kernel
theorem dX7_best_12 : decode cX7_best 12 = .ok (.iload_n 2, 1) := by decide +kernel
theorem dX7_best_13 : decode cX7_best 13 = .ok (.ifCond .eq 20, 3) := by decide +kernel
theorem dX7_best_16 : decode cX7_best 16 = .ok (.iload_n 2, 1) := by decide +kernel
theorem dX7_best_17 : decode cX7_best 17 = .ok (.bipush 10, 2) := by decide +kernel
theorem dX7_best_19 : decode cX7_best 19 = .ok (.isub, 1) := by decide +kernel
theorem dX7_best_20 : decode cX7_best 20 = .ok (.i2l, 1) := by decide +kernel
theorem dX7_best_21 : decode cX7_best 21 = .ok (.lconst 0, 1) := by decide +kernel
theorem dX7_best_22 : decode cX7_best 22 = .ok (.ldc2_w 148, 3) := by decide +kernel
theorem dX7_best_25 : decode cX7_best 25 = .ok (.invokestatic 69, 3) := by decide +kernel
theorem dX7_best_28 : decode cX7_best 28 = .ok (.ifCond .ne 5, 3) := by decide +kernel
theorem dX7_best_31 : decode cX7_best 31 = .ok (.iconst (-1), 1) := by decide +kernel
theorem dX7_best_32 : decode cX7_best 32 = .ok (.ireturn, 1) := by decide +kernel
theorem dX7_best_33 : decode cX7_best 33 = .ok (.iconst (-1), 1) := by decide +kernel
theorem dX7_best_34 : decode cX7_best 34 = .ok (.istore_n 3, 1) := by decide +kernel
theorem dX7_best_35 : decode cX7_best 35 = .ok (.bipush (-4), 2) := by decide +kernel
theorem dX7_best_37 : decode cX7_best 37 = .ok (.istore 4, 2) := by decide +kernel
theorem dX7_best_39 : decode cX7_best 39 = .ok (.iconst 0, 1) := by decide +kernel
theorem dX7_best_40 : decode cX7_best 40 = .ok (.istore 5, 2) := by decide +kernel
theorem dX7_best_42 : decode cX7_best 42 = .ok (.iload 5, 2) := by decide +kernel
theorem dX7_best_44 : decode cX7_best 44 = .ok (.iconst 4, 1) := by decide +kernel
theorem dX7_best_45 : decode cX7_best 45 = .ok (.iload_n 1, 1) := by decide +kernel
theorem dX7_best_46 : decode cX7_best 46 = .ok (.invokestatic 223, 3) := by decide +kernel
theorem dX7_best_49 : decode cX7_best 49 = .ok (.if_icmp .ge 113, 3) := by decide +kernel
theorem dX7_best_52 : decode cX7_best 52 = .ok (.iconst 0, 1) := by decide +kernel
theorem dX7_best_53 : decode cX7_best 53 = .ok (.istore 6, 2) := by decide +kernel
theorem dX7_best_55 : decode cX7_best 55 = .ok (.aload_n 0, 1) := by decide +kernel
theorem dX7_best_56 : decode cX7_best 56 = .ok (.invokevirtual 186, 3) := by decide +kernel
theorem dX7_best_59 : decode cX7_best 59 = .ok (.iconst 0, 1) := by decide +kernel
theorem dX7_best_60 : decode cX7_best 60 = .ok (.istore 7, 2) := by decide +kernel
theorem dX7_best_62 : decode cX7_best 62 = .ok (.iload 7, 2) := by decide +kernel
theorem dX7_best_64 : decode cX7_best 64 = .ok (.iload_n 1, 1) := by decide +kernel
theorem dX7_best_65 : decode cX7_best 65 = .ok (.if_icmp .ge 37, 3) := by decide +kernel
theorem dX7_best_68 : decode cX7_best 68 = .ok (.aload_n 0, 1) := by decide +kernel
theorem dX7_best_69 : decode cX7_best 69 = .ok (.getfield 64, 3) := by decide +kernel
theorem dX7_best_72 : decode cX7_best 72 = .ok (.ifCond .le 30, 3) := by decide +kernel
theorem dX7_best_75 : decode cX7_best 75 = .ok (.aload_n 0, 1) := by decide +kernel
theorem dX7_best_76 : decode cX7_best 76 = .ok (.iload 5, 2) := by decide +kernel
theorem dX7_best_78 : decode cX7_best 78 = .ok (.iload_n 1, 1) := by decide +kernel
theorem dX7_best_79 : decode cX7_best 79 = .ok (.iload 7, 2) := by decide +kernel
theorem dX7_best_81 : decode cX7_best 81 = .ok (.invokestatic 226, 3) := by decide +kernel
theorem dX7_best_84 : decode cX7_best 84 = .ok (.invokevirtual 180, 3) := by decide +kernel
theorem dX7_best_87 : decode cX7_best 87 = .ok (.iload 6, 2) := by decide +kernel
theorem dX7_best_89 : decode cX7_best 89 = .ok (.aload_n 0, 1) := by decide +kernel
theorem dX7_best_90 : decode cX7_best 90 = .ok (.invokevirtual 215, 3) := by decide +kernel
theorem dX7_best_93 : decode cX7_best 93 = .ok (.iadd, 1) := by decide +kernel
theorem dX7_best_94 : decode cX7_best 94 = .ok (.istore 6, 2) := by decide +kernel
theorem dX7_best_96 : decode cX7_best 96 = .ok (.iinc 7 1, 3) := by decide +kernel
theorem dX7_best_99 : decode cX7_best 99 = .ok (.goto (-37), 3) := by decide +kernel
theorem dX7_best_102 : decode cX7_best 102 = .ok (.iload 6, 2) := by decide +kernel
theorem dX7_best_104 : decode cX7_best 104 = .ok (.ifCond .ne 18, 3) := by decide +kernel
theorem dX7_best_107 : decode cX7_best 107 = .ok (.aload_n 0, 1) := by decide +kernel
theorem dX7_best_108 : decode cX7_best 108 = .ok (.invokevirtual 192, 3) := by decide +kernel
theorem dX7_best_111 : decode cX7_best 111 = .ok (.invokestatic 183, 3) := by decide +kernel
theorem dX7_best_114 : decode cX7_best 114 = .ok (.iload_n 3, 1) := by decide +kernel
theorem dX7_best_115 : decode cX7_best 115 = .ok (.if_icmp .le 7, 3) := by decide +kernel
theorem dX7_best_118 : decode cX7_best 118 = .ok (.iconst 1, 1) := by decide +kernel
theorem dX7_best_119 : decode cX7_best 119 = .ok (.goto 4, 3) := by decide +kernel
theorem dX7_best_122 : decode cX7_best 122 = .ok (.iconst 0, 1) := by decide +kernel
theorem dX7_best_123 : decode cX7_best 123 = .ok (.istore 7, 2) := by decide +kernel
theorem dX7_best_125 : decode cX7_best 125 = .ok (.iload 7, 2) := by decide +kernel
theorem dX7_best_127 : decode cX7_best 127 = .ok (.ifCond .eq 8, 3) := by decide +kernel
theorem dX7_best_130 : decode cX7_best 130 = .ok (.iload 5, 2) := by decide +kernel
theorem dX7_best_132 : decode cX7_best 132 = .ok (.goto 5, 3) := by decide +kernel
theorem dX7_best_135 : decode cX7_best 135 = .ok (.iload 4, 2) := by decide +kernel
theorem dX7_best_137 : decode cX7_best 137 = .ok (.istore 4, 2) := by decide +kernel
theorem dX7_best_139 : decode cX7_best 139 = .ok (.iload 7, 2) := by decide +kernel
theorem dX7_best_141 : decode cX7_best 141 = .ok (.ifCond .eq 13, 3) := by decide +kernel
theorem dX7_best_144 : decode cX7_best 144 = .ok (.aload_n 0, 1) := by decide +kernel
theorem dX7_best_145 : decode cX7_best 145 = .ok (.invokevirtual 192, 3) := by decide +kernel
theorem dX7_best_148 : decode cX7_best 148 = .ok (.invokestatic 183, 3) := by decide +kernel
theorem dX7_best_151 : decode cX7_best 151 = .ok (.goto 4, 3) := by decide +kernel
theorem dX7_best_154 : decode cX7_best 154 = .ok (.iload_n 3, 1) := by decide +kernel
theorem dX7_best_155 : decode cX7_best 155 = .ok (.istore_n 3, 1) := by decide +kernel
theorem dX7_best_156 : decode cX7_best 156 = .ok (.iinc 5 1, 3) := by decide +kernel
theorem dX7_best_159 : decode cX7_best 159 = .ok (.goto (-117), 3) := by decide +kernel
theorem dX7_best_162 : decode cX7_best 162 = .ok (.iload 4, 2) := by decide +kernel
theorem dX7_best_164 : decode cX7_best 164 = .ok (.bipush (-4), 2) := by decide +kernel
theorem dX7_best_166 : decode cX7_best 166 = .ok (.if_icmp .eq 7, 3) := by decide +kernel
theorem dX7_best_169 : decode cX7_best 169 = .ok (.iload_n 2, 1) := by decide +kernel
theorem dX7_best_170 : decode cX7_best 170 = .ok (.ifCond .ne 17, 3) := by decide +kernel
theorem dX7_best_173 : decode cX7_best 173 = .ok (.iload 4, 2) := by decide +kernel
theorem dX7_best_175 : decode cX7_best 175 = .ok (.bipush (-4), 2) := by decide +kernel
theorem dX7_best_177 : decode cX7_best 177 = .ok (.if_icmp .ne 8, 3) := by decide +kernel
theorem dX7_best_180 : decode cX7_best 180 = .ok (.bipush (-4), 2) := by decide +kernel
theorem dX7_best_182 : decode cX7_best 182 = .ok (.goto 4, 3) := by decide +kernel
theorem dX7_best_185 : decode cX7_best 185 = .ok (.iload_n 3, 1) := by decide +kernel
theorem dX7_best_186 : decode cX7_best 186 = .ok (.ireturn, 1) := by decide +kernel
theorem dX7_best_187 : decode cX7_best 187 = .ok (.iload_n 2, 1) := by decide +kernel
theorem dX7_best_188 : decode cX7_best 188 = .ok (.bipush 10, 2) := by decide +kernel
theorem dX7_best_190 : decode cX7_best 190 = .ok (.isub, 1) := by decide +kernel
theorem dX7_best_191 : decode cX7_best 191 = .ok (.iload_n 1, 1) := by decide +kernel
theorem dX7_best_192 : decode cX7_best 192 = .ok (.if_icmp .ge 16, 3) := by decide +kernel
theorem dX7_best_195 : decode cX7_best 195 = .ok (.iload 4, 2) := by decide +kernel
theorem dX7_best_197 : decode cX7_best 197 = .ok (.iload_n 1, 1) := by decide +kernel
theorem dX7_best_198 : decode cX7_best 198 = .ok (.iload_n 2, 1) := by decide +kernel
theorem dX7_best_199 : decode cX7_best 199 = .ok (.bipush 10, 2) := by decide +kernel
theorem dX7_best_201 : decode cX7_best 201 = .ok (.isub, 1) := by decide +kernel
theorem dX7_best_202 : decode cX7_best 202 = .ok (.invokestatic 226, 3) := by decide +kernel
theorem dX7_best_205 : decode cX7_best 205 = .ok (.goto 5, 3) := by decide +kernel
theorem dX7_best_208 : decode cX7_best 208 = .ok (.bipush (-4), 2) := by decide +kernel
theorem dX7_best_210 : decode cX7_best 210 = .ok (.ireturn, 1) := by decide +kernel
theorem dX7_isOrder_0 : decode cX7_isOrder 0 = .ok (.aload_n 0, 1) := by decide +kernel
theorem dX7_isOrder_1 : decode cX7_isOrder 1 = .ok (.getfield 7, 3) := by decide +kernel
theorem dX7_isOrder_4 : decode cX7_isOrder 4 = .ok (.bipush 31, 2) := by decide +kernel
theorem dX7_isOrder_6 : decode cX7_isOrder 6 = .ok (.iaload, 1) := by decide +kernel
theorem dX7_isOrder_7 : decode cX7_isOrder 7 = .ok (.istore_n 2, 1) := by decide +kernel
theorem dX7_isOrder_8 : decode cX7_isOrder 8 = .ok (.iload_n 1, 1) := by decide +kernel
theorem dX7_isOrder_9 : decode cX7_isOrder 9 = .ok (.istore_n 3, 1) := by decide +kernel
theorem dX7_isOrder_10 : decode cX7_isOrder 10 = .ok (.iconst 0, 1) := by decide +kernel
theorem dX7_isOrder_11 : decode cX7_isOrder 11 = .ok (.istore 4, 2) := by decide +kernel
theorem dX7_isOrder_13 : decode cX7_isOrder 13 = .ok (.iload_n 2, 1) := by decide +kernel
theorem dX7_isOrder_14 : decode cX7_isOrder 14 = .ok (.iconst 1, 1) := by decide +kernel
theorem dX7_isOrder_15 : decode cX7_isOrder 15 = .ok (.isub, 1) := by decide +kernel
theorem dX7_isOrder_16 : decode cX7_isOrder 16 = .ok (.istore 5, 2) := by decide +kernel
theorem dX7_isOrder_18 : decode cX7_isOrder 18 = .ok (.iload 5, 2) := by decide +kernel
theorem dX7_isOrder_20 : decode cX7_isOrder 20 = .ok (.ifCond .lt 37, 3) := by decide +kernel
theorem dX7_isOrder_23 : decode cX7_isOrder 23 = .ok (.aload_n 0, 1) := by decide +kernel
theorem dX7_isOrder_24 : decode cX7_isOrder 24 = .ok (.getfield 29, 3) := by decide +kernel
theorem dX7_isOrder_27 : decode cX7_isOrder 27 = .ok (.iload 5, 2) := by decide +kernel
theorem dX7_isOrder_29 : decode cX7_isOrder 29 = .ok (.iload_n 3, 1) := by decide +kernel
theorem dX7_isOrder_30 : decode cX7_isOrder 30 = .ok (.iload_n 2, 1) := by decide +kernel
theorem dX7_isOrder_31 : decode cX7_isOrder 31 = .ok (.irem, 1) := by decide +kernel
theorem dX7_isOrder_32 : decode cX7_isOrder 32 = .ok (.iastore, 1) := by decide +kernel
theorem dX7_isOrder_33 : decode cX7_isOrder 33 = .ok (.iload_n 3, 1) := by decide +kernel
theorem dX7_isOrder_34 : decode cX7_isOrder 34 = .ok (.iload_n 2, 1) := by decide +kernel
theorem dX7_isOrder_35 : decode cX7_isOrder 35 = .ok (.idiv, 1) := by decide +kernel
theorem dX7_isOrder_36 : decode cX7_isOrder 36 = .ok (.istore_n 3, 1) := by decide +kernel
theorem dX7_isOrder_37 : decode cX7_isOrder 37 = .ok (.iload 4, 2) := by decide +kernel
theorem dX7_isOrder_39 : decode cX7_isOrder 39 = .ok (.iconst 1, 1) := by decide +kernel
theorem dX7_isOrder_40 : decode cX7_isOrder 40 = .ok (.aload_n 0, 1) := by decide +kernel
theorem dX7_isOrder_41 : decode cX7_isOrder 41 = .ok (.getfield 29, 3) := by decide +kernel
theorem dX7_isOrder_44 : decode cX7_isOrder 44 = .ok (.iload 5, 2) := by decide +kernel
theorem dX7_isOrder_46 : decode cX7_isOrder 46 = .ok (.iaload, 1) := by decide +kernel
theorem dX7_isOrder_47 : decode cX7_isOrder 47 = .ok (.ishl, 1) := by decide +kernel
theorem dX7_isOrder_48 : decode cX7_isOrder 48 = .ok (.ior, 1) := by decide +kernel
theorem dX7_isOrder_49 : decode cX7_isOrder 49 = .ok (.istore 4, 2) := by decide +kernel
theorem dX7_isOrder_51 : decode cX7_isOrder 51 = .ok (.iinc 5 (-1), 3) := by decide +kernel
theorem dX7_isOrder_54 : decode cX7_isOrder 54 = .ok (.goto (-36), 3) := by decide +kernel
theorem dX7_isOrder_57 : decode cX7_isOrder 57 = .ok (.iload 4, 2) := by decide +kernel
theorem dX7_isOrder_59 : decode cX7_isOrder 59 = .ok (.iconst 1, 1) := by decide +kernel
theorem dX7_isOrder_60 : decode cX7_isOrder 60 = .ok (.iload_n 2, 1) := by decide +kernel
theorem dX7_isOrder_61 : decode cX7_isOrder 61 = .ok (.ishl, 1) := by decide +kernel
theorem dX7_isOrder_62 : decode cX7_isOrder 62 = .ok (.iconst 1, 1) := by decide +kernel
theorem dX7_isOrder_63 : decode cX7_isOrder 63 = .ok (.isub, 1) := by decide +kernel
theorem dX7_isOrder_64 : decode cX7_isOrder 64 = .ok (.if_icmp .ne 7, 3) := by decide +kernel
theorem dX7_isOrder_67 : decode cX7_isOrder 67 = .ok (.iconst 1, 1) := by decide +kernel
theorem dX7_isOrder_68 : decode cX7_isOrder 68 = .ok (.goto 4, 3) := by decide +kernel
theorem dX7_isOrder_71 : decode cX7_isOrder 71 = .ok (.iconst 0, 1) := by decide +kernel
theorem dX7_isOrder_72 : decode cX7_isOrder 72 = .ok (.ireturn, 1) := by decide +kernel
theorem dX7_orders_0 : decode cX7_orders 0 = .ok (.iload_n 1, 1) := by decide +kernel
theorem dX7_orders_1 : decode cX7_orders 1 = .ok (.invokestatic 230, 3) := by decide +kernel
theorem dX7_orders_4 : decode cX7_orders 4 = .ok (.ifCond .ne 20, 3) := by decide +kernel
theorem dX7_orders_7 : decode cX7_orders 7 = .ok (.iload_n 1, 1) := by decide +kernel
theorem dX7_orders_8 : decode cX7_orders 8 = .ok (.bipush 10, 2) := by decide +kernel
theorem dX7_orders_10 : decode cX7_orders 10 = .ok (.isub, 1) := by decide +kernel
theorem dX7_orders_11 : decode cX7_orders 11 = .ok (.i2l, 1) := by decide +kernel
theorem dX7_orders_12 : decode cX7_orders 12 = .ok (.lconst 0, 1) := by decide +kernel
theorem dX7_orders_13 : decode cX7_orders 13 = .ok (.ldc2_w 213, 3) := by decide +kernel
theorem dX7_orders_16 : decode cX7_orders 16 = .ok (.invokestatic 69, 3) := by decide +kernel
theorem dX7_orders_19 : decode cX7_orders 19 = .ok (.ifCond .ne 5, 3) := by decide +kernel
theorem dX7_orders_22 : decode cX7_orders 22 = .ok (.iconst (-1), 1) := by decide +kernel
theorem dX7_orders_23 : decode cX7_orders 23 = .ok (.ireturn, 1) := by decide +kernel
theorem dX7_orders_24 : decode cX7_orders 24 = .ok (.aload_n 0, 1) := by decide +kernel
theorem dX7_orders_25 : decode cX7_orders 25 = .ok (.getfield 7, 3) := by decide +kernel
theorem dX7_orders_28 : decode cX7_orders 28 = .ok (.bipush 31, 2) := by decide +kernel
theorem dX7_orders_30 : decode cX7_orders 30 = .ok (.iaload, 1) := by decide +kernel
theorem dX7_orders_31 : decode cX7_orders 31 = .ok (.istore_n 2, 1) := by decide +kernel
theorem dX7_orders_32 : decode cX7_orders 32 = .ok (.iload_n 2, 1) := by decide +kernel
theorem dX7_orders_33 : decode cX7_orders 33 = .ok (.iconst 5, 1) := by decide +kernel
theorem dX7_orders_34 : decode cX7_orders 34 = .ok (.if_icmp .le 6, 3) := by decide +kernel
theorem dX7_orders_37 : decode cX7_orders 37 = .ok (.bipush (-2), 2) := by decide +kernel
theorem dX7_orders_39 : decode cX7_orders 39 = .ok (.ireturn, 1) := by decide +kernel
theorem dX7_orders_40 : decode cX7_orders 40 = .ok (.iconst 0, 1) := by decide +kernel
theorem dX7_orders_41 : decode cX7_orders 41 = .ok (.istore_n 3, 1) := by decide +kernel
theorem dX7_orders_42 : decode cX7_orders 42 = .ok (.bipush (-4), 2) := by decide +kernel
theorem dX7_orders_44 : decode cX7_orders 44 = .ok (.istore 4, 2) := by decide +kernel
theorem dX7_orders_46 : decode cX7_orders 46 = .ok (.bipush (-4), 2) := by decide +kernel
theorem dX7_orders_48 : decode cX7_orders 48 = .ok (.istore 5, 2) := by decide +kernel
theorem dX7_orders_50 : decode cX7_orders 50 = .ok (.iconst 0, 1) := by decide +kernel
theorem dX7_orders_51 : decode cX7_orders 51 = .ok (.istore 6, 2) := by decide +kernel
theorem dX7_orders_53 : decode cX7_orders 53 = .ok (.iload 6, 2) := by decide +kernel
theorem dX7_orders_55 : decode cX7_orders 55 = .ok (.iload_n 2, 1) := by decide +kernel
theorem dX7_orders_56 : decode cX7_orders 56 = .ok (.iload_n 2, 1) := by decide +kernel
theorem dX7_orders_57 : decode cX7_orders 57 = .ok (.invokestatic 223, 3) := by decide +kernel
theorem dX7_orders_60 : decode cX7_orders 60 = .ok (.if_icmp .ge 140, 3) := by decide +kernel
theorem dX7_orders_63 : decode cX7_orders 63 = .ok (.aload_n 0, 1) := by decide +kernel
theorem dX7_orders_64 : decode cX7_orders 64 = .ok (.iload 6, 2) := by decide +kernel
theorem dX7_orders_66 : decode cX7_orders 66 = .ok (.invokevirtual 233, 3) := by decide +kernel
theorem dX7_orders_69 : decode cX7_orders 69 = .ok (.ifCond .eq 125, 3) := by decide +kernel
theorem dX7_orders_72 : decode cX7_orders 72 = .ok (.iconst 0, 1) := by decide +kernel
theorem dX7_orders_73 : decode cX7_orders 73 = .ok (.istore 7, 2) := by decide +kernel
theorem dX7_orders_75 : decode cX7_orders 75 = .ok (.aload_n 0, 1) := by decide +kernel
theorem dX7_orders_76 : decode cX7_orders 76 = .ok (.invokevirtual 186, 3) := by decide +kernel
theorem dX7_orders_79 : decode cX7_orders 79 = .ok (.iconst 0, 1) := by decide +kernel
theorem dX7_orders_80 : decode cX7_orders 80 = .ok (.istore 8, 2) := by decide +kernel
theorem dX7_orders_82 : decode cX7_orders 82 = .ok (.iload 8, 2) := by decide +kernel
theorem dX7_orders_84 : decode cX7_orders 84 = .ok (.iload_n 2, 1) := by decide +kernel
theorem dX7_orders_85 : decode cX7_orders 85 = .ok (.if_icmp .ge 44, 3) := by decide +kernel
theorem dX7_orders_88 : decode cX7_orders 88 = .ok (.aload_n 0, 1) := by decide +kernel
theorem dX7_orders_89 : decode cX7_orders 89 = .ok (.getfield 64, 3) := by decide +kernel
theorem dX7_orders_92 : decode cX7_orders 92 = .ok (.ifCond .le 37, 3) := by decide +kernel
theorem dX7_orders_95 : decode cX7_orders 95 = .ok (.aload_n 0, 1) := by decide +kernel
theorem dX7_orders_96 : decode cX7_orders 96 = .ok (.aload_n 0, 1) := by decide +kernel
theorem dX7_orders_97 : decode cX7_orders 97 = .ok (.getfield 13, 3) := by decide +kernel
theorem dX7_orders_100 : decode cX7_orders 100 = .ok (.bipush 32, 2) := by decide +kernel
theorem dX7_orders_102 : decode cX7_orders 102 = .ok (.aload_n 0, 1) := by decide +kernel
theorem dX7_orders_103 : decode cX7_orders 103 = .ok (.getfield 29, 3) := by decide +kernel
theorem dX7_orders_106 : decode cX7_orders 106 = .ok (.iload 8, 2) := by decide +kernel
theorem dX7_orders_108 : decode cX7_orders 108 = .ok (.iaload, 1) := by decide +kernel
theorem dX7_orders_109 : decode cX7_orders 109 = .ok (.iadd, 1) := by decide +kernel
theorem dX7_orders_110 : decode cX7_orders 110 = .ok (.iaload, 1) := by decide +kernel
theorem dX7_orders_111 : decode cX7_orders 111 = .ok (.invokevirtual 180, 3) := by decide +kernel
theorem dX7_orders_114 : decode cX7_orders 114 = .ok (.iload 7, 2) := by decide +kernel
theorem dX7_orders_116 : decode cX7_orders 116 = .ok (.aload_n 0, 1) := by decide +kernel
theorem dX7_orders_117 : decode cX7_orders 117 = .ok (.invokevirtual 215, 3) := by decide +kernel
theorem dX7_orders_120 : decode cX7_orders 120 = .ok (.iadd, 1) := by decide +kernel
theorem dX7_orders_121 : decode cX7_orders 121 = .ok (.istore 7, 2) := by decide +kernel
theorem dX7_orders_123 : decode cX7_orders 123 = .ok (.iinc 8 1, 3) := by decide +kernel
theorem dX7_orders_126 : decode cX7_orders 126 = .ok (.goto (-44), 3) := by decide +kernel
theorem dX7_orders_129 : decode cX7_orders 129 = .ok (.iload 7, 2) := by decide +kernel
theorem dX7_orders_131 : decode cX7_orders 131 = .ok (.ifCond .ne 12, 3) := by decide +kernel
theorem dX7_orders_134 : decode cX7_orders 134 = .ok (.iload_n 3, 1) := by decide +kernel
theorem dX7_orders_135 : decode cX7_orders 135 = .ok (.ifCond .ne 8, 3) := by decide +kernel
theorem dX7_orders_138 : decode cX7_orders 138 = .ok (.iload 6, 2) := by decide +kernel
theorem dX7_orders_140 : decode cX7_orders 140 = .ok (.goto 5, 3) := by decide +kernel
theorem dX7_orders_143 : decode cX7_orders 143 = .ok (.iload 5, 2) := by decide +kernel
theorem dX7_orders_145 : decode cX7_orders 145 = .ok (.istore 5, 2) := by decide +kernel
theorem dX7_orders_147 : decode cX7_orders 147 = .ok (.iload 7, 2) := by decide +kernel
theorem dX7_orders_149 : decode cX7_orders 149 = .ok (.ifCond .ne 25, 3) := by decide +kernel
theorem dX7_orders_152 : decode cX7_orders 152 = .ok (.aload_n 0, 1) := by decide +kernel
theorem dX7_orders_153 : decode cX7_orders 153 = .ok (.invokevirtual 192, 3) := by decide +kernel
theorem dX7_orders_156 : decode cX7_orders 156 = .ok (.invokestatic 183, 3) := by decide +kernel
theorem dX7_orders_159 : decode cX7_orders 159 = .ok (.iload 4, 2) := by decide +kernel
theorem dX7_orders_161 : decode cX7_orders 161 = .ok (.if_icmp .le 13, 3) := by decide +kernel
theorem dX7_orders_164 : decode cX7_orders 164 = .ok (.aload_n 0, 1) := by decide +kernel
theorem dX7_orders_165 : decode cX7_orders 165 = .ok (.invokevirtual 192, 3) := by decide +kernel
theorem dX7_orders_168 : decode cX7_orders 168 = .ok (.invokestatic 183, 3) := by decide +kernel
theorem dX7_orders_171 : decode cX7_orders 171 = .ok (.goto 5, 3) := by decide +kernel
theorem dX7_orders_174 : decode cX7_orders 174 = .ok (.iload 4, 2) := by decide +kernel
theorem dX7_orders_176 : decode cX7_orders 176 = .ok (.istore 4, 2) := by decide +kernel
theorem dX7_orders_178 : decode cX7_orders 178 = .ok (.iload_n 3, 1) := by decide +kernel
theorem dX7_orders_179 : decode cX7_orders 179 = .ok (.iload 7, 2) := by decide +kernel
theorem dX7_orders_181 : decode cX7_orders 181 = .ok (.ifCond .ne 7, 3) := by decide +kernel
theorem dX7_orders_184 : decode cX7_orders 184 = .ok (.iconst 1, 1) := by decide +kernel
theorem dX7_orders_185 : decode cX7_orders 185 = .ok (.goto 4, 3) := by decide +kernel
theorem dX7_orders_188 : decode cX7_orders 188 = .ok (.iconst 0, 1) := by decide +kernel
theorem dX7_orders_189 : decode cX7_orders 189 = .ok (.invokestatic 160, 3) := by decide +kernel
theorem dX7_orders_192 : decode cX7_orders 192 = .ok (.iadd, 1) := by decide +kernel
theorem dX7_orders_193 : decode cX7_orders 193 = .ok (.istore_n 3, 1) := by decide +kernel
theorem dX7_orders_194 : decode cX7_orders 194 = .ok (.iinc 6 1, 3) := by decide +kernel
theorem dX7_orders_197 : decode cX7_orders 197 = .ok (.goto (-144), 3) := by decide +kernel
theorem dX7_orders_200 : decode cX7_orders 200 = .ok (.iload_n 1, 1) := by decide +kernel
theorem dX7_orders_201 : decode cX7_orders 201 = .ok (.invokestatic 230, 3) := by decide +kernel
theorem dX7_orders_204 : decode cX7_orders 204 = .ok (.ifCond .eq 14, 3) := by decide +kernel
theorem dX7_orders_207 : decode cX7_orders 207 = .ok (.iload_n 1, 1) := by decide +kernel
theorem dX7_orders_208 : decode cX7_orders 208 = .ok (.ifCond .ne 7, 3) := by decide +kernel
theorem dX7_orders_211 : decode cX7_orders 211 = .ok (.iload_n 3, 1) := by decide +kernel
theorem dX7_orders_212 : decode cX7_orders 212 = .ok (.goto 5, 3) := by decide +kernel
theorem dX7_orders_215 : decode cX7_orders 215 = .ok (.iload 4, 2) := by decide +kernel
theorem dX7_orders_217 : decode cX7_orders 217 = .ok (.ireturn, 1) := by decide +kernel
theorem dX7_orders_218 : decode cX7_orders 218 = .ok (.iload 5, 2) := by decide +kernel
theorem dX7_orders_220 : decode cX7_orders 220 = .ok (.bipush (-4), 2) := by decide +kernel
theorem dX7_orders_222 : decode cX7_orders 222 = .ok (.if_icmp .eq 11, 3) := by decide +kernel
theorem dX7_orders_225 : decode cX7_orders 225 = .ok (.iload_n 1, 1) := by decide +kernel
theorem dX7_orders_226 : decode cX7_orders 226 = .ok (.bipush 10, 2) := by decide +kernel
theorem dX7_orders_228 : decode cX7_orders 228 = .ok (.isub, 1) := by decide +kernel
theorem dX7_orders_229 : decode cX7_orders 229 = .ok (.iload_n 2, 1) := by decide +kernel
theorem dX7_orders_230 : decode cX7_orders 230 = .ok (.if_icmp .lt 6, 3) := by decide +kernel
theorem dX7_orders_233 : decode cX7_orders 233 = .ok (.bipush (-4), 2) := by decide +kernel
theorem dX7_orders_235 : decode cX7_orders 235 = .ok (.ireturn, 1) := by decide +kernel
theorem dX7_orders_236 : decode cX7_orders 236 = .ok (.aload_n 0, 1) := by decide +kernel
theorem dX7_orders_237 : decode cX7_orders 237 = .ok (.iload 5, 2) := by decide +kernel
theorem dX7_orders_239 : decode cX7_orders 239 = .ok (.invokevirtual 233, 3) := by decide +kernel
theorem dX7_orders_242 : decode cX7_orders 242 = .ok (.pop, 1) := by decide +kernel
theorem dX7_orders_243 : decode cX7_orders 243 = .ok (.aload_n 0, 1) := by decide +kernel
theorem dX7_orders_244 : decode cX7_orders 244 = .ok (.getfield 29, 3) := by decide +kernel
theorem dX7_orders_247 : decode cX7_orders 247 = .ok (.iload_n 1, 1) := by decide +kernel
theorem dX7_orders_248 : decode cX7_orders 248 = .ok (.bipush 10, 2) := by decide +kernel
theorem dX7_orders_250 : decode cX7_orders 250 = .ok (.isub, 1) := by decide +kernel
theorem dX7_orders_251 : decode cX7_orders 251 = .ok (.iaload, 1) := by decide +kernel
theorem dX7_orders_252 : decode cX7_orders 252 = .ok (.ireturn, 1) := by decide +kernel
theorem dX7_programTwice_0 : decode cX7_programTwice 0 = .ok (.aload_n 0, 1) := by decide +kernel
theorem dX7_programTwice_1 : decode cX7_programTwice 1 = .ok (.invokevirtual 186, 3) := by decide +kernel
theorem dX7_programTwice_4 : decode cX7_programTwice 4 = .ok (.iconst 0, 1) := by decide +kernel
theorem dX7_programTwice_5 : decode cX7_programTwice 5 = .ok (.istore_n 2, 1) := by decide +kernel
theorem dX7_programTwice_6 : decode cX7_programTwice 6 = .ok (.iload_n 2, 1) := by decide +kernel
theorem dX7_programTwice_7 : decode cX7_programTwice 7 = .ok (.aload_n 0, 1) := by decide +kernel
theorem dX7_programTwice_8 : decode cX7_programTwice 8 = .ok (.getfield 13, 3) := by decide +kernel
theorem dX7_programTwice_11 : decode cX7_programTwice 11 = .ok (.bipush 31, 2) := by decide +kernel
theorem dX7_programTwice_13 : decode cX7_programTwice 13 = .ok (.iaload, 1) := by decide +kernel
theorem dX7_programTwice_14 : decode cX7_programTwice 14 = .ok (.if_icmp .ge 51, 3) := by decide +kernel
theorem dX7_programTwice_17 : decode cX7_programTwice 17 = .ok (.aload_n 0, 1) := by decide +kernel
theorem dX7_programTwice_18 : decode cX7_programTwice 18 = .ok (.getfield 64, 3) := by decide +kernel
theorem dX7_programTwice_21 : decode cX7_programTwice 21 = .ok (.ifCond .le 44, 3) := by decide +kernel
theorem dX7_programTwice_24 : decode cX7_programTwice 24 = .ok (.aload_n 0, 1) := by decide +kernel
theorem dX7_programTwice_25 : decode cX7_programTwice 25 = .ok (.aload_n 0, 1) := by decide +kernel
theorem dX7_programTwice_26 : decode cX7_programTwice 26 = .ok (.getfield 13, 3) := by decide +kernel
theorem dX7_programTwice_29 : decode cX7_programTwice 29 = .ok (.bipush 32, 2) := by decide +kernel
theorem dX7_programTwice_31 : decode cX7_programTwice 31 = .ok (.iload_n 2, 1) := by decide +kernel
theorem dX7_programTwice_32 : decode cX7_programTwice 32 = .ok (.iadd, 1) := by decide +kernel
theorem dX7_programTwice_33 : decode cX7_programTwice 33 = .ok (.iaload, 1) := by decide +kernel
theorem dX7_programTwice_34 : decode cX7_programTwice 34 = .ok (.invokevirtual 180, 3) := by decide +kernel
theorem dX7_programTwice_37 : decode cX7_programTwice 37 = .ok (.iload_n 1, 1) := by decide +kernel
theorem dX7_programTwice_38 : decode cX7_programTwice 38 = .ok (.iload_n 2, 1) := by decide +kernel
theorem dX7_programTwice_39 : decode cX7_programTwice 39 = .ok (.ishr, 1) := by decide +kernel
theorem dX7_programTwice_40 : decode cX7_programTwice 40 = .ok (.iconst 1, 1) := by decide +kernel
theorem dX7_programTwice_41 : decode cX7_programTwice 41 = .ok (.iand, 1) := by decide +kernel
theorem dX7_programTwice_42 : decode cX7_programTwice 42 = .ok (.iconst 1, 1) := by decide +kernel
theorem dX7_programTwice_43 : decode cX7_programTwice 43 = .ok (.if_icmp .ne 16, 3) := by decide +kernel
theorem dX7_programTwice_46 : decode cX7_programTwice 46 = .ok (.aload_n 0, 1) := by decide +kernel
theorem dX7_programTwice_47 : decode cX7_programTwice 47 = .ok (.aload_n 0, 1) := by decide +kernel
theorem dX7_programTwice_48 : decode cX7_programTwice 48 = .ok (.getfield 13, 3) := by decide +kernel
theorem dX7_programTwice_51 : decode cX7_programTwice 51 = .ok (.bipush 32, 2) := by decide +kernel
theorem dX7_programTwice_53 : decode cX7_programTwice 53 = .ok (.iload_n 2, 1) := by decide +kernel
theorem dX7_programTwice_54 : decode cX7_programTwice 54 = .ok (.iadd, 1) := by decide +kernel
theorem dX7_programTwice_55 : decode cX7_programTwice 55 = .ok (.iaload, 1) := by decide +kernel
theorem dX7_programTwice_56 : decode cX7_programTwice 56 = .ok (.invokevirtual 180, 3) := by decide +kernel
theorem dX7_programTwice_59 : decode cX7_programTwice 59 = .ok (.iinc 2 1, 3) := by decide +kernel
theorem dX7_programTwice_62 : decode cX7_programTwice 62 = .ok (.goto (-56), 3) := by decide +kernel
theorem dX7_programTwice_65 : decode cX7_programTwice 65 = .ok (.return_, 1) := by decide +kernel
theorem dX7_again_0 : decode cX7_again 0 = .ok (.iload_n 1, 1) := by decide +kernel
theorem dX7_again_1 : decode cX7_again 1 = .ok (.invokestatic 230, 3) := by decide +kernel
theorem dX7_again_4 : decode cX7_again 4 = .ok (.ifCond .ne 5, 3) := by decide +kernel
theorem dX7_again_7 : decode cX7_again 7 = .ok (.iconst (-1), 1) := by decide +kernel
theorem dX7_again_8 : decode cX7_again 8 = .ok (.ireturn, 1) := by decide +kernel
theorem dX7_again_9 : decode cX7_again 9 = .ok (.aload_n 0, 1) := by decide +kernel
theorem dX7_again_10 : decode cX7_again 10 = .ok (.iconst 0, 1) := by decide +kernel
theorem dX7_again_11 : decode cX7_again 11 = .ok (.invokevirtual 236, 3) := by decide +kernel
theorem dX7_again_14 : decode cX7_again 14 = .ok (.aload_n 0, 1) := by decide +kernel
theorem dX7_again_15 : decode cX7_again 15 = .ok (.invokevirtual 192, 3) := by decide +kernel
theorem dX7_again_18 : decode cX7_again 18 = .ok (.invokestatic 183, 3) := by decide +kernel
theorem dX7_again_21 : decode cX7_again 21 = .ok (.istore_n 2, 1) := by decide +kernel
theorem dX7_again_22 : decode cX7_again 22 = .ok (.bipush (-4), 2) := by decide +kernel
theorem dX7_again_24 : decode cX7_again 24 = .ok (.istore_n 3, 1) := by decide +kernel
theorem dX7_again_25 : decode cX7_again 25 = .ok (.iconst 0, 1) := by decide +kernel
theorem dX7_again_26 : decode cX7_again 26 = .ok (.istore 4, 2) := by decide +kernel
theorem dX7_again_28 : decode cX7_again 28 = .ok (.iload 4, 2) := by decide +kernel
theorem dX7_again_30 : decode cX7_again 30 = .ok (.aload_n 0, 1) := by decide +kernel
theorem dX7_again_31 : decode cX7_again 31 = .ok (.getfield 7, 3) := by decide +kernel
theorem dX7_again_34 : decode cX7_again 34 = .ok (.bipush 31, 2) := by decide +kernel
theorem dX7_again_36 : decode cX7_again 36 = .ok (.iaload, 1) := by decide +kernel
theorem dX7_again_37 : decode cX7_again 37 = .ok (.if_icmp .ge 52, 3) := by decide +kernel
theorem dX7_again_40 : decode cX7_again 40 = .ok (.aload_n 0, 1) := by decide +kernel
theorem dX7_again_41 : decode cX7_again 41 = .ok (.iconst 1, 1) := by decide +kernel
theorem dX7_again_42 : decode cX7_again 42 = .ok (.iload 4, 2) := by decide +kernel
theorem dX7_again_44 : decode cX7_again 44 = .ok (.ishl, 1) := by decide +kernel
theorem dX7_again_45 : decode cX7_again 45 = .ok (.invokevirtual 236, 3) := by decide +kernel
theorem dX7_again_48 : decode cX7_again 48 = .ok (.aload_n 0, 1) := by decide +kernel
theorem dX7_again_49 : decode cX7_again 49 = .ok (.invokevirtual 192, 3) := by decide +kernel
theorem dX7_again_52 : decode cX7_again 52 = .ok (.invokestatic 183, 3) := by decide +kernel
theorem dX7_again_55 : decode cX7_again 55 = .ok (.istore 5, 2) := by decide +kernel
theorem dX7_again_57 : decode cX7_again 57 = .ok (.iload 5, 2) := by decide +kernel
theorem dX7_again_59 : decode cX7_again 59 = .ok (.iload_n 2, 1) := by decide +kernel
theorem dX7_again_60 : decode cX7_again 60 = .ok (.if_icmp .le 8, 3) := by decide +kernel
theorem dX7_again_63 : decode cX7_again 63 = .ok (.iload 4, 2) := by decide +kernel
theorem dX7_again_65 : decode cX7_again 65 = .ok (.goto 4, 3) := by decide +kernel
theorem dX7_again_68 : decode cX7_again 68 = .ok (.iload_n 3, 1) := by decide +kernel
theorem dX7_again_69 : decode cX7_again 69 = .ok (.istore_n 3, 1) := by decide +kernel
theorem dX7_again_70 : decode cX7_again 70 = .ok (.iload 5, 2) := by decide +kernel
theorem dX7_again_72 : decode cX7_again 72 = .ok (.iload_n 2, 1) := by decide +kernel
theorem dX7_again_73 : decode cX7_again 73 = .ok (.if_icmp .le 8, 3) := by decide +kernel
theorem dX7_again_76 : decode cX7_again 76 = .ok (.iload 5, 2) := by decide +kernel
theorem dX7_again_78 : decode cX7_again 78 = .ok (.goto 4, 3) := by decide +kernel
theorem dX7_again_81 : decode cX7_again 81 = .ok (.iload_n 2, 1) := by decide +kernel
theorem dX7_again_82 : decode cX7_again 82 = .ok (.istore_n 2, 1) := by decide +kernel
theorem dX7_again_83 : decode cX7_again 83 = .ok (.iinc 4 1, 3) := by decide +kernel
theorem dX7_again_86 : decode cX7_again 86 = .ok (.goto (-58), 3) := by decide +kernel
theorem dX7_again_89 : decode cX7_again 89 = .ok (.iload_n 3, 1) := by decide +kernel
theorem dX7_again_90 : decode cX7_again 90 = .ok (.bipush (-4), 2) := by decide +kernel
theorem dX7_again_92 : decode cX7_again 92 = .ok (.if_icmp .ne 8, 3) := by decide +kernel
theorem dX7_again_95 : decode cX7_again 95 = .ok (.bipush (-4), 2) := by decide +kernel
theorem dX7_again_97 : decode cX7_again 97 = .ok (.goto 12, 3) := by decide +kernel
theorem dX7_again_100 : decode cX7_again 100 = .ok (.iload_n 1, 1) := by decide +kernel
theorem dX7_again_101 : decode cX7_again 101 = .ok (.ifCond .ne 7, 3) := by decide +kernel
theorem dX7_again_104 : decode cX7_again 104 = .ok (.iload_n 3, 1) := by decide +kernel
theorem dX7_again_105 : decode cX7_again 105 = .ok (.goto 4, 3) := by decide +kernel
theorem dX7_again_108 : decode cX7_again 108 = .ok (.iload_n 2, 1) := by decide +kernel
theorem dX7_again_109 : decode cX7_again 109 = .ok (.ireturn, 1) := by decide +kernel
theorem dX7_coins_0 : decode cX7_coins 0 = .ok (.iload_n 1, 1) := by decide +kernel
theorem dX7_coins_1 : decode cX7_coins 1 = .ok (.i2l, 1) := by decide +kernel
theorem dX7_coins_2 : decode cX7_coins 2 = .ok (.lconst 0, 1) := by decide +kernel
theorem dX7_coins_3 : decode cX7_coins 3 = .ok (.iconst 1, 1) := by decide +kernel
theorem dX7_coins_4 : decode cX7_coins 4 = .ok (.aload_n 0, 1) := by decide +kernel
theorem dX7_coins_5 : decode cX7_coins 5 = .ok (.getfield 64, 3) := by decide +kernel
theorem dX7_coins_8 : decode cX7_coins 8 = .ok (.ishl, 1) := by decide +kernel
theorem dX7_coins_9 : decode cX7_coins 9 = .ok (.iconst 1, 1) := by decide +kernel
theorem dX7_coins_10 : decode cX7_coins 10 = .ok (.isub, 1) := by decide +kernel
theorem dX7_coins_11 : decode cX7_coins 11 = .ok (.i2l, 1) := by decide +kernel
theorem dX7_coins_12 : decode cX7_coins 12 = .ok (.invokestatic 69, 3) := by decide +kernel
theorem dX7_coins_15 : decode cX7_coins 15 = .ok (.ifCond .ne 5, 3) := by decide +kernel
theorem dX7_coins_18 : decode cX7_coins 18 = .ok (.iconst (-1), 1) := by decide +kernel
theorem dX7_coins_19 : decode cX7_coins 19 = .ok (.ireturn, 1) := by decide +kernel
theorem dX7_coins_20 : decode cX7_coins 20 = .ok (.aload_n 0, 1) := by decide +kernel
theorem dX7_coins_21 : decode cX7_coins 21 = .ok (.getfield 7, 3) := by decide +kernel
theorem dX7_coins_24 : decode cX7_coins 24 = .ok (.bipush 31, 2) := by decide +kernel
theorem dX7_coins_26 : decode cX7_coins 26 = .ok (.iaload, 1) := by decide +kernel
theorem dX7_coins_27 : decode cX7_coins 27 = .ok (.iconst 5, 1) := by decide +kernel
theorem dX7_coins_28 : decode cX7_coins 28 = .ok (.if_icmp .le 6, 3) := by decide +kernel
theorem dX7_coins_31 : decode cX7_coins 31 = .ok (.bipush (-2), 2) := by decide +kernel
theorem dX7_coins_33 : decode cX7_coins 33 = .ok (.ireturn, 1) := by decide +kernel
theorem dX7_coins_34 : decode cX7_coins 34 = .ok (.ldc 239, 2) := by decide +kernel
theorem dX7_coins_36 : decode cX7_coins 36 = .ok (.istore_n 2, 1) := by decide +kernel
theorem dX7_coins_37 : decode cX7_coins 37 = .ok (.iconst 0, 1) := by decide +kernel
theorem dX7_coins_38 : decode cX7_coins 38 = .ok (.istore_n 3, 1) := by decide +kernel
theorem dX7_coins_39 : decode cX7_coins 39 = .ok (.iload_n 3, 1) := by decide +kernel
theorem dX7_coins_40 : decode cX7_coins 40 = .ok (.iconst 1, 1) := by decide +kernel
theorem dX7_coins_41 : decode cX7_coins 41 = .ok (.aload_n 0, 1) := by decide +kernel
theorem dX7_coins_42 : decode cX7_coins 42 = .ok (.getfield 7, 3) := by decide +kernel
theorem dX7_coins_45 : decode cX7_coins 45 = .ok (.bipush 31, 2) := by decide +kernel
theorem dX7_coins_47 : decode cX7_coins 47 = .ok (.iaload, 1) := by decide +kernel
theorem dX7_coins_48 : decode cX7_coins 48 = .ok (.ishl, 1) := by decide +kernel
theorem dX7_coins_49 : decode cX7_coins 49 = .ok (.if_icmp .ge 54, 3) := by decide +kernel
theorem dX7_coins_52 : decode cX7_coins 52 = .ok (.aload_n 0, 1) := by decide +kernel
theorem dX7_coins_53 : decode cX7_coins 53 = .ok (.iload_n 3, 1) := by decide +kernel
theorem dX7_coins_54 : decode cX7_coins 54 = .ok (.invokevirtual 236, 3) := by decide +kernel
theorem dX7_coins_57 : decode cX7_coins 57 = .ok (.iload_n 1, 1) := by decide +kernel
theorem dX7_coins_58 : decode cX7_coins 58 = .ok (.aload_n 0, 1) := by decide +kernel
theorem dX7_coins_59 : decode cX7_coins 59 = .ok (.invokevirtual 192, 3) := by decide +kernel
theorem dX7_coins_62 : decode cX7_coins 62 = .ok (.iconst (-1), 1) := by decide +kernel
theorem dX7_coins_63 : decode cX7_coins 63 = .ok (.ixor, 1) := by decide +kernel
theorem dX7_coins_64 : decode cX7_coins 64 = .ok (.iand, 1) := by decide +kernel
theorem dX7_coins_65 : decode cX7_coins 65 = .ok (.ifCond .ne 15, 3) := by decide +kernel
theorem dX7_coins_68 : decode cX7_coins 68 = .ok (.iload_n 3, 1) := by decide +kernel
theorem dX7_coins_69 : decode cX7_coins 69 = .ok (.invokestatic 183, 3) := by decide +kernel
theorem dX7_coins_72 : decode cX7_coins 72 = .ok (.iload_n 2, 1) := by decide +kernel
theorem dX7_coins_73 : decode cX7_coins 73 = .ok (.if_icmp .ge 7, 3) := by decide +kernel
theorem dX7_coins_76 : decode cX7_coins 76 = .ok (.iconst 1, 1) := by decide +kernel
theorem dX7_coins_77 : decode cX7_coins 77 = .ok (.goto 4, 3) := by decide +kernel
theorem dX7_coins_80 : decode cX7_coins 80 = .ok (.iconst 0, 1) := by decide +kernel
theorem dX7_coins_81 : decode cX7_coins 81 = .ok (.istore 4, 2) := by decide +kernel
theorem dX7_coins_83 : decode cX7_coins 83 = .ok (.iload 4, 2) := by decide +kernel
theorem dX7_coins_85 : decode cX7_coins 85 = .ok (.ifCond .eq 10, 3) := by decide +kernel
theorem dX7_coins_88 : decode cX7_coins 88 = .ok (.iload_n 3, 1) := by decide +kernel
theorem dX7_coins_89 : decode cX7_coins 89 = .ok (.invokestatic 183, 3) := by decide +kernel
theorem dX7_coins_92 : decode cX7_coins 92 = .ok (.goto 4, 3) := by decide +kernel
theorem dX7_coins_95 : decode cX7_coins 95 = .ok (.iload_n 2, 1) := by decide +kernel
theorem dX7_coins_96 : decode cX7_coins 96 = .ok (.istore_n 2, 1) := by decide +kernel
theorem dX7_coins_97 : decode cX7_coins 97 = .ok (.iinc 3 1, 3) := by decide +kernel
theorem dX7_coins_100 : decode cX7_coins 100 = .ok (.goto (-61), 3) := by decide +kernel
theorem dX7_coins_103 : decode cX7_coins 103 = .ok (.iload_n 2, 1) := by decide +kernel
theorem dX7_coins_104 : decode cX7_coins 104 = .ok (.ldc 239, 2) := by decide +kernel
theorem dX7_coins_106 : decode cX7_coins 106 = .ok (.if_icmp .ne 8, 3) := by decide +kernel
theorem dX7_coins_109 : decode cX7_coins 109 = .ok (.bipush (-4), 2) := by decide +kernel
theorem dX7_coins_111 : decode cX7_coins 111 = .ok (.goto 4, 3) := by decide +kernel
theorem dX7_coins_114 : decode cX7_coins 114 = .ok (.iload_n 2, 1) := by decide +kernel
theorem dX7_coins_115 : decode cX7_coins 115 = .ok (.ireturn, 1) := by decide +kernel
