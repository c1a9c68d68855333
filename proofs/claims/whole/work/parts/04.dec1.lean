theorem dX7_trade_37 : decode cX7_trade 37 = .ok (.iastore, 1) := by decide +kernel
theorem dX7_trade_38 : decode cX7_trade 38 = .ok (.aload_n 1, 1) := by decide +kernel
theorem dX7_trade_39 : decode cX7_trade 39 = .ok (.getfield 273, 3) := by decide +kernel
theorem dX7_trade_42 : decode cX7_trade 42 = .ok (.getfield 110, 3) := by decide +kernel
theorem dX7_trade_45 : decode cX7_trade 45 = .ok (.aload_n 2, 1) := by decide +kernel
theorem dX7_trade_46 : decode cX7_trade 46 = .ok (.getfield 276, 3) := by decide +kernel
theorem dX7_trade_49 : decode cX7_trade 49 = .ok (.dup2, 1) := by decide +kernel
theorem dX7_trade_50 : decode cX7_trade 50 = .ok (.iaload, 1) := by decide +kernel
theorem dX7_trade_51 : decode cX7_trade 51 = .ok (.aload_n 2, 1) := by decide +kernel
theorem dX7_trade_52 : decode cX7_trade 52 = .ok (.getfield 279, 3) := by decide +kernel
theorem dX7_trade_55 : decode cX7_trade 55 = .ok (.iadd, 1) := by decide +kernel
theorem dX7_trade_56 : decode cX7_trade 56 = .ok (.iastore, 1) := by decide +kernel
theorem dX7_trade_57 : decode cX7_trade 57 = .ok (.aload_n 2, 1) := by decide +kernel
theorem dX7_trade_58 : decode cX7_trade 58 = .ok (.getfield 273, 3) := by decide +kernel
theorem dX7_trade_61 : decode cX7_trade 61 = .ok (.getfield 110, 3) := by decide +kernel
theorem dX7_trade_64 : decode cX7_trade 64 = .ok (.aload_n 1, 1) := by decide +kernel
theorem dX7_trade_65 : decode cX7_trade 65 = .ok (.getfield 276, 3) := by decide +kernel
theorem dX7_trade_68 : decode cX7_trade 68 = .ok (.dup2, 1) := by decide +kernel
theorem dX7_trade_69 : decode cX7_trade 69 = .ok (.iaload, 1) := by decide +kernel
theorem dX7_trade_70 : decode cX7_trade 70 = .ok (.aload_n 1, 1) := by decide +kernel
theorem dX7_trade_71 : decode cX7_trade 71 = .ok (.getfield 279, 3) := by decide +kernel
theorem dX7_trade_74 : decode cX7_trade 74 = .ok (.iadd, 1) := by decide +kernel
theorem dX7_trade_75 : decode cX7_trade 75 = .ok (.iastore, 1) := by decide +kernel
theorem dX7_trade_76 : decode cX7_trade 76 = .ok (.aload_n 1, 1) := by decide +kernel
theorem dX7_trade_77 : decode cX7_trade 77 = .ok (.getfield 270, 3) := by decide +kernel
theorem dX7_trade_80 : decode cX7_trade 80 = .ok (.ifnull 22, 3) := by decide +kernel
theorem dX7_trade_83 : decode cX7_trade 83 = .ok (.aload_n 0, 1) := by decide +kernel
theorem dX7_trade_84 : decode cX7_trade 84 = .ok (.getfield 25, 3) := by decide +kernel
theorem dX7_trade_87 : decode cX7_trade 87 = .ok (.aload_n 1, 1) := by decide +kernel
theorem dX7_trade_88 : decode cX7_trade 88 = .ok (.getfield 270, 3) := by decide +kernel
theorem dX7_trade_91 : decode cX7_trade 91 = .ok (.aload_n 2, 1) := by decide +kernel
theorem dX7_trade_92 : decode cX7_trade 92 = .ok (.getfield 273, 3) := by decide +kernel
theorem dX7_trade_95 : decode cX7_trade 95 = .ok (.aload_n 0, 1) := by decide +kernel
theorem dX7_trade_96 : decode cX7_trade 96 = .ok (.getfield 124, 3) := by decide +kernel
theorem dX7_trade_99 : decode cX7_trade 99 = .ok (.invokevirtual 154, 3) := by decide +kernel
theorem dX7_trade_102 : decode cX7_trade 102 = .ok (.aload_n 2, 1) := by decide +kernel
theorem dX7_trade_103 : decode cX7_trade 103 = .ok (.getfield 270, 3) := by decide +kernel
theorem dX7_trade_106 : decode cX7_trade 106 = .ok (.ifnull 22, 3) := by decide +kernel
theorem dX7_trade_109 : decode cX7_trade 109 = .ok (.aload_n 0, 1) := by decide +kernel
theorem dX7_trade_110 : decode cX7_trade 110 = .ok (.getfield 25, 3) := by decide +kernel
theorem dX7_trade_113 : decode cX7_trade 113 = .ok (.aload_n 2, 1) := by decide +kernel
theorem dX7_trade_114 : decode cX7_trade 114 = .ok (.getfield 270, 3) := by decide +kernel
theorem dX7_trade_117 : decode cX7_trade 117 = .ok (.aload_n 1, 1) := by decide +kernel
theorem dX7_trade_118 : decode cX7_trade 118 = .ok (.getfield 273, 3) := by decide +kernel
theorem dX7_trade_121 : decode cX7_trade 121 = .ok (.aload_n 0, 1) := by decide +kernel
theorem dX7_trade_122 : decode cX7_trade 122 = .ok (.getfield 124, 3) := by decide +kernel
theorem dX7_trade_125 : decode cX7_trade 125 = .ok (.invokevirtual 154, 3) := by decide +kernel
theorem dX7_trade_128 : decode cX7_trade 128 = .ok (.return_, 1) := by decide +kernel
theorem dX7_gains_0 : decode cX7_gains 0 = .ok (.aload_n 0, 1) := by decide +kernel
theorem dX7_gains_1 : decode cX7_gains 1 = .ok (.getfield 32, 3) := by decide +kernel
theorem dX7_gains_4 : decode cX7_gains 4 = .ok (.invokevirtual 282, 3) := by decide +kernel
theorem dX7_gains_7 : decode cX7_gains 7 = .ok (.iconst 0, 1) := by decide +kernel
theorem dX7_gains_8 : decode cX7_gains 8 = .ok (.istore_n 1, 1) := by decide +kernel
theorem dX7_gains_9 : decode cX7_gains 9 = .ok (.iload_n 1, 1) := by decide +kernel
theorem dX7_gains_10 : decode cX7_gains 10 = .ok (.aload_n 0, 1) := by decide +kernel
theorem dX7_gains_11 : decode cX7_gains 11 = .ok (.getfield 16, 3) := by decide +kernel
theorem dX7_gains_14 : decode cX7_gains 14 = .ok (.invokevirtual 47, 3) := by decide +kernel
theorem dX7_gains_17 : decode cX7_gains 17 = .ok (.if_icmp .ge 36, 3) := by decide +kernel
theorem dX7_gains_20 : decode cX7_gains 20 = .ok (.aload_n 0, 1) := by decide +kernel
theorem dX7_gains_21 : decode cX7_gains 21 = .ok (.getfield 16, 3) := by decide +kernel
theorem dX7_gains_24 : decode cX7_gains 24 = .ok (.iload_n 1, 1) := by decide +kernel
theorem dX7_gains_25 : decode cX7_gains 25 = .ok (.invokevirtual 285, 3) := by decide +kernel
theorem dX7_gains_28 : decode cX7_gains 28 = .ok (.checkcast 69, 3) := by decide +kernel
theorem dX7_gains_31 : decode cX7_gains 31 = .ok (.astore_n 2, 1) := by decide +kernel
theorem dX7_gains_32 : decode cX7_gains 32 = .ok (.aload_n 2, 1) := by decide +kernel
theorem dX7_gains_33 : decode cX7_gains 33 = .ok (.getfield 289, 3) := by decide +kernel
theorem dX7_gains_36 : decode cX7_gains 36 = .ok (.ifCond .ne 11, 3) := by decide +kernel
theorem dX7_gains_39 : decode cX7_gains 39 = .ok (.aload_n 0, 1) := by decide +kernel
theorem dX7_gains_40 : decode cX7_gains 40 = .ok (.getfield 32, 3) := by decide +kernel
theorem dX7_gains_43 : decode cX7_gains 43 = .ok (.aload_n 2, 1) := by decide +kernel
theorem dX7_gains_44 : decode cX7_gains 44 = .ok (.invokevirtual 292, 3) := by decide +kernel
theorem dX7_gains_47 : decode cX7_gains 47 = .ok (.iinc 1 1, 3) := by decide +kernel
theorem dX7_gains_50 : decode cX7_gains 50 = .ok (.goto (-41), 3) := by decide +kernel
theorem dX7_gains_53 : decode cX7_gains 53 = .ok (.aload_n 0, 1) := by decide +kernel
theorem dX7_gains_54 : decode cX7_gains 54 = .ok (.getfield 32, 3) := by decide +kernel
theorem dX7_gains_57 : decode cX7_gains 57 = .ok (.invokevirtual 296, 3) := by decide +kernel
theorem dX7_gains_60 : decode cX7_gains 60 = .ok (.ireturn, 1) := by decide +kernel
theorem dX7_times_0 : decode cX7_times 0 = .ok (.aload_n 0, 1) := by decide +kernel
theorem dX7_times_1 : decode cX7_times 1 = .ok (.iload_n 1, 1) := by decide +kernel
theorem dX7_times_2 : decode cX7_times 2 = .ok (.invokevirtual 74, 3) := by decide +kernel
theorem dX7_times_5 : decode cX7_times 5 = .ok (.astore_n 3, 1) := by decide +kernel
theorem dX7_times_6 : decode cX7_times 6 = .ok (.iload_n 2, 1) := by decide +kernel
theorem dX7_times_7 : decode cX7_times 7 = .ok (.iconst 0, 1) := by decide +kernel
theorem dX7_times_8 : decode cX7_times 8 = .ok (.sipush 1000, 3) := by decide +kernel
theorem dX7_times_11 : decode cX7_times 11 = .ok (.invokestatic 81, 3) := by decide +kernel
theorem dX7_times_14 : decode cX7_times 14 = .ok (.aload_n 3, 1) := by decide +kernel
theorem dX7_times_15 : decode cX7_times 15 = .ok (.iload_n 2, 1) := by decide +kernel
theorem dX7_times_16 : decode cX7_times 16 = .ok (.putfield 299, 3) := by decide +kernel
theorem dX7_times_19 : decode cX7_times 19 = .ok (.return_, 1) := by decide +kernel
theorem dX7_earns_0 : decode cX7_earns 0 = .ok (.iconst 0, 1) := by decide +kernel
theorem dX7_earns_1 : decode cX7_earns 1 = .ok (.istore_n 1, 1) := by decide +kernel
theorem dX7_earns_2 : decode cX7_earns 2 = .ok (.iconst 0, 1) := by decide +kernel
theorem dX7_earns_3 : decode cX7_earns 3 = .ok (.istore_n 2, 1) := by decide +kernel
theorem dX7_earns_4 : decode cX7_earns 4 = .ok (.iload_n 2, 1) := by decide +kernel
theorem dX7_earns_5 : decode cX7_earns 5 = .ok (.iconst 4, 1) := by decide +kernel
theorem dX7_earns_6 : decode cX7_earns 6 = .ok (.if_icmp .ge 35, 3) := by decide +kernel
theorem dX7_earns_9 : decode cX7_earns 9 = .ok (.aload_n 0, 1) := by decide +kernel
theorem dX7_earns_10 : decode cX7_earns 10 = .ok (.iload_n 2, 1) := by decide +kernel
theorem dX7_earns_11 : decode cX7_earns 11 = .ok (.invokevirtual 302, 3) := by decide +kernel
theorem dX7_earns_14 : decode cX7_earns 14 = .ok (.istore_n 3, 1) := by decide +kernel
theorem dX7_earns_15 : decode cX7_earns 15 = .ok (.iload_n 3, 1) := by decide +kernel
theorem dX7_earns_16 : decode cX7_earns 16 = .ok (.ifCond .ge 5, 3) := by decide +kernel
theorem dX7_earns_19 : decode cX7_earns 19 = .ok (.iconst 0, 1) := by decide +kernel
theorem dX7_earns_20 : decode cX7_earns 20 = .ok (.ireturn, 1) := by decide +kernel
theorem dX7_earns_21 : decode cX7_earns 21 = .ok (.iload_n 1, 1) := by decide +kernel
theorem dX7_earns_22 : decode cX7_earns 22 = .ok (.ifCond .ne 7, 3) := by decide +kernel
theorem dX7_earns_25 : decode cX7_earns 25 = .ok (.iload_n 3, 1) := by decide +kernel
theorem dX7_earns_26 : decode cX7_earns 26 = .ok (.ifCond .le 7, 3) := by decide +kernel
theorem dX7_earns_29 : decode cX7_earns 29 = .ok (.iconst 1, 1) := by decide +kernel
theorem dX7_earns_30 : decode cX7_earns 30 = .ok (.goto 4, 3) := by decide +kernel
theorem dX7_earns_33 : decode cX7_earns 33 = .ok (.iconst 0, 1) := by decide +kernel
theorem dX7_earns_34 : decode cX7_earns 34 = .ok (.istore_n 1, 1) := by decide +kernel
theorem dX7_earns_35 : decode cX7_earns 35 = .ok (.iinc 2 1, 3) := by decide +kernel
theorem dX7_earns_38 : decode cX7_earns 38 = .ok (.goto (-34), 3) := by decide +kernel
theorem dX7_earns_41 : decode cX7_earns 41 = .ok (.iload_n 1, 1) := by decide +kernel
theorem dX7_earns_42 : decode cX7_earns 42 = .ok (.ireturn, 1) := by decide +kernel
theorem dX7_weigh_0 : decode cX7_weigh 0 = .ok (.iload_n 1, 1) := by decide +kernel
theorem dX7_weigh_1 : decode cX7_weigh 1 = .ok (.invokestatic 78, 3) := by decide +kernel
theorem dX7_weigh_4 : decode cX7_weigh 4 = .ok (.iload_n 2, 1) := by decide +kernel
theorem dX7_weigh_5 : decode cX7_weigh 5 = .ok (.iconst 0, 1) := by decide +kernel
theorem dX7_weigh_6 : decode cX7_weigh 6 = .ok (.sipush 1000, 3) := by decide +kernel
theorem dX7_weigh_9 : decode cX7_weigh 9 = .ok (.invokestatic 81, 3) := by decide +kernel
theorem dX7_weigh_12 : decode cX7_weigh 12 = .ok (.aload_n 0, 1) := by decide +kernel
theorem dX7_weigh_13 : decode cX7_weigh 13 = .ok (.getfield 36, 3) := by decide +kernel
theorem dX7_weigh_16 : decode cX7_weigh 16 = .ok (.iload_n 1, 1) := by decide +kernel
theorem dX7_weigh_17 : decode cX7_weigh 17 = .ok (.iload_n 2, 1) := by decide +kernel
theorem dX7_weigh_18 : decode cX7_weigh 18 = .ok (.iastore, 1) := by decide +kernel
theorem dX7_weigh_19 : decode cX7_weigh 19 = .ok (.return_, 1) := by decide +kernel
theorem dX7_bars_0 : decode cX7_bars 0 = .ok (.iconst 0, 1) := by decide +kernel
theorem dX7_bars_1 : decode cX7_bars 1 = .ok (.istore_n 1, 1) := by decide +kernel
theorem dX7_bars_2 : decode cX7_bars 2 = .ok (.iload_n 1, 1) := by decide +kernel
theorem dX7_bars_3 : decode cX7_bars 3 = .ok (.iconst 4, 1) := by decide +kernel
theorem dX7_bars_4 : decode cX7_bars 4 = .ok (.if_icmp .ge 20, 3) := by decide +kernel
theorem dX7_bars_7 : decode cX7_bars 7 = .ok (.aload_n 0, 1) := by decide +kernel
theorem dX7_bars_8 : decode cX7_bars 8 = .ok (.getfield 36, 3) := by decide +kernel
theorem dX7_bars_11 : decode cX7_bars 11 = .ok (.iload_n 1, 1) := by decide +kernel
theorem dX7_bars_12 : decode cX7_bars 12 = .ok (.iaload, 1) := by decide +kernel
theorem dX7_bars_13 : decode cX7_bars 13 = .ok (.ifCond .ne 5, 3) := by decide +kernel
theorem dX7_bars_16 : decode cX7_bars 16 = .ok (.iconst 0, 1) := by decide +kernel
theorem dX7_bars_17 : decode cX7_bars 17 = .ok (.ireturn, 1) := by decide +kernel
theorem dX7_bars_18 : decode cX7_bars 18 = .ok (.iinc 1 1, 3) := by decide +kernel
theorem dX7_bars_21 : decode cX7_bars 21 = .ok (.goto (-19), 3) := by decide +kernel
theorem dX7_bars_24 : decode cX7_bars 24 = .ok (.iconst 0, 1) := by decide +kernel
theorem dX7_bars_25 : decode cX7_bars 25 = .ok (.istore_n 1, 1) := by decide +kernel
theorem dX7_bars_26 : decode cX7_bars 26 = .ok (.iload_n 1, 1) := by decide +kernel
theorem dX7_bars_27 : decode cX7_bars 27 = .ok (.aload_n 0, 1) := by decide +kernel
theorem dX7_bars_28 : decode cX7_bars 28 = .ok (.getfield 16, 3) := by decide +kernel
theorem dX7_bars_31 : decode cX7_bars 31 = .ok (.invokevirtual 47, 3) := by decide +kernel
theorem dX7_bars_34 : decode cX7_bars 34 = .ok (.if_icmp .ge 38, 3) := by decide +kernel
theorem dX7_bars_37 : decode cX7_bars 37 = .ok (.aload_n 0, 1) := by decide +kernel
theorem dX7_bars_38 : decode cX7_bars 38 = .ok (.getfield 16, 3) := by decide +kernel
theorem dX7_bars_41 : decode cX7_bars 41 = .ok (.iload_n 1, 1) := by decide +kernel
theorem dX7_bars_42 : decode cX7_bars 42 = .ok (.invokevirtual 285, 3) := by decide +kernel
theorem dX7_bars_45 : decode cX7_bars 45 = .ok (.checkcast 69, 3) := by decide +kernel
theorem dX7_bars_48 : decode cX7_bars 48 = .ok (.astore_n 2, 1) := by decide +kernel
theorem dX7_bars_49 : decode cX7_bars 49 = .ok (.aload_n 2, 1) := by decide +kernel
theorem dX7_bars_50 : decode cX7_bars 50 = .ok (.getfield 289, 3) := by decide +kernel
theorem dX7_bars_53 : decode cX7_bars 53 = .ok (.ifCond .ne 13, 3) := by decide +kernel
theorem dX7_bars_56 : decode cX7_bars 56 = .ok (.aload_n 0, 1) := by decide +kernel
theorem dX7_bars_57 : decode cX7_bars 57 = .ok (.aload_n 2, 1) := by decide +kernel
theorem dX7_bars_58 : decode cX7_bars 58 = .ok (.invokevirtual 306, 3) := by decide +kernel
theorem dX7_bars_61 : decode cX7_bars 61 = .ok (.ifCond .le 5, 3) := by decide +kernel
theorem dX7_bars_64 : decode cX7_bars 64 = .ok (.iconst 0, 1) := by decide +kernel
theorem dX7_bars_65 : decode cX7_bars 65 = .ok (.ireturn, 1) := by decide +kernel
theorem dX7_bars_66 : decode cX7_bars 66 = .ok (.iinc 1 1, 3) := by decide +kernel
theorem dX7_bars_69 : decode cX7_bars 69 = .ok (.goto (-43), 3) := by decide +kernel
theorem dX7_bars_72 : decode cX7_bars 72 = .ok (.iconst 1, 1) := by decide +kernel
theorem dX7_bars_73 : decode cX7_bars 73 = .ok (.ireturn, 1) := by decide +kernel
theorem dX7_wonByTimes_0 : decode cX7_wonByTimes 0 = .ok (.iconst 0, 1) := by decide +kernel
theorem dX7_wonByTimes_1 : decode cX7_wonByTimes 1 = .ok (.istore_n 2, 1) := by decide +kernel
theorem dX7_wonByTimes_2 : decode cX7_wonByTimes 2 = .ok (.iconst 0, 1) := by decide +kernel
theorem dX7_wonByTimes_3 : decode cX7_wonByTimes 3 = .ok (.istore_n 3, 1) := by decide +kernel
theorem dX7_wonByTimes_4 : decode cX7_wonByTimes 4 = .ok (.iload_n 3, 1) := by decide +kernel
theorem dX7_wonByTimes_5 : decode cX7_wonByTimes 5 = .ok (.aload_n 0, 1) := by decide +kernel
theorem dX7_wonByTimes_6 : decode cX7_wonByTimes 6 = .ok (.getfield 16, 3) := by decide +kernel
theorem dX7_wonByTimes_9 : decode cX7_wonByTimes 9 = .ok (.invokevirtual 47, 3) := by decide +kernel
theorem dX7_wonByTimes_12 : decode cX7_wonByTimes 12 = .ok (.if_icmp .ge 45, 3) := by decide +kernel
theorem dX7_wonByTimes_15 : decode cX7_wonByTimes 15 = .ok (.aload_n 0, 1) := by decide +kernel
theorem dX7_wonByTimes_16 : decode cX7_wonByTimes 16 = .ok (.getfield 16, 3) := by decide +kernel
theorem dX7_wonByTimes_19 : decode cX7_wonByTimes 19 = .ok (.iload_n 3, 1) := by decide +kernel
theorem dX7_wonByTimes_20 : decode cX7_wonByTimes 20 = .ok (.invokevirtual 285, 3) := by decide +kernel
theorem dX7_wonByTimes_23 : decode cX7_wonByTimes 23 = .ok (.checkcast 69, 3) := by decide +kernel
theorem dX7_wonByTimes_26 : decode cX7_wonByTimes 26 = .ok (.astore 4, 2) := by decide +kernel
theorem dX7_wonByTimes_28 : decode cX7_wonByTimes 28 = .ok (.aload 4, 2) := by decide +kernel
theorem dX7_wonByTimes_30 : decode cX7_wonByTimes 30 = .ok (.getfield 289, 3) := by decide +kernel
theorem dX7_wonByTimes_33 : decode cX7_wonByTimes 33 = .ok (.ifCond .ne 18, 3) := by decide +kernel
theorem dX7_wonByTimes_36 : decode cX7_wonByTimes 36 = .ok (.iload_n 2, 1) := by decide +kernel
theorem dX7_wonByTimes_37 : decode cX7_wonByTimes 37 = .ok (.aload 4, 2) := by decide +kernel
theorem dX7_wonByTimes_39 : decode cX7_wonByTimes 39 = .ok (.getfield 299, 3) := by decide +kernel
theorem dX7_wonByTimes_42 : decode cX7_wonByTimes 42 = .ok (.aload 4, 2) := by decide +kernel
theorem dX7_wonByTimes_44 : decode cX7_wonByTimes 44 = .ok (.iload_n 1, 1) := by decide +kernel
theorem dX7_wonByTimes_45 : decode cX7_wonByTimes 45 = .ok (.invokevirtual 310, 3) := by decide +kernel
theorem dX7_wonByTimes_48 : decode cX7_wonByTimes 48 = .ok (.imul, 1) := by decide +kernel
theorem dX7_wonByTimes_49 : decode cX7_wonByTimes 49 = .ok (.iadd, 1) := by decide +kernel
theorem dX7_wonByTimes_50 : decode cX7_wonByTimes 50 = .ok (.istore_n 2, 1) := by decide +kernel
theorem dX7_wonByTimes_51 : decode cX7_wonByTimes 51 = .ok (.iinc 3 1, 3) := by decide +kernel
theorem dX7_wonByTimes_54 : decode cX7_wonByTimes 54 = .ok (.goto (-50), 3) := by decide +kernel
theorem dX7_wonByTimes_57 : decode cX7_wonByTimes 57 = .ok (.iload_n 2, 1) := by decide +kernel
theorem dX7_wonByTimes_58 : decode cX7_wonByTimes 58 = .ok (.ireturn, 1) := by decide +kernel
theorem dX7_weightWonBy_0 : decode cX7_weightWonBy 0 = .ok (.iconst 0, 1) := by decide +kernel
theorem dX7_weightWonBy_1 : decode cX7_weightWonBy 1 = .ok (.istore_n 2, 1) := by decide +kernel
theorem dX7_weightWonBy_2 : decode cX7_weightWonBy 2 = .ok (.iconst 0, 1) := by decide +kernel
theorem dX7_weightWonBy_3 : decode cX7_weightWonBy 3 = .ok (.istore_n 3, 1) := by decide +kernel
theorem dX7_weightWonBy_4 : decode cX7_weightWonBy 4 = .ok (.iload_n 3, 1) := by decide +kernel
theorem dX7_weightWonBy_5 : decode cX7_weightWonBy 5 = .ok (.iconst 4, 1) := by decide +kernel
theorem dX7_weightWonBy_6 : decode cX7_weightWonBy 6 = .ok (.if_icmp .ge 24, 3) := by decide +kernel
theorem dX7_weightWonBy_9 : decode cX7_weightWonBy 9 = .ok (.iload_n 2, 1) := by decide +kernel
theorem dX7_weightWonBy_10 : decode cX7_weightWonBy 10 = .ok (.aload_n 0, 1) := by decide +kernel
theorem dX7_weightWonBy_11 : decode cX7_weightWonBy 11 = .ok (.getfield 36, 3) := by decide +kernel
theorem dX7_weightWonBy_14 : decode cX7_weightWonBy 14 = .ok (.iload_n 3, 1) := by decide +kernel
theorem dX7_weightWonBy_15 : decode cX7_weightWonBy 15 = .ok (.iaload, 1) := by decide +kernel
theorem dX7_weightWonBy_16 : decode cX7_weightWonBy 16 = .ok (.aload_n 1, 1) := by decide +kernel
theorem dX7_weightWonBy_17 : decode cX7_weightWonBy 17 = .ok (.iload_n 3, 1) := by decide +kernel
theorem dX7_weightWonBy_18 : decode cX7_weightWonBy 18 = .ok (.invokevirtual 310, 3) := by decide +kernel
theorem dX7_weightWonBy_21 : decode cX7_weightWonBy 21 = .ok (.imul, 1) := by decide +kernel
theorem dX7_weightWonBy_22 : decode cX7_weightWonBy 22 = .ok (.iadd, 1) := by decide +kernel
theorem dX7_weightWonBy_23 : decode cX7_weightWonBy 23 = .ok (.istore_n 2, 1) := by decide +kernel
theorem dX7_weightWonBy_24 : decode cX7_weightWonBy 24 = .ok (.iinc 3 1, 3) := by decide +kernel
theorem dX7_weightWonBy_27 : decode cX7_weightWonBy 27 = .ok (.goto (-23), 3) := by decide +kernel
theorem dX7_weightWonBy_30 : decode cX7_weightWonBy 30 = .ok (.iload_n 2, 1) := by decide +kernel
theorem dX7_weightWonBy_31 : decode cX7_weightWonBy 31 = .ok (.ireturn, 1) := by decide +kernel
theorem dX7_count_0 : decode cX7_count 0 = .ok (.iload_n 1, 1) := by decide +kernel
theorem dX7_count_1 : decode cX7_count 1 = .ok (.tableswitch 114 0 8 #[51, 56, 64, 72, 80, 88, 96, 104, 109], 51) := by decide +kernel
theorem dX7_count_52 : decode cX7_count 52 = .ok (.aload_n 0, 1) := by decide +kernel
theorem dX7_count_53 : decode cX7_count 53 = .ok (.getfield 124, 3) := by decide +kernel
theorem dX7_count_56 : decode cX7_count 56 = .ok (.ireturn, 1) := by decide +kernel
theorem dX7_count_57 : decode cX7_count 57 = .ok (.aload_n 0, 1) := by decide +kernel
theorem dX7_count_58 : decode cX7_count 58 = .ok (.getfield 10, 3) := by decide +kernel
theorem dX7_count_61 : decode cX7_count 61 = .ok (.invokevirtual 47, 3) := by decide +kernel
theorem dX7_count_64 : decode cX7_count 64 = .ok (.ireturn, 1) := by decide +kernel
theorem dX7_count_65 : decode cX7_count 65 = .ok (.aload_n 0, 1) := by decide +kernel
theorem dX7_count_66 : decode cX7_count 66 = .ok (.getfield 16, 3) := by decide +kernel
theorem dX7_count_69 : decode cX7_count 69 = .ok (.invokevirtual 47, 3) := by decide +kernel
theorem dX7_count_72 : decode cX7_count 72 = .ok (.ireturn, 1) := by decide +kernel
theorem dX7_count_73 : decode cX7_count 73 = .ok (.aload_n 0, 1) := by decide +kernel
theorem dX7_count_74 : decode cX7_count 74 = .ok (.getfield 25, 3) := by decide +kernel
theorem dX7_count_77 : decode cX7_count 77 = .ok (.invokevirtual 116, 3) := by decide +kernel
theorem dX7_count_80 : decode cX7_count 80 = .ok (.ireturn, 1) := by decide +kernel
theorem dX7_count_81 : decode cX7_count 81 = .ok (.aload_n 0, 1) := by decide +kernel
theorem dX7_count_82 : decode cX7_count 82 = .ok (.getfield 25, 3) := by decide +kernel
theorem dX7_count_85 : decode cX7_count 85 = .ok (.invokevirtual 313, 3) := by decide +kernel
theorem dX7_count_88 : decode cX7_count 88 = .ok (.ireturn, 1) := by decide +kernel
theorem dX7_count_89 : decode cX7_count 89 = .ok (.aload_n 0, 1) := by decide +kernel
theorem dX7_count_90 : decode cX7_count 90 = .ok (.getfield 25, 3) := by decide +kernel
theorem dX7_count_93 : decode cX7_count 93 = .ok (.invokevirtual 316, 3) := by decide +kernel
theorem dX7_count_96 : decode cX7_count 96 = .ok (.ireturn, 1) := by decide +kernel
theorem dX7_count_97 : decode cX7_count 97 = .ok (.aload_n 0, 1) := by decide +kernel
theorem dX7_count_98 : decode cX7_count 98 = .ok (.getfield 19, 3) := by decide +kernel
theorem dX7_count_101 : decode cX7_count 101 = .ok (.invokevirtual 47, 3) := by decide +kernel
theorem dX7_count_104 : decode cX7_count 104 = .ok (.ireturn, 1) := by decide +kernel
theorem dX7_count_105 : decode cX7_count 105 = .ok (.aload_n 0, 1) := by decide +kernel
theorem dX7_count_106 : decode cX7_count 106 = .ok (.invokevirtual 319, 3) := by decide +kernel
theorem dX7_count_109 : decode cX7_count 109 = .ok (.ireturn, 1) := by decide +kernel
theorem dX7_count_110 : decode cX7_count 110 = .ok (.aload_n 0, 1) := by decide +kernel
theorem dX7_count_111 : decode cX7_count 111 = .ok (.getfield 113, 3) := by decide +kernel
theorem dX7_count_114 : decode cX7_count 114 = .ok (.ireturn, 1) := by decide +kernel
theorem dX7_count_115 : decode cX7_count 115 = .ok (.iconst (-1), 1) := by decide +kernel
theorem dX7_count_116 : decode cX7_count 116 = .ok (.ireturn, 1) := by decide +kernel
theorem dX7_countOpen_0 : decode cX7_countOpen 0 = .ok (.iconst 0, 1) := by decide +kernel
theorem dX7_countOpen_1 : decode cX7_countOpen 1 = .ok (.istore_n 1, 1) := by decide +kernel
theorem dX7_countOpen_2 : decode cX7_countOpen 2 = .ok (.iconst 0, 1) := by decide +kernel
theorem dX7_countOpen_3 : decode cX7_countOpen 3 = .ok (.istore_n 2, 1) := by decide +kernel
theorem dX7_countOpen_4 : decode cX7_countOpen 4 = .ok (.iload_n 2, 1) := by decide +kernel
theorem dX7_countOpen_5 : decode cX7_countOpen 5 = .ok (.aload_n 0, 1) := by decide +kernel
theorem dX7_countOpen_6 : decode cX7_countOpen 6 = .ok (.getfield 19, 3) := by decide +kernel
theorem dX7_countOpen_9 : decode cX7_countOpen 9 = .ok (.invokevirtual 47, 3) := by decide +kernel
theorem dX7_countOpen_12 : decode cX7_countOpen 12 = .ok (.if_icmp .ge 29, 3) := by decide +kernel
theorem dX7_countOpen_15 : decode cX7_countOpen 15 = .ok (.aload_n 0, 1) := by decide +kernel
theorem dX7_countOpen_16 : decode cX7_countOpen 16 = .ok (.getfield 19, 3) := by decide +kernel
theorem dX7_countOpen_19 : decode cX7_countOpen 19 = .ok (.iload_n 2, 1) := by decide +kernel
theorem dX7_countOpen_20 : decode cX7_countOpen 20 = .ok (.invokevirtual 285, 3) := by decide +kernel
theorem dX7_countOpen_23 : decode cX7_countOpen 23 = .ok (.checkcast 226, 3) := by decide +kernel
theorem dX7_countOpen_26 : decode cX7_countOpen 26 = .ok (.getfield 248, 3) := by decide +kernel
theorem dX7_countOpen_29 : decode cX7_countOpen 29 = .ok (.ifCond .eq 6, 3) := by decide +kernel
theorem dX7_countOpen_32 : decode cX7_countOpen 32 = .ok (.iinc 1 1, 3) := by decide +kernel
theorem dX7_countOpen_35 : decode cX7_countOpen 35 = .ok (.iinc 2 1, 3) := by decide +kernel
theorem dX7_countOpen_38 : decode cX7_countOpen 38 = .ok (.goto (-34), 3) := by decide +kernel
theorem dX7_countOpen_41 : decode cX7_countOpen 41 = .ok (.iload_n 1, 1) := by decide +kernel
theorem dX7_countOpen_42 : decode cX7_countOpen 42 = .ok (.ireturn, 1) := by decide +kernel
theorem dX7_playerAt_0 : decode cX7_playerAt 0 = .ok (.iload_n 1, 1) := by decide +kernel
theorem dX7_playerAt_1 : decode cX7_playerAt 1 = .ok (.ifCond .lt 14, 3) := by decide +kernel
theorem dX7_playerAt_4 : decode cX7_playerAt 4 = .ok (.iload_n 1, 1) := by decide +kernel
theorem dX7_playerAt_5 : decode cX7_playerAt 5 = .ok (.aload_n 0, 1) := by decide +kernel
theorem dX7_playerAt_6 : decode cX7_playerAt 6 = .ok (.getfield 10, 3) := by decide +kernel
theorem dX7_playerAt_9 : decode cX7_playerAt 9 = .ok (.invokevirtual 47, 3) := by decide +kernel
theorem dX7_playerAt_12 : decode cX7_playerAt 12 = .ok (.if_icmp .lt 14, 3) := by decide +kernel
theorem dX7_playerAt_15 : decode cX7_playerAt 15 = .ok (.new 322, 3) := by decide +kernel
theorem dX7_playerAt_18 : decode cX7_playerAt 18 = .ok (.dup, 1) := by decide +kernel
theorem dX7_playerAt_19 : decode cX7_playerAt 19 = .ok (.ldc_w 324, 3) := by decide +kernel
theorem dX7_playerAt_22 : decode cX7_playerAt 22 = .ok (.invokespecial 326, 3) := by decide +kernel
theorem dX7_playerAt_25 : decode cX7_playerAt 25 = .ok (.athrow, 1) := by decide +kernel
theorem dX7_playerAt_26 : decode cX7_playerAt 26 = .ok (.aload_n 0, 1) := by decide +kernel
theorem dX7_playerAt_27 : decode cX7_playerAt 27 = .ok (.getfield 10, 3) := by decide +kernel
theorem dX7_playerAt_30 : decode cX7_playerAt 30 = .ok (.iload_n 1, 1) := by decide +kernel
theorem dX7_playerAt_31 : decode cX7_playerAt 31 = .ok (.invokevirtual 285, 3) := by decide +kernel
theorem dX7_playerAt_34 : decode cX7_playerAt 34 = .ok (.checkcast 58, 3) := by decide +kernel
theorem dX7_playerAt_37 : decode cX7_playerAt 37 = .ok (.areturn, 1) := by decide +kernel
theorem dX7_ruleAt_0 : decode cX7_ruleAt 0 = .ok (.iload_n 1, 1) := by decide +kernel
theorem dX7_ruleAt_1 : decode cX7_ruleAt 1 = .ok (.ifCond .lt 14, 3) := by decide +kernel
theorem dX7_ruleAt_4 : decode cX7_ruleAt 4 = .ok (.iload_n 1, 1) := by decide +kernel
theorem dX7_ruleAt_5 : decode cX7_ruleAt 5 = .ok (.aload_n 0, 1) := by decide +kernel
theorem dX7_ruleAt_6 : decode cX7_ruleAt 6 = .ok (.getfield 16, 3) := by decide +kernel
theorem dX7_ruleAt_9 : decode cX7_ruleAt 9 = .ok (.invokevirtual 47, 3) := by decide +kernel
theorem dX7_ruleAt_12 : decode cX7_ruleAt 12 = .ok (.if_icmp .lt 14, 3) := by decide +kernel
theorem dX7_ruleAt_15 : decode cX7_ruleAt 15 = .ok (.new 322, 3) := by decide +kernel
theorem dX7_ruleAt_18 : decode cX7_ruleAt 18 = .ok (.dup, 1) := by decide +kernel
theorem dX7_ruleAt_19 : decode cX7_ruleAt 19 = .ok (.ldc_w 327, 3) := by decide +kernel
theorem dX7_ruleAt_22 : decode cX7_ruleAt 22 = .ok (.invokespecial 326, 3) := by decide +kernel
theorem dX7_ruleAt_25 : decode cX7_ruleAt 25 = .ok (.athrow, 1) := by decide +kernel
theorem dX7_ruleAt_26 : decode cX7_ruleAt 26 = .ok (.aload_n 0, 1) := by decide +kernel
theorem dX7_ruleAt_27 : decode cX7_ruleAt 27 = .ok (.getfield 16, 3) := by decide +kernel
theorem dX7_ruleAt_30 : decode cX7_ruleAt 30 = .ok (.iload_n 1, 1) := by decide +kernel
theorem dX7_ruleAt_31 : decode cX7_ruleAt 31 = .ok (.invokevirtual 285, 3) := by decide +kernel
theorem dX7_ruleAt_34 : decode cX7_ruleAt 34 = .ok (.checkcast 69, 3) := by decide +kernel
theorem dX7_ruleAt_37 : decode cX7_ruleAt 37 = .ok (.areturn, 1) := by decide +kernel
theorem dX7_offerAt_0 : decode cX7_offerAt 0 = .ok (.iload_n 1, 1) := by decide +kernel
theorem dX7_offerAt_1 : decode cX7_offerAt 1 = .ok (.ifCond .lt 14, 3) := by decide +kernel
theorem dX7_offerAt_4 : decode cX7_offerAt 4 = .ok (.iload_n 1, 1) := by decide +kernel
theorem dX7_offerAt_5 : decode cX7_offerAt 5 = .ok (.aload_n 0, 1) := by decide +kernel
theorem dX7_offerAt_6 : decode cX7_offerAt 6 = .ok (.getfield 19, 3) := by decide +kernel
theorem dX7_offerAt_9 : decode cX7_offerAt 9 = .ok (.invokevirtual 47, 3) := by decide +kernel
theorem dX7_offerAt_12 : decode cX7_offerAt 12 = .ok (.if_icmp .lt 14, 3) := by decide +kernel
theorem dX7_offerAt_15 : decode cX7_offerAt 15 = .ok (.new 322, 3) := by decide +kernel
theorem dX7_offerAt_18 : decode cX7_offerAt 18 = .ok (.dup, 1) := by decide +kernel
theorem dX7_offerAt_19 : decode cX7_offerAt 19 = .ok (.ldc_w 329, 3) := by decide +kernel
theorem dX7_offerAt_22 : decode cX7_offerAt 22 = .ok (.invokespecial 326, 3) := by decide +kernel
theorem dX7_offerAt_25 : decode cX7_offerAt 25 = .ok (.athrow, 1) := by decide +kernel
theorem dX7_offerAt_26 : decode cX7_offerAt 26 = .ok (.aload_n 0, 1) := by decide +kernel
theorem dX7_offerAt_27 : decode cX7_offerAt 27 = .ok (.getfield 19, 3) := by decide +kernel
theorem dX7_offerAt_30 : decode cX7_offerAt 30 = .ok (.iload_n 1, 1) := by decide +kernel
theorem dX7_offerAt_31 : decode cX7_offerAt 31 = .ok (.invokevirtual 285, 3) := by decide +kernel
theorem dX7_offerAt_34 : decode cX7_offerAt 34 = .ok (.checkcast 226, 3) := by decide +kernel
theorem dX7_offerAt_37 : decode cX7_offerAt 37 = .ok (.areturn, 1) := by decide +kernel
theorem dX7_checkKind_0 : decode cX7_checkKind 0 = .ok (.iload_n 0, 1) := by decide +kernel
theorem dX7_checkKind_1 : decode cX7_checkKind 1 = .ok (.ifCond .lt 8, 3) := by decide +kernel
theorem dX7_checkKind_4 : decode cX7_checkKind 4 = .ok (.iload_n 0, 1) := by decide +kernel
theorem dX7_checkKind_5 : decode cX7_checkKind 5 = .ok (.iconst 4, 1) := by decide +kernel
theorem dX7_checkKind_6 : decode cX7_checkKind 6 = .ok (.if_icmp .lt 14, 3) := by decide +kernel
theorem dX7_checkKind_9 : decode cX7_checkKind 9 = .ok (.new 322, 3) := by decide +kernel
theorem dX7_checkKind_12 : decode cX7_checkKind 12 = .ok (.dup, 1) := by decide +kernel
theorem dX7_checkKind_13 : decode cX7_checkKind 13 = .ok (.ldc_w 331, 3) := by decide +kernel
theorem dX7_checkKind_16 : decode cX7_checkKind 16 = .ok (.invokespecial 326, 3) := by decide +kernel
theorem dX7_checkKind_19 : decode cX7_checkKind 19 = .ok (.athrow, 1) := by decide +kernel
theorem dX7_checkKind_20 : decode cX7_checkKind 20 = .ok (.return_, 1) := by decide +kernel
theorem dX7_checkRange_0 : decode cX7_checkRange 0 = .ok (.iload_n 0, 1) := by decide +kernel
theorem dX7_checkRange_1 : decode cX7_checkRange 1 = .ok (.iload_n 1, 1) := by decide +kernel
theorem dX7_checkRange_2 : decode cX7_checkRange 2 = .ok (.if_icmp .lt 8, 3) := by decide +kernel
theorem dX7_checkRange_5 : decode cX7_checkRange 5 = .ok (.iload_n 0, 1) := by decide +kernel
theorem dX7_checkRange_6 : decode cX7_checkRange 6 = .ok (.iload_n 2, 1) := by decide +kernel
theorem dX7_checkRange_7 : decode cX7_checkRange 7 = .ok (.if_icmp .le 14, 3) := by decide +kernel
theorem dX7_checkRange_10 : decode cX7_checkRange 10 = .ok (.new 218, 3) := by decide +kernel
theorem dX7_checkRange_13 : decode cX7_checkRange 13 = .ok (.dup, 1) := by decide +kernel
theorem dX7_checkRange_14 : decode cX7_checkRange 14 = .ok (.ldc_w 333, 3) := by decide +kernel
theorem dX7_checkRange_17 : decode cX7_checkRange 17 = .ok (.invokespecial 222, 3) := by decide +kernel
theorem dX7_checkRange_20 : decode cX7_checkRange 20 = .ok (.athrow, 1) := by decide +kernel
theorem dX7_checkRange_21 : decode cX7_checkRange 21 = .ok (.return_, 1) := by decide +kernel
theorem dX7_numberOf_0 : decode cX7_numberOf 0 = .ok (.aload_n 0, 1) := by decide +kernel
theorem dX7_numberOf_1 : decode cX7_numberOf 1 = .ok (.ifnonnull 7, 3) := by decide +kernel
theorem dX7_numberOf_4 : decode cX7_numberOf 4 = .ok (.iconst (-1), 1) := by decide +kernel
theorem dX7_numberOf_5 : decode cX7_numberOf 5 = .ok (.goto 7, 3) := by decide +kernel
theorem dX7_numberOf_8 : decode cX7_numberOf 8 = .ok (.aload_n 0, 1) := by decide +kernel
theorem dX7_numberOf_9 : decode cX7_numberOf 9 = .ok (.getfield 335, 3) := by decide +kernel
theorem dX7_numberOf_12 : decode cX7_numberOf 12 = .ok (.ireturn, 1) := by decide +kernel
theorem dX8_init_0 : decode cX8_init 0 = .ok (.aload_n 0, 1) := by decide +kernel
theorem dX8_init_1 : decode cX8_init 1 = .ok (.invokespecial 1, 3) := by decide +kernel
theorem dX8_init_4 : decode cX8_init 4 = .ok (.aload_n 0, 1) := by decide +kernel
theorem dX8_init_5 : decode cX8_init 5 = .ok (.bipush 40, 2) := by decide +kernel
theorem dX8_init_7 : decode cX8_init 7 = .ok (.newarray .int, 2) := by decide +kernel
theorem dX8_init_9 : decode cX8_init 9 = .ok (.putfield 9, 3) := by decide +kernel
theorem dX8_init_12 : decode cX8_init 12 = .ok (.aload_n 0, 1) := by decide +kernel
theorem dX8_init_13 : decode cX8_init 13 = .ok (.bipush 10, 2) := by decide +kernel
theorem dX8_init_15 : decode cX8_init 15 = .ok (.newarray .int, 2) := by decide +kernel
theorem dX8_init_17 : decode cX8_init 17 = .ok (.putfield 13, 3) := by decide +kernel
theorem dX8_init_20 : decode cX8_init 20 = .ok (.aload_n 0, 1) := by decide +kernel
theorem dX8_init_21 : decode cX8_init 21 = .ok (.bipush 10, 2) := by decide +kernel
theorem dX8_init_23 : decode cX8_init 23 = .ok (.newarray .int, 2) := by decide +kernel
theorem dX8_init_25 : decode cX8_init 25 = .ok (.putfield 16, 3) := by decide +kernel
theorem dX8_init_28 : decode cX8_init 28 = .ok (.aload_n 0, 1) := by decide +kernel
theorem dX8_init_29 : decode cX8_init 29 = .ok (.bipush 40, 2) := by decide +kernel
theorem dX8_init_31 : decode cX8_init 31 = .ok (.newarray .int, 2) := by decide +kernel
theorem dX8_init_33 : decode cX8_init 33 = .ok (.putfield 19, 3) := by decide +kernel
theorem dX8_init_36 : decode cX8_init 36 = .ok (.aload_n 0, 1) := by decide +kernel
theorem dX8_init_37 : decode cX8_init 37 = .ok (.bipush 40, 2) := by decide +kernel
theorem dX8_init_39 : decode cX8_init 39 = .ok (.newarray .int, 2) := by decide +kernel
theorem dX8_init_41 : decode cX8_init 41 = .ok (.putfield 22, 3) := by decide +kernel
theorem dX8_init_44 : decode cX8_init 44 = .ok (.aload_n 0, 1) := by decide +kernel
theorem dX8_init_45 : decode cX8_init 45 = .ok (.bipush 10, 2) := by decide +kernel
theorem dX8_init_47 : decode cX8_init 47 = .ok (.newarray .boolean, 2) := by decide +kernel
theorem dX8_init_49 : decode cX8_init 49 = .ok (.putfield 25, 3) := by decide +kernel
theorem dX8_init_52 : decode cX8_init 52 = .ok (.aload_n 0, 1) := by decide +kernel
theorem dX8_init_53 : decode cX8_init 53 = .ok (.bipush 10, 2) := by decide +kernel
theorem dX8_init_55 : decode cX8_init 55 = .ok (.newarray .int, 2) := by decide +kernel
theorem dX8_init_57 : decode cX8_init 57 = .ok (.putfield 29, 3) := by decide +kernel
theorem dX8_init_60 : decode cX8_init 60 = .ok (.aload_n 0, 1) := by decide +kernel
theorem dX8_init_61 : decode cX8_init 61 = .ok (.iconst 4, 1) := by decide +kernel
theorem dX8_init_62 : decode cX8_init 62 = .ok (.newarray .int, 2) := by decide +kernel
theorem dX8_init_64 : decode cX8_init 64 = .ok (.putfield 32, 3) := by decide +kernel
theorem dX8_init_67 : decode cX8_init 67 = .ok (.aload_n 0, 1) := by decide +kernel
theorem dX8_init_68 : decode cX8_init 68 = .ok (.iconst 4, 1) := by decide +kernel
theorem dX8_init_69 : decode cX8_init 69 = .ok (.newarray .long, 2) := by decide +kernel
theorem dX8_init_71 : decode cX8_init 71 = .ok (.putfield 35, 3) := by decide +kernel
theorem dX8_init_74 : decode cX8_init 74 = .ok (.aload_n 0, 1) := by decide +kernel
theorem dX8_init_75 : decode cX8_init 75 = .ok (.iconst 4, 1) := by decide +kernel
theorem dX8_init_76 : decode cX8_init 76 = .ok (.newarray .long, 2) := by decide +kernel
theorem dX8_init_78 : decode cX8_init 78 = .ok (.putfield 39, 3) := by decide +kernel
theorem dX8_init_81 : decode cX8_init 81 = .ok (.aload_n 0, 1) := by decide +kernel
theorem dX8_init_82 : decode cX8_init 82 = .ok (.bipush 40, 2) := by decide +kernel
theorem dX8_init_84 : decode cX8_init 84 = .ok (.newarray .int, 2) := by decide +kernel
theorem dX8_init_86 : decode cX8_init 86 = .ok (.putfield 42, 3) := by decide +kernel
theorem dX8_init_89 : decode cX8_init 89 = .ok (.aload_n 0, 1) := by decide +kernel
theorem dX8_init_90 : decode cX8_init 90 = .ok (.bipush 40, 2) := by decide +kernel
theorem dX8_init_92 : decode cX8_init 92 = .ok (.newarray .boolean, 2) := by decide +kernel
theorem dX8_init_94 : decode cX8_init 94 = .ok (.putfield 45, 3) := by decide +kernel
theorem dX8_init_97 : decode cX8_init 97 = .ok (.aload_n 0, 1) := by decide +kernel
theorem dX8_init_98 : decode cX8_init 98 = .ok (.bipush 40, 2) := by decide +kernel
theorem dX8_init_100 : decode cX8_init 100 = .ok (.newarray .int, 2) := by decide +kernel
theorem dX8_init_102 : decode cX8_init 102 = .ok (.putfield 48, 3) := by decide +kernel
theorem dX8_init_105 : decode cX8_init 105 = .ok (.aload_n 0, 1) := by decide +kernel
theorem dX8_init_106 : decode cX8_init 106 = .ok (.bipush 40, 2) := by decide +kernel
theorem dX8_init_108 : decode cX8_init 108 = .ok (.newarray .int, 2) := by decide +kernel
theorem dX8_init_110 : decode cX8_init 110 = .ok (.putfield 51, 3) := by decide +kernel
theorem dX8_init_113 : decode cX8_init 113 = .ok (.aload_n 0, 1) := by decide +kernel
theorem dX8_init_114 : decode cX8_init 114 = .ok (.bipush 40, 2) := by decide +kernel
theorem dX8_init_116 : decode cX8_init 116 = .ok (.newarray .int, 2) := by decide +kernel
theorem dX8_init_118 : decode cX8_init 118 = .ok (.putfield 54, 3) := by decide +kernel
theorem dX8_init_121 : decode cX8_init 121 = .ok (.aload_n 0, 1) := by decide +kernel
theorem dX8_init_122 : decode cX8_init 122 = .ok (.bipush 40, 2) := by decide +kernel
theorem dX8_init_124 : decode cX8_init 124 = .ok (.newarray .int, 2) := by decide +kernel
theorem dX8_init_126 : decode cX8_init 126 = .ok (.putfield 57, 3) := by decide +kernel
theorem dX8_init_129 : decode cX8_init 129 = .ok (.aload_n 0, 1) := by decide +kernel
theorem dX8_init_130 : decode cX8_init 130 = .ok (.bipush 40, 2) := by decide +kernel
theorem dX8_init_132 : decode cX8_init 132 = .ok (.newarray .int, 2) := by decide +kernel
theorem dX8_init_134 : decode cX8_init 134 = .ok (.putfield 60, 3) := by decide +kernel
theorem dX8_init_137 : decode cX8_init 137 = .ok (.aload_n 0, 1) := by decide +kernel
theorem dX8_init_138 : decode cX8_init 138 = .ok (.sipush 1200, 3) := by decide +kernel
theorem dX8_init_141 : decode cX8_init 141 = .ok (.newarray .int, 2) := by decide +kernel
theorem dX8_init_143 : decode cX8_init 143 = .ok (.putfield 63, 3) := by decide +kernel
theorem dX8_init_146 : decode cX8_init 146 = .ok (.aload_n 0, 1) := by decide +kernel
theorem dX8_init_147 : decode cX8_init 147 = .ok (.sipush 1200, 3) := by decide +kernel
theorem dX8_init_150 : decode cX8_init 150 = .ok (.newarray .int, 2) := by decide +kernel
theorem dX8_init_152 : decode cX8_init 152 = .ok (.putfield 66, 3) := by decide +kernel
theorem dX8_init_155 : decode cX8_init 155 = .ok (.aload_n 0, 1) := by decide +kernel
theorem dX8_init_156 : decode cX8_init 156 = .ok (.bipush 40, 2) := by decide +kernel
theorem dX8_init_158 : decode cX8_init 158 = .ok (.newarray .int, 2) := by decide +kernel
theorem dX8_init_160 : decode cX8_init 160 = .ok (.putfield 69, 3) := by decide +kernel
theorem dX8_init_163 : decode cX8_init 163 = .ok (.aload_n 0, 1) := by decide +kernel
theorem dX8_init_164 : decode cX8_init 164 = .ok (.sipush 600, 3) := by decide +kernel
theorem dX8_init_167 : decode cX8_init 167 = .ok (.newarray .int, 2) := by decide +kernel
theorem dX8_init_169 : decode cX8_init 169 = .ok (.putfield 72, 3) := by decide +kernel
theorem dX8_init_172 : decode cX8_init 172 = .ok (.aload_n 0, 1) := by decide +kernel
theorem dX8_init_173 : decode cX8_init 173 = .ok (.bipush 60, 2) := by decide +kernel
theorem dX8_init_175 : decode cX8_init 175 = .ok (.newarray .boolean, 2) := by decide +kernel
theorem dX8_init_177 : decode cX8_init 177 = .ok (.putfield 75, 3) := by decide +kernel
theorem dX8_init_180 : decode cX8_init 180 = .ok (.aload_n 0, 1) := by decide +kernel
theorem dX8_init_181 : decode cX8_init 181 = .ok (.iconst 4, 1) := by decide +kernel
theorem dX8_init_182 : decode cX8_init 182 = .ok (.newarray .int, 2) := by decide +kernel
theorem dX8_init_184 : decode cX8_init 184 = .ok (.putfield 78, 3) := by decide +kernel
theorem dX8_init_187 : decode cX8_init 187 = .ok (.aload_n 0, 1) := by decide +kernel
theorem dX8_init_188 : decode cX8_init 188 = .ok (.bipush 32, 2) := by decide +kernel
theorem dX8_init_190 : decode cX8_init 190 = .ok (.newarray .int, 2) := by decide +kernel
theorem dX8_init_192 : decode cX8_init 192 = .ok (.putfield 81, 3) := by decide +kernel
theorem dX8_init_195 : decode cX8_init 195 = .ok (.aload_n 0, 1) := by decide +kernel
theorem dX8_init_196 : decode cX8_init 196 = .ok (.iconst 4, 1) := by decide +kernel
theorem dX8_init_197 : decode cX8_init 197 = .ok (.newarray .long, 2) := by decide +kernel
theorem dX8_init_199 : decode cX8_init 199 = .ok (.putfield 84, 3) := by decide +kernel
theorem dX8_init_202 : decode cX8_init 202 = .ok (.return_, 1) := by decide +kernel
theorem dX8_thrown_0 : decode cX8_thrown 0 = .ok (.aload_n 0, 1) := by decide +kernel
theorem dX8_thrown_1 : decode cX8_thrown 1 = .ok (.getfield 87, 3) := by decide +kernel
theorem dX8_thrown_4 : decode cX8_thrown 4 = .ok (.ireturn, 1) := by decide +kernel
theorem dX8_throwsIf_0 : decode cX8_throwsIf 0 = .ok (.iload_n 1, 1) := by decide +kernel
theorem dX8_throwsIf_1 : decode cX8_throwsIf 1 = .ok (.ifCond .eq 8, 3) := by decide +kernel
theorem dX8_throwsIf_4 : decode cX8_throwsIf 4 = .ok (.aload_n 0, 1) := by decide +kernel
theorem dX8_throwsIf_5 : decode cX8_throwsIf 5 = .ok (.iload_n 2, 1) := by decide +kernel
theorem dX8_throwsIf_6 : decode cX8_throwsIf 6 = .ok (.putfield 87, 3) := by decide +kernel
theorem dX8_throwsIf_9 : decode cX8_throwsIf 9 = .ok (.iload_n 1, 1) := by decide +kernel
theorem dX8_throwsIf_10 : decode cX8_throwsIf 10 = .ok (.ireturn, 1) := by decide +kernel
theorem dX8_in_0 : decode cX8_in 0 = .ok (.lload_n 0, 1) := by decide +kernel
theorem dX8_in_1 : decode cX8_in 1 = .ok (.lload_n 2, 1) := by decide +kernel
theorem dX8_in_2 : decode cX8_in 2 = .ok (.lcmp, 1) := by decide +kernel
theorem dX8_in_3 : decode cX8_in 3 = .ok (.ifCond .lt 14, 3) := by decide +kernel
theorem dX8_in_6 : decode cX8_in 6 = .ok (.lload_n 0, 1) := by decide +kernel
theorem dX8_in_7 : decode cX8_in 7 = .ok (.lload 4, 2) := by decide +kernel
theorem dX8_in_9 : decode cX8_in 9 = .ok (.lcmp, 1) := by decide +kernel
theorem dX8_in_10 : decode cX8_in 10 = .ok (.ifCond .gt 7, 3) := by decide +kernel
theorem dX8_in_13 : decode cX8_in 13 = .ok (.iconst 1, 1) := by decide +kernel
theorem dX8_in_14 : decode cX8_in 14 = .ok (.goto 4, 3) := by decide +kernel
theorem dX8_in_17 : decode cX8_in 17 = .ok (.iconst 0, 1) := by decide +kernel
theorem dX8_in_18 : decode cX8_in 18 = .ok (.ireturn, 1) := by decide +kernel
theorem dX8_noPlayer_0 : decode cX8_noPlayer 0 = .ok (.iload_n 1, 1) := by decide +kernel
theorem dX8_noPlayer_1 : decode cX8_noPlayer 1 = .ok (.i2l, 1) := by decide +kernel
theorem dX8_noPlayer_2 : decode cX8_noPlayer 2 = .ok (.lconst 0, 1) := by decide +kernel
theorem dX8_noPlayer_3 : decode cX8_noPlayer 3 = .ok (.aload_n 0, 1) := by decide +kernel
theorem dX8_noPlayer_4 : decode cX8_noPlayer 4 = .ok (.getfield 91, 3) := by decide +kernel
theorem dX8_noPlayer_7 : decode cX8_noPlayer 7 = .ok (.iconst 1, 1) := by decide +kernel
theorem dX8_noPlayer_8 : decode cX8_noPlayer 8 = .ok (.isub, 1) := by decide +kernel
theorem dX8_noPlayer_9 : decode cX8_noPlayer 9 = .ok (.i2l, 1) := by decide +kernel
theorem dX8_noPlayer_10 : decode cX8_noPlayer 10 = .ok (.invokestatic 94, 3) := by decide +kernel
theorem dX8_noPlayer_13 : decode cX8_noPlayer 13 = .ok (.ifCond .ne 7, 3) := by decide +kernel
theorem dX8_noPlayer_16 : decode cX8_noPlayer 16 = .ok (.iconst 1, 1) := by decide +kernel
theorem dX8_noPlayer_17 : decode cX8_noPlayer 17 = .ok (.goto 4, 3) := by decide +kernel
theorem dX8_noPlayer_20 : decode cX8_noPlayer 20 = .ok (.iconst 0, 1) := by decide +kernel
theorem dX8_noPlayer_21 : decode cX8_noPlayer 21 = .ok (.ireturn, 1) := by decide +kernel
theorem dX8_noRule_0 : decode cX8_noRule 0 = .ok (.iload_n 1, 1) := by decide +kernel
theorem dX8_noRule_1 : decode cX8_noRule 1 = .ok (.i2l, 1) := by decide +kernel
theorem dX8_noRule_2 : decode cX8_noRule 2 = .ok (.lconst 0, 1) := by decide +kernel
theorem dX8_noRule_3 : decode cX8_noRule 3 = .ok (.aload_n 0, 1) := by decide +kernel
theorem dX8_noRule_4 : decode cX8_noRule 4 = .ok (.getfield 98, 3) := by decide +kernel
theorem dX8_noRule_7 : decode cX8_noRule 7 = .ok (.iconst 1, 1) := by decide +kernel
theorem dX8_noRule_8 : decode cX8_noRule 8 = .ok (.isub, 1) := by decide +kernel
theorem dX8_noRule_9 : decode cX8_noRule 9 = .ok (.i2l, 1) := by decide +kernel
theorem dX8_noRule_10 : decode cX8_noRule 10 = .ok (.invokestatic 94, 3) := by decide +kernel
theorem dX8_noRule_13 : decode cX8_noRule 13 = .ok (.ifCond .ne 7, 3) := by decide +kernel
theorem dX8_noRule_16 : decode cX8_noRule 16 = .ok (.iconst 1, 1) := by decide +kernel
theorem dX8_noRule_17 : decode cX8_noRule 17 = .ok (.goto 4, 3) := by decide +kernel
theorem dX8_noRule_20 : decode cX8_noRule 20 = .ok (.iconst 0, 1) := by decide +kernel
theorem dX8_noRule_21 : decode cX8_noRule 21 = .ok (.ireturn, 1) := by decide +kernel
theorem dX8_noSingle_0 : decode cX8_noSingle 0 = .ok (.iload_n 1, 1) := by decide +kernel
theorem dX8_noSingle_1 : decode cX8_noSingle 1 = .ok (.i2l, 1) := by decide +kernel
theorem dX8_noSingle_2 : decode cX8_noSingle 2 = .ok (.lconst 0, 1) := by decide +kernel
theorem dX8_noSingle_3 : decode cX8_noSingle 3 = .ok (.aload_n 0, 1) := by decide +kernel
theorem dX8_noSingle_4 : decode cX8_noSingle 4 = .ok (.getfield 101, 3) := by decide +kernel
theorem dX8_noSingle_7 : decode cX8_noSingle 7 = .ok (.iconst 1, 1) := by decide +kernel
theorem dX8_noSingle_8 : decode cX8_noSingle 8 = .ok (.isub, 1) := by decide +kernel
theorem dX8_noSingle_9 : decode cX8_noSingle 9 = .ok (.i2l, 1) := by decide +kernel
theorem dX8_noSingle_10 : decode cX8_noSingle 10 = .ok (.invokestatic 94, 3) := by decide +kernel
theorem dX8_noSingle_13 : decode cX8_noSingle 13 = .ok (.ifCond .ne 7, 3) := by decide +kernel
theorem dX8_noSingle_16 : decode cX8_noSingle 16 = .ok (.iconst 1, 1) := by decide +kernel
theorem dX8_noSingle_17 : decode cX8_noSingle 17 = .ok (.goto 4, 3) := by decide +kernel
theorem dX8_noSingle_20 : decode cX8_noSingle 20 = .ok (.iconst 0, 1) := by decide +kernel
theorem dX8_noSingle_21 : decode cX8_noSingle 21 = .ok (.ireturn, 1) := by decide +kernel
theorem dX8_noKind_0 : decode cX8_noKind 0 = .ok (.iload_n 0, 1) := by decide +kernel
theorem dX8_noKind_1 : decode cX8_noKind 1 = .ok (.i2l, 1) := by decide +kernel
theorem dX8_noKind_2 : decode cX8_noKind 2 = .ok (.lconst 0, 1) := by decide +kernel
theorem dX8_noKind_3 : decode cX8_noKind 3 = .ok (.ldc2_w 104, 3) := by decide +kernel
theorem dX8_noKind_6 : decode cX8_noKind 6 = .ok (.invokestatic 94, 3) := by decide +kernel
theorem dX8_noKind_9 : decode cX8_noKind 9 = .ok (.ifCond .ne 7, 3) := by decide +kernel
theorem dX8_noKind_12 : decode cX8_noKind 12 = .ok (.iconst 1, 1) := by decide +kernel
theorem dX8_noKind_13 : decode cX8_noKind 13 = .ok (.goto 4, 3) := by decide +kernel
theorem dX8_noKind_16 : decode cX8_noKind 16 = .ok (.iconst 0, 1) := by decide +kernel
theorem dX8_noKind_17 : decode cX8_noKind 17 = .ok (.ireturn, 1) := by decide +kernel
theorem dX8_player_0 : decode cX8_player 0 = .ok (.aload_n 0, 1) := by decide +kernel
theorem dX8_player_1 : decode cX8_player 1 = .ok (.iconst 0, 1) := by decide +kernel
theorem dX8_player_2 : decode cX8_player 2 = .ok (.putfield 87, 3) := by decide +kernel
theorem dX8_player_5 : decode cX8_player 5 = .ok (.aload_n 0, 1) := by decide +kernel
theorem dX8_player_6 : decode cX8_player 6 = .ok (.aload_n 0, 1) := by decide +kernel
theorem dX8_player_7 : decode cX8_player 7 = .ok (.getfield 91, 3) := by decide +kernel
theorem dX8_player_10 : decode cX8_player 10 = .ok (.bipush 10, 2) := by decide +kernel
theorem dX8_player_12 : decode cX8_player 12 = .ok (.if_icmp .ne 7, 3) := by decide +kernel
theorem dX8_player_15 : decode cX8_player 15 = .ok (.iconst 1, 1) := by decide +kernel
theorem dX8_player_16 : decode cX8_player 16 = .ok (.goto 4, 3) := by decide +kernel
theorem dX8_player_19 : decode cX8_player 19 = .ok (.iconst 0, 1) := by decide +kernel
theorem dX8_player_20 : decode cX8_player 20 = .ok (.iconst 1, 1) := by decide +kernel
theorem dX8_player_21 : decode cX8_player 21 = .ok (.invokevirtual 106, 3) := by decide +kernel
theorem dX8_player_24 : decode cX8_player 24 = .ok (.ifCond .eq 5, 3) := by decide +kernel
theorem dX8_player_27 : decode cX8_player 27 = .ok (.iconst 0, 1) := by decide +kernel
theorem dX8_player_28 : decode cX8_player 28 = .ok (.ireturn, 1) := by decide +kernel
theorem dX8_player_29 : decode cX8_player 29 = .ok (.aload_n 0, 1) := by decide +kernel
theorem dX8_player_30 : decode cX8_player 30 = .ok (.dup, 1) := by decide +kernel
theorem dX8_player_31 : decode cX8_player 31 = .ok (.getfield 91, 3) := by decide +kernel
theorem dX8_player_34 : decode cX8_player 34 = .ok (.iconst 1, 1) := by decide +kernel
theorem dX8_player_35 : decode cX8_player 35 = .ok (.iadd, 1) := by decide +kernel
theorem dX8_player_36 : decode cX8_player 36 = .ok (.putfield 91, 3) := by decide +kernel
theorem dX8_player_39 : decode cX8_player 39 = .ok (.aload_n 0, 1) := by decide +kernel
theorem dX8_player_40 : decode cX8_player 40 = .ok (.getfield 91, 3) := by decide +kernel
theorem dX8_player_43 : decode cX8_player 43 = .ok (.iconst 1, 1) := by decide +kernel
theorem dX8_player_44 : decode cX8_player 44 = .ok (.isub, 1) := by decide +kernel
theorem dX8_player_45 : decode cX8_player 45 = .ok (.ireturn, 1) := by decide +kernel
theorem dX8_rule_0 : decode cX8_rule 0 = .ok (.aload_n 0, 1) := by decide +kernel
theorem dX8_rule_1 : decode cX8_rule 1 = .ok (.iconst 0, 1) := by decide +kernel
theorem dX8_rule_2 : decode cX8_rule 2 = .ok (.putfield 87, 3) := by decide +kernel
theorem dX8_rule_5 : decode cX8_rule 5 = .ok (.aload_n 0, 1) := by decide +kernel
theorem dX8_rule_6 : decode cX8_rule 6 = .ok (.aload_n 0, 1) := by decide +kernel
theorem dX8_rule_7 : decode cX8_rule 7 = .ok (.getfield 98, 3) := by decide +kernel
theorem dX8_rule_10 : decode cX8_rule 10 = .ok (.bipush 10, 2) := by decide +kernel
theorem dX8_rule_12 : decode cX8_rule 12 = .ok (.if_icmp .ne 7, 3) := by decide +kernel
theorem dX8_rule_15 : decode cX8_rule 15 = .ok (.iconst 1, 1) := by decide +kernel
theorem dX8_rule_16 : decode cX8_rule 16 = .ok (.goto 4, 3) := by decide +kernel
theorem dX8_rule_19 : decode cX8_rule 19 = .ok (.iconst 0, 1) := by decide +kernel
theorem dX8_rule_20 : decode cX8_rule 20 = .ok (.iconst 1, 1) := by decide +kernel
theorem dX8_rule_21 : decode cX8_rule 21 = .ok (.invokevirtual 106, 3) := by decide +kernel
theorem dX8_rule_24 : decode cX8_rule 24 = .ok (.ifCond .eq 5, 3) := by decide +kernel
theorem dX8_rule_27 : decode cX8_rule 27 = .ok (.iconst 0, 1) := by decide +kernel
theorem dX8_rule_28 : decode cX8_rule 28 = .ok (.ireturn, 1) := by decide +kernel
theorem dX8_rule_29 : decode cX8_rule 29 = .ok (.aload_n 0, 1) := by decide +kernel
theorem dX8_rule_30 : decode cX8_rule 30 = .ok (.getfield 25, 3) := by decide +kernel
theorem dX8_rule_33 : decode cX8_rule 33 = .ok (.aload_n 0, 1) := by decide +kernel
theorem dX8_rule_34 : decode cX8_rule 34 = .ok (.getfield 98, 3) := by decide +kernel
theorem dX8_rule_37 : decode cX8_rule 37 = .ok (.iload_n 1, 1) := by decide +kernel
theorem dX8_rule_38 : decode cX8_rule 38 = .ok (.bastore, 1) := by decide +kernel
theorem dX8_rule_39 : decode cX8_rule 39 = .ok (.aload_n 0, 1) := by decide +kernel
theorem dX8_rule_40 : decode cX8_rule 40 = .ok (.dup, 1) := by decide +kernel
theorem dX8_rule_41 : decode cX8_rule 41 = .ok (.getfield 98, 3) := by decide +kernel
theorem dX8_rule_44 : decode cX8_rule 44 = .ok (.iconst 1, 1) := by decide +kernel
theorem dX8_rule_45 : decode cX8_rule 45 = .ok (.iadd, 1) := by decide +kernel
theorem dX8_rule_46 : decode cX8_rule 46 = .ok (.putfield 98, 3) := by decide +kernel
theorem dX8_rule_49 : decode cX8_rule 49 = .ok (.aload_n 0, 1) := by decide +kernel
theorem dX8_rule_50 : decode cX8_rule 50 = .ok (.getfield 98, 3) := by decide +kernel
theorem dX8_rule_53 : decode cX8_rule 53 = .ok (.iconst 1, 1) := by decide +kernel
theorem dX8_rule_54 : decode cX8_rule 54 = .ok (.isub, 1) := by decide +kernel
theorem dX8_rule_55 : decode cX8_rule 55 = .ok (.ireturn, 1) := by decide +kernel
theorem dX8_part_0 : decode cX8_part 0 = .ok (.aload_n 0, 1) := by decide +kernel
theorem dX8_part_1 : decode cX8_part 1 = .ok (.iconst 0, 1) := by decide +kernel
theorem dX8_part_2 : decode cX8_part 2 = .ok (.putfield 87, 3) := by decide +kernel
theorem dX8_part_5 : decode cX8_part 5 = .ok (.aload_n 0, 1) := by decide +kernel
theorem dX8_part_6 : decode cX8_part 6 = .ok (.aload_n 0, 1) := by decide +kernel
theorem dX8_part_7 : decode cX8_part 7 = .ok (.iload_n 1, 1) := by decide +kernel
theorem dX8_part_8 : decode cX8_part 8 = .ok (.invokevirtual 110, 3) := by decide +kernel
theorem dX8_part_11 : decode cX8_part 11 = .ok (.ifCond .ne 10, 3) := by decide +kernel
theorem dX8_part_14 : decode cX8_part 14 = .ok (.iload_n 2, 1) := by decide +kernel
theorem dX8_part_15 : decode cX8_part 15 = .ok (.invokestatic 114, 3) := by decide +kernel
theorem dX8_part_18 : decode cX8_part 18 = .ok (.ifCond .eq 7, 3) := by decide +kernel
theorem dX8_part_21 : decode cX8_part 21 = .ok (.iconst 1, 1) := by decide +kernel
theorem dX8_part_22 : decode cX8_part 22 = .ok (.goto 4, 3) := by decide +kernel
theorem dX8_part_25 : decode cX8_part 25 = .ok (.iconst 0, 1) := by decide +kernel
theorem dX8_part_26 : decode cX8_part 26 = .ok (.iconst 1, 1) := by decide +kernel
theorem dX8_part_27 : decode cX8_part 27 = .ok (.invokevirtual 106, 3) := by decide +kernel
theorem dX8_part_30 : decode cX8_part 30 = .ok (.ifCond .ne 29, 3) := by decide +kernel
theorem dX8_part_33 : decode cX8_part 33 = .ok (.aload_n 0, 1) := by decide +kernel
theorem dX8_part_34 : decode cX8_part 34 = .ok (.iload 4, 2) := by decide +kernel
theorem dX8_part_36 : decode cX8_part 36 = .ok (.i2l, 1) := by decide +kernel
theorem dX8_part_37 : decode cX8_part 37 = .ok (.lconst 0, 1) := by decide +kernel
theorem dX8_part_38 : decode cX8_part 38 = .ok (.ldc2_w 117, 3) := by decide +kernel
theorem dX8_part_41 : decode cX8_part 41 = .ok (.invokestatic 94, 3) := by decide +kernel
theorem dX8_part_44 : decode cX8_part 44 = .ok (.ifCond .ne 7, 3) := by decide +kernel
theorem dX8_part_47 : decode cX8_part 47 = .ok (.iconst 1, 1) := by decide +kernel
theorem dX8_part_48 : decode cX8_part 48 = .ok (.goto 4, 3) := by decide +kernel
theorem dX8_part_51 : decode cX8_part 51 = .ok (.iconst 0, 1) := by decide +kernel
theorem dX8_part_52 : decode cX8_part 52 = .ok (.iconst 2, 1) := by decide +kernel
theorem dX8_part_53 : decode cX8_part 53 = .ok (.invokevirtual 106, 3) := by decide +kernel
theorem dX8_part_56 : decode cX8_part 56 = .ok (.ifCond .eq 4, 3) := by decide +kernel
theorem dX8_part_59 : decode cX8_part 59 = .ok (.return_, 1) := by decide +kernel
theorem dX8_part_60 : decode cX8_part 60 = .ok (.iload_n 3, 1) := by decide +kernel
theorem dX8_part_61 : decode cX8_part 61 = .ok (.ifCond .eq 18, 3) := by decide +kernel
theorem dX8_part_64 : decode cX8_part 64 = .ok (.aload_n 0, 1) := by decide +kernel
theorem dX8_part_65 : decode cX8_part 65 = .ok (.getfield 22, 3) := by decide +kernel
theorem dX8_part_68 : decode cX8_part 68 = .ok (.iconst 4, 1) := by decide +kernel
theorem dX8_part_69 : decode cX8_part 69 = .ok (.iload_n 1, 1) := by decide +kernel
theorem dX8_part_70 : decode cX8_part 70 = .ok (.imul, 1) := by decide +kernel
theorem dX8_part_71 : decode cX8_part 71 = .ok (.iload_n 2, 1) := by decide +kernel
theorem dX8_part_72 : decode cX8_part 72 = .ok (.iadd, 1) := by decide +kernel
theorem dX8_part_73 : decode cX8_part 73 = .ok (.iload 4, 2) := by decide +kernel
theorem dX8_part_75 : decode cX8_part 75 = .ok (.iastore, 1) := by decide +kernel
theorem dX8_part_76 : decode cX8_part 76 = .ok (.goto 15, 3) := by decide +kernel
theorem dX8_part_79 : decode cX8_part 79 = .ok (.aload_n 0, 1) := by decide +kernel
theorem dX8_part_80 : decode cX8_part 80 = .ok (.getfield 19, 3) := by decide +kernel
theorem dX8_part_83 : decode cX8_part 83 = .ok (.iconst 4, 1) := by decide +kernel
theorem dX8_part_84 : decode cX8_part 84 = .ok (.iload_n 1, 1) := by decide +kernel
theorem dX8_part_85 : decode cX8_part 85 = .ok (.imul, 1) := by decide +kernel
theorem dX8_part_86 : decode cX8_part 86 = .ok (.iload_n 2, 1) := by decide +kernel
theorem dX8_part_87 : decode cX8_part 87 = .ok (.iadd, 1) := by decide +kernel
theorem dX8_part_88 : decode cX8_part 88 = .ok (.iload 4, 2) := by decide +kernel
theorem dX8_part_90 : decode cX8_part 90 = .ok (.iastore, 1) := by decide +kernel
theorem dX8_part_91 : decode cX8_part 91 = .ok (.return_, 1) := by decide +kernel
theorem dX8_does_0 : decode cX8_does 0 = .ok (.iconst 0, 1) := by decide +kernel
theorem dX8_does_1 : decode cX8_does 1 = .ok (.istore 4, 2) := by decide +kernel
theorem dX8_does_3 : decode cX8_does 3 = .ok (.iconst 0, 1) := by decide +kernel
theorem dX8_does_4 : decode cX8_does 4 = .ok (.istore 5, 2) := by decide +kernel
theorem dX8_does_6 : decode cX8_does 6 = .ok (.iconst 0, 1) := by decide +kernel
theorem dX8_does_7 : decode cX8_does 7 = .ok (.istore 6, 2) := by decide +kernel
theorem dX8_does_9 : decode cX8_does 9 = .ok (.iload 6, 2) := by decide +kernel
theorem dX8_does_11 : decode cX8_does 11 = .ok (.iconst 4, 1) := by decide +kernel
theorem dX8_does_12 : decode cX8_does 12 = .ok (.if_icmp .ge 100, 3) := by decide +kernel
theorem dX8_does_15 : decode cX8_does 15 = .ok (.aload_n 0, 1) := by decide +kernel
theorem dX8_does_16 : decode cX8_does 16 = .ok (.getfield 9, 3) := by decide +kernel
theorem dX8_does_19 : decode cX8_does 19 = .ok (.iconst 4, 1) := by decide +kernel
theorem dX8_does_20 : decode cX8_does 20 = .ok (.iload_n 1, 1) := by decide +kernel
theorem dX8_does_21 : decode cX8_does 21 = .ok (.imul, 1) := by decide +kernel
theorem dX8_does_22 : decode cX8_does 22 = .ok (.iload 6, 2) := by decide +kernel
theorem dX8_does_24 : decode cX8_does 24 = .ok (.iadd, 1) := by decide +kernel
theorem dX8_does_25 : decode cX8_does 25 = .ok (.iaload, 1) := by decide +kernel
theorem dX8_does_26 : decode cX8_does 26 = .ok (.i2l, 1) := by decide +kernel
theorem dX8_does_27 : decode cX8_does 27 = .ok (.lstore 7, 2) := by decide +kernel
theorem dX8_does_29 : decode cX8_does 29 = .ok (.aload_n 0, 1) := by decide +kernel
theorem dX8_does_30 : decode cX8_does 30 = .ok (.getfield 19, 3) := by decide +kernel
theorem dX8_does_33 : decode cX8_does 33 = .ok (.iconst 4, 1) := by decide +kernel
theorem dX8_does_34 : decode cX8_does 34 = .ok (.iload_n 2, 1) := by decide +kernel
theorem dX8_does_35 : decode cX8_does 35 = .ok (.imul, 1) := by decide +kernel
theorem dX8_does_36 : decode cX8_does 36 = .ok (.iload 6, 2) := by decide +kernel
theorem dX8_does_38 : decode cX8_does 38 = .ok (.iadd, 1) := by decide +kernel
theorem dX8_does_39 : decode cX8_does 39 = .ok (.iaload, 1) := by decide +kernel
theorem dX8_does_40 : decode cX8_does 40 = .ok (.i2l, 1) := by decide +kernel
theorem dX8_does_41 : decode cX8_does 41 = .ok (.iload_n 3, 1) := by decide +kernel
theorem dX8_does_42 : decode cX8_does 42 = .ok (.i2l, 1) := by decide +kernel
theorem dX8_does_43 : decode cX8_does 43 = .ok (.lmul, 1) := by decide +kernel
theorem dX8_does_44 : decode cX8_does 44 = .ok (.lstore 9, 2) := by decide +kernel
theorem dX8_does_46 : decode cX8_does 46 = .ok (.iload 4, 2) := by decide +kernel
theorem dX8_does_48 : decode cX8_does 48 = .ok (.ifCond .ne 11, 3) := by decide +kernel
theorem dX8_does_51 : decode cX8_does 51 = .ok (.lload 7, 2) := by decide +kernel
theorem dX8_does_53 : decode cX8_does 53 = .ok (.lload 9, 2) := by decide +kernel
theorem dX8_does_55 : decode cX8_does 55 = .ok (.lcmp, 1) := by decide +kernel
theorem dX8_does_56 : decode cX8_does 56 = .ok (.ifCond .ge 7, 3) := by decide +kernel
theorem dX8_does_59 : decode cX8_does 59 = .ok (.iconst 1, 1) := by decide +kernel
theorem dX8_does_60 : decode cX8_does 60 = .ok (.goto 4, 3) := by decide +kernel
theorem dX8_does_63 : decode cX8_does 63 = .ok (.iconst 0, 1) := by decide +kernel
theorem dX8_does_64 : decode cX8_does 64 = .ok (.istore 4, 2) := by decide +kernel
theorem dX8_does_66 : decode cX8_does 66 = .ok (.iload 5, 2) := by decide +kernel
theorem dX8_does_68 : decode cX8_does 68 = .ok (.ifCond .ne 31, 3) := by decide +kernel
theorem dX8_does_71 : decode cX8_does 71 = .ok (.lload 7, 2) := by decide +kernel
theorem dX8_does_73 : decode cX8_does 73 = .ok (.lload 9, 2) := by decide +kernel
theorem dX8_does_75 : decode cX8_does 75 = .ok (.lsub, 1) := by decide +kernel
theorem dX8_does_76 : decode cX8_does 76 = .ok (.aload_n 0, 1) := by decide +kernel
theorem dX8_does_77 : decode cX8_does 77 = .ok (.getfield 22, 3) := by decide +kernel
theorem dX8_does_80 : decode cX8_does 80 = .ok (.iconst 4, 1) := by decide +kernel
theorem dX8_does_81 : decode cX8_does 81 = .ok (.iload_n 2, 1) := by decide +kernel
theorem dX8_does_82 : decode cX8_does 82 = .ok (.imul, 1) := by decide +kernel
theorem dX8_does_83 : decode cX8_does 83 = .ok (.iload 6, 2) := by decide +kernel
theorem dX8_does_85 : decode cX8_does 85 = .ok (.iadd, 1) := by decide +kernel
theorem dX8_does_86 : decode cX8_does 86 = .ok (.iaload, 1) := by decide +kernel
theorem dX8_does_87 : decode cX8_does 87 = .ok (.i2l, 1) := by decide +kernel
theorem dX8_does_88 : decode cX8_does 88 = .ok (.iload_n 3, 1) := by decide +kernel
theorem dX8_does_89 : decode cX8_does 89 = .ok (.i2l, 1) := by decide +kernel
theorem dX8_does_90 : decode cX8_does 90 = .ok (.lmul, 1) := by decide +kernel
theorem dX8_does_91 : decode cX8_does 91 = .ok (.ladd, 1) := by decide +kernel
theorem dX8_does_92 : decode cX8_does 92 = .ok (.ldc2_w 119, 3) := by decide +kernel
theorem dX8_does_95 : decode cX8_does 95 = .ok (.lcmp, 1) := by decide +kernel
theorem dX8_does_96 : decode cX8_does 96 = .ok (.ifCond .le 7, 3) := by decide +kernel
theorem dX8_does_99 : decode cX8_does 99 = .ok (.iconst 1, 1) := by decide +kernel
theorem dX8_does_100 : decode cX8_does 100 = .ok (.goto 4, 3) := by decide +kernel
theorem dX8_does_103 : decode cX8_does 103 = .ok (.iconst 0, 1) := by decide +kernel
theorem dX8_does_104 : decode cX8_does 104 = .ok (.istore 5, 2) := by decide +kernel
theorem dX8_does_106 : decode cX8_does 106 = .ok (.iinc 6 1, 3) := by decide +kernel
theorem dX8_does_109 : decode cX8_does 109 = .ok (.goto (-100), 3) := by decide +kernel
theorem dX8_does_112 : decode cX8_does 112 = .ok (.iload 4, 2) := by decide +kernel
theorem dX8_does_114 : decode cX8_does 114 = .ok (.ifCond .eq 5, 3) := by decide +kernel
theorem dX8_does_117 : decode cX8_does 117 = .ok (.iconst 1, 1) := by decide +kernel
theorem dX8_does_118 : decode cX8_does 118 = .ok (.ireturn, 1) := by decide +kernel
theorem dX8_does_119 : decode cX8_does 119 = .ok (.iload 5, 2) := by decide +kernel
theorem dX8_does_121 : decode cX8_does 121 = .ok (.ifCond .eq 5, 3) := by decide +kernel
theorem dX8_does_124 : decode cX8_does 124 = .ok (.iconst 2, 1) := by decide +kernel
theorem dX8_does_125 : decode cX8_does 125 = .ok (.ireturn, 1) := by decide +kernel
theorem dX8_does_126 : decode cX8_does 126 = .ok (.iconst 0, 1) := by decide +kernel
theorem dX8_does_127 : decode cX8_does 127 = .ok (.istore 6, 2) := by decide +kernel
theorem dX8_does_129 : decode cX8_does 129 = .ok (.iload 6, 2) := by decide +kernel
theorem dX8_does_131 : decode cX8_does 131 = .ok (.iconst 4, 1) := by decide +kernel
theorem dX8_does_132 : decode cX8_does 132 = .ok (.if_icmp .ge 98, 3) := by decide +kernel
theorem dX8_does_135 : decode cX8_does 135 = .ok (.aload_n 0, 1) := by decide +kernel
theorem dX8_does_136 : decode cX8_does 136 = .ok (.getfield 9, 3) := by decide +kernel
theorem dX8_does_139 : decode cX8_does 139 = .ok (.iconst 4, 1) := by decide +kernel
theorem dX8_does_140 : decode cX8_does 140 = .ok (.iload_n 1, 1) := by decide +kernel
theorem dX8_does_141 : decode cX8_does 141 = .ok (.imul, 1) := by decide +kernel
theorem dX8_does_142 : decode cX8_does 142 = .ok (.iload 6, 2) := by decide +kernel
theorem dX8_does_144 : decode cX8_does 144 = .ok (.iadd, 1) := by decide +kernel
theorem dX8_does_145 : decode cX8_does 145 = .ok (.dup2, 1) := by decide +kernel
theorem dX8_does_146 : decode cX8_does 146 = .ok (.iaload, 1) := by decide +kernel
theorem dX8_does_147 : decode cX8_does 147 = .ok (.aload_n 0, 1) := by decide +kernel
theorem dX8_does_148 : decode cX8_does 148 = .ok (.getfield 22, 3) := by decide +kernel
theorem dX8_does_151 : decode cX8_does 151 = .ok (.iconst 4, 1) := by decide +kernel
theorem dX8_does_152 : decode cX8_does 152 = .ok (.iload_n 2, 1) := by decide +kernel
theorem dX8_does_153 : decode cX8_does 153 = .ok (.imul, 1) := by decide +kernel
theorem dX8_does_154 : decode cX8_does 154 = .ok (.iload 6, 2) := by decide +kernel
theorem dX8_does_156 : decode cX8_does 156 = .ok (.iadd, 1) := by decide +kernel
theorem dX8_does_157 : decode cX8_does 157 = .ok (.iaload, 1) := by decide +kernel
theorem dX8_does_158 : decode cX8_does 158 = .ok (.aload_n 0, 1) := by decide +kernel
theorem dX8_does_159 : decode cX8_does 159 = .ok (.getfield 19, 3) := by decide +kernel
theorem dX8_does_162 : decode cX8_does 162 = .ok (.iconst 4, 1) := by decide +kernel
theorem dX8_does_163 : decode cX8_does 163 = .ok (.iload_n 2, 1) := by decide +kernel
theorem dX8_does_164 : decode cX8_does 164 = .ok (.imul, 1) := by decide +kernel
theorem dX8_does_165 : decode cX8_does 165 = .ok (.iload 6, 2) := by decide +kernel
theorem dX8_does_167 : decode cX8_does 167 = .ok (.iadd, 1) := by decide +kernel
theorem dX8_does_168 : decode cX8_does 168 = .ok (.iaload, 1) := by decide +kernel
theorem dX8_does_169 : decode cX8_does 169 = .ok (.isub, 1) := by decide +kernel
theorem dX8_does_170 : decode cX8_does 170 = .ok (.iload_n 3, 1) := by decide +kernel
theorem dX8_does_171 : decode cX8_does 171 = .ok (.imul, 1) := by decide +kernel
theorem dX8_does_172 : decode cX8_does 172 = .ok (.iadd, 1) := by decide +kernel
theorem dX8_does_173 : decode cX8_does 173 = .ok (.iastore, 1) := by decide +kernel
theorem dX8_does_174 : decode cX8_does 174 = .ok (.aload_n 0, 1) := by decide +kernel
theorem dX8_does_175 : decode cX8_does 175 = .ok (.getfield 35, 3) := by decide +kernel
theorem dX8_does_178 : decode cX8_does 178 = .ok (.iload 6, 2) := by decide +kernel
theorem dX8_does_180 : decode cX8_does 180 = .ok (.dup2, 1) := by decide +kernel
theorem dX8_does_181 : decode cX8_does 181 = .ok (.laload, 1) := by decide +kernel
theorem dX8_does_182 : decode cX8_does 182 = .ok (.aload_n 0, 1) := by decide +kernel
theorem dX8_does_183 : decode cX8_does 183 = .ok (.getfield 22, 3) := by decide +kernel
theorem dX8_does_186 : decode cX8_does 186 = .ok (.iconst 4, 1) := by decide +kernel
theorem dX8_does_187 : decode cX8_does 187 = .ok (.iload_n 2, 1) := by decide +kernel
theorem dX8_does_188 : decode cX8_does 188 = .ok (.imul, 1) := by decide +kernel
theorem dX8_does_189 : decode cX8_does 189 = .ok (.iload 6, 2) := by decide +kernel
theorem dX8_does_191 : decode cX8_does 191 = .ok (.iadd, 1) := by decide +kernel
theorem dX8_does_192 : decode cX8_does 192 = .ok (.iaload, 1) := by decide +kernel
theorem dX8_does_193 : decode cX8_does 193 = .ok (.i2l, 1) := by decide +kernel
theorem dX8_does_194 : decode cX8_does 194 = .ok (.iload_n 3, 1) := by decide +kernel
theorem dX8_does_195 : decode cX8_does 195 = .ok (.i2l, 1) := by decide +kernel
theorem dX8_does_196 : decode cX8_does 196 = .ok (.lmul, 1) := by decide +kernel
theorem dX8_does_197 : decode cX8_does 197 = .ok (.ladd, 1) := by decide +kernel
theorem dX8_does_198 : decode cX8_does 198 = .ok (.lastore, 1) := by decide +kernel
theorem dX8_does_199 : decode cX8_does 199 = .ok (.aload_n 0, 1) := by decide +kernel
theorem dX8_does_200 : decode cX8_does 200 = .ok (.getfield 39, 3) := by decide +kernel
theorem dX8_does_203 : decode cX8_does 203 = .ok (.iload 6, 2) := by decide +kernel
theorem dX8_does_205 : decode cX8_does 205 = .ok (.dup2, 1) := by decide +kernel
theorem dX8_does_206 : decode cX8_does 206 = .ok (.laload, 1) := by decide +kernel
theorem dX8_does_207 : decode cX8_does 207 = .ok (.aload_n 0, 1) := by decide +kernel
theorem dX8_does_208 : decode cX8_does 208 = .ok (.getfield 19, 3) := by decide +kernel
theorem dX8_does_211 : decode cX8_does 211 = .ok (.iconst 4, 1) := by decide +kernel
theorem dX8_does_212 : decode cX8_does 212 = .ok (.iload_n 2, 1) := by decide +kernel
theorem dX8_does_213 : decode cX8_does 213 = .ok (.imul, 1) := by decide +kernel
theorem dX8_does_214 : decode cX8_does 214 = .ok (.iload 6, 2) := by decide +kernel
theorem dX8_does_216 : decode cX8_does 216 = .ok (.iadd, 1) := by decide +kernel
theorem dX8_does_217 : decode cX8_does 217 = .ok (.iaload, 1) := by decide +kernel
theorem dX8_does_218 : decode cX8_does 218 = .ok (.i2l, 1) := by decide +kernel
theorem dX8_does_219 : decode cX8_does 219 = .ok (.iload_n 3, 1) := by decide +kernel
theorem dX8_does_220 : decode cX8_does 220 = .ok (.i2l, 1) := by decide +kernel
theorem dX8_does_221 : decode cX8_does 221 = .ok (.lmul, 1) := by decide +kernel
theorem dX8_does_222 : decode cX8_does 222 = .ok (.ladd, 1) := by decide +kernel
theorem dX8_does_223 : decode cX8_does 223 = .ok (.lastore, 1) := by decide +kernel
theorem dX8_does_224 : decode cX8_does 224 = .ok (.iinc 6 1, 3) := by decide +kernel
theorem dX8_does_227 : decode cX8_does 227 = .ok (.goto (-98), 3) := by decide +kernel
theorem dX8_does_230 : decode cX8_does 230 = .ok (.aload_n 0, 1) := by decide +kernel
theorem dX8_does_231 : decode cX8_does 231 = .ok (.dup, 1) := by decide +kernel
theorem dX8_does_232 : decode cX8_does 232 = .ok (.getfield 121, 3) := by decide +kernel
theorem dX8_does_235 : decode cX8_does 235 = .ok (.iconst 1, 1) := by decide +kernel
theorem dX8_does_236 : decode cX8_does 236 = .ok (.iadd, 1) := by decide +kernel
theorem dX8_does_237 : decode cX8_does 237 = .ok (.putfield 121, 3) := by decide +kernel
theorem dX8_does_240 : decode cX8_does 240 = .ok (.iconst 0, 1) := by decide +kernel
theorem dX8_does_241 : decode cX8_does 241 = .ok (.ireturn, 1) := by decide +kernel
theorem dX8_deed_0 : decode cX8_deed 0 = .ok (.aload_n 0, 1) := by decide +kernel
theorem dX8_deed_1 : decode cX8_deed 1 = .ok (.iconst 0, 1) := by decide +kernel
theorem dX8_deed_2 : decode cX8_deed 2 = .ok (.putfield 87, 3) := by decide +kernel
theorem dX8_deed_5 : decode cX8_deed 5 = .ok (.aload_n 0, 1) := by decide +kernel
theorem dX8_deed_6 : decode cX8_deed 6 = .ok (.aload_n 0, 1) := by decide +kernel
theorem dX8_deed_7 : decode cX8_deed 7 = .ok (.iload_n 1, 1) := by decide +kernel
theorem dX8_deed_8 : decode cX8_deed 8 = .ok (.invokevirtual 124, 3) := by decide +kernel
theorem dX8_deed_11 : decode cX8_deed 11 = .ok (.ifCond .ne 11, 3) := by decide +kernel
theorem dX8_deed_14 : decode cX8_deed 14 = .ok (.aload_n 0, 1) := by decide +kernel
theorem dX8_deed_15 : decode cX8_deed 15 = .ok (.iload_n 3, 1) := by decide +kernel
theorem dX8_deed_16 : decode cX8_deed 16 = .ok (.invokevirtual 110, 3) := by decide +kernel
theorem dX8_deed_19 : decode cX8_deed 19 = .ok (.ifCond .eq 7, 3) := by decide +kernel
theorem dX8_deed_22 : decode cX8_deed 22 = .ok (.iconst 1, 1) := by decide +kernel
theorem dX8_deed_23 : decode cX8_deed 23 = .ok (.goto 4, 3) := by decide +kernel
theorem dX8_deed_26 : decode cX8_deed 26 = .ok (.iconst 0, 1) := by decide +kernel
theorem dX8_deed_27 : decode cX8_deed 27 = .ok (.iconst 1, 1) := by decide +kernel
theorem dX8_deed_28 : decode cX8_deed 28 = .ok (.invokevirtual 106, 3) := by decide +kernel
theorem dX8_deed_31 : decode cX8_deed 31 = .ok (.ifCond .ne 29, 3) := by decide +kernel
theorem dX8_deed_34 : decode cX8_deed 34 = .ok (.aload_n 0, 1) := by decide +kernel
theorem dX8_deed_35 : decode cX8_deed 35 = .ok (.iload 4, 2) := by decide +kernel
theorem dX8_deed_37 : decode cX8_deed 37 = .ok (.i2l, 1) := by decide +kernel
theorem dX8_deed_38 : decode cX8_deed 38 = .ok (.lconst 1, 1) := by decide +kernel
theorem dX8_deed_39 : decode cX8_deed 39 = .ok (.ldc2_w 127, 3) := by decide +kernel
theorem dX8_deed_42 : decode cX8_deed 42 = .ok (.invokestatic 94, 3) := by decide +kernel
theorem dX8_deed_45 : decode cX8_deed 45 = .ok (.ifCond .ne 7, 3) := by decide +kernel
theorem dX8_deed_48 : decode cX8_deed 48 = .ok (.iconst 1, 1) := by decide +kernel
theorem dX8_deed_49 : decode cX8_deed 49 = .ok (.goto 4, 3) := by decide +kernel
theorem dX8_deed_52 : decode cX8_deed 52 = .ok (.iconst 0, 1) := by decide +kernel
theorem dX8_deed_53 : decode cX8_deed 53 = .ok (.iconst 2, 1) := by decide +kernel
theorem dX8_deed_54 : decode cX8_deed 54 = .ok (.invokevirtual 106, 3) := by decide +kernel
theorem dX8_deed_57 : decode cX8_deed 57 = .ok (.ifCond .eq 5, 3) := by decide +kernel
theorem dX8_deed_60 : decode cX8_deed 60 = .ok (.iconst 0, 1) := by decide +kernel
theorem dX8_deed_61 : decode cX8_deed 61 = .ok (.ireturn, 1) := by decide +kernel
theorem dX8_deed_62 : decode cX8_deed 62 = .ok (.aload_n 0, 1) := by decide +kernel
theorem dX8_deed_63 : decode cX8_deed 63 = .ok (.getfield 13, 3) := by decide +kernel
theorem dX8_deed_66 : decode cX8_deed 66 = .ok (.iload_n 1, 1) := by decide +kernel
theorem dX8_deed_67 : decode cX8_deed 67 = .ok (.iaload, 1) := by decide +kernel
theorem dX8_deed_68 : decode cX8_deed 68 = .ok (.ifCond .le 20, 3) := by decide +kernel
theorem dX8_deed_71 : decode cX8_deed 71 = .ok (.iload_n 2, 1) := by decide +kernel
theorem dX8_deed_72 : decode cX8_deed 72 = .ok (.aload_n 0, 1) := by decide +kernel
theorem dX8_deed_73 : decode cX8_deed 73 = .ok (.getfield 13, 3) := by decide +kernel
theorem dX8_deed_76 : decode cX8_deed 76 = .ok (.iload_n 1, 1) := by decide +kernel
theorem dX8_deed_77 : decode cX8_deed 77 = .ok (.iaload, 1) := by decide +kernel
theorem dX8_deed_78 : decode cX8_deed 78 = .ok (.if_icmp .ne 10, 3) := by decide +kernel
theorem dX8_deed_81 : decode cX8_deed 81 = .ok (.aload_n 0, 1) := by decide +kernel
theorem dX8_deed_82 : decode cX8_deed 82 = .ok (.getfield 16, 3) := by decide +kernel
theorem dX8_deed_85 : decode cX8_deed 85 = .ok (.iload_n 1, 1) := by decide +kernel
theorem dX8_deed_86 : decode cX8_deed 86 = .ok (.iaload, 1) := by decide +kernel
theorem dX8_deed_87 : decode cX8_deed 87 = .ok (.ireturn, 1) := by decide +kernel
theorem dX8_deed_88 : decode cX8_deed 88 = .ok (.iload_n 2, 1) := by decide +kernel
theorem dX8_deed_89 : decode cX8_deed 89 = .ok (.aload_n 0, 1) := by decide +kernel
theorem dX8_deed_90 : decode cX8_deed 90 = .ok (.getfield 13, 3) := by decide +kernel
theorem dX8_deed_93 : decode cX8_deed 93 = .ok (.iload_n 1, 1) := by decide +kernel
theorem dX8_deed_94 : decode cX8_deed 94 = .ok (.iaload, 1) := by decide +kernel
theorem dX8_deed_95 : decode cX8_deed 95 = .ok (.iconst 1, 1) := by decide +kernel
theorem dX8_deed_96 : decode cX8_deed 96 = .ok (.iadd, 1) := by decide +kernel
theorem dX8_deed_97 : decode cX8_deed 97 = .ok (.if_icmp .eq 5, 3) := by decide +kernel
theorem dX8_deed_100 : decode cX8_deed 100 = .ok (.iconst 3, 1) := by decide +kernel
theorem dX8_deed_101 : decode cX8_deed 101 = .ok (.ireturn, 1) := by decide +kernel
theorem dX8_deed_102 : decode cX8_deed 102 = .ok (.aload_n 0, 1) := by decide +kernel
theorem dX8_deed_103 : decode cX8_deed 103 = .ok (.getfield 13, 3) := by decide +kernel
theorem dX8_deed_106 : decode cX8_deed 106 = .ok (.iload_n 1, 1) := by decide +kernel
theorem dX8_deed_107 : decode cX8_deed 107 = .ok (.iload_n 2, 1) := by decide +kernel
theorem dX8_deed_108 : decode cX8_deed 108 = .ok (.iastore, 1) := by decide +kernel
theorem dX8_deed_109 : decode cX8_deed 109 = .ok (.aload_n 0, 1) := by decide +kernel
theorem dX8_deed_110 : decode cX8_deed 110 = .ok (.getfield 16, 3) := by decide +kernel
theorem dX8_deed_113 : decode cX8_deed 113 = .ok (.iload_n 1, 1) := by decide +kernel
theorem dX8_deed_114 : decode cX8_deed 114 = .ok (.aload_n 0, 1) := by decide +kernel
theorem dX8_deed_115 : decode cX8_deed 115 = .ok (.iload_n 1, 1) := by decide +kernel
theorem dX8_deed_116 : decode cX8_deed 116 = .ok (.iload_n 3, 1) := by decide +kernel
theorem dX8_deed_117 : decode cX8_deed 117 = .ok (.iload 4, 2) := by decide +kernel
theorem dX8_deed_119 : decode cX8_deed 119 = .ok (.invokevirtual 129, 3) := by decide +kernel
theorem dX8_deed_122 : decode cX8_deed 122 = .ok (.iastore, 1) := by decide +kernel
theorem dX8_deed_123 : decode cX8_deed 123 = .ok (.aload_n 0, 1) := by decide +kernel
theorem dX8_deed_124 : decode cX8_deed 124 = .ok (.getfield 16, 3) := by decide +kernel
theorem dX8_deed_127 : decode cX8_deed 127 = .ok (.iload_n 1, 1) := by decide +kernel
theorem dX8_deed_128 : decode cX8_deed 128 = .ok (.iaload, 1) := by decide +kernel
theorem dX8_deed_129 : decode cX8_deed 129 = .ok (.ireturn, 1) := by decide +kernel
theorem dX8_has_0 : decode cX8_has 0 = .ok (.aload_n 0, 1) := by decide +kernel
theorem dX8_has_1 : decode cX8_has 1 = .ok (.iconst 0, 1) := by decide +kernel
theorem dX8_has_2 : decode cX8_has 2 = .ok (.putfield 87, 3) := by decide +kernel
theorem dX8_has_5 : decode cX8_has 5 = .ok (.aload_n 0, 1) := by decide +kernel
theorem dX8_has_6 : decode cX8_has 6 = .ok (.aload_n 0, 1) := by decide +kernel
theorem dX8_has_7 : decode cX8_has 7 = .ok (.iload_n 1, 1) := by decide +kernel
theorem dX8_has_8 : decode cX8_has 8 = .ok (.invokevirtual 124, 3) := by decide +kernel
theorem dX8_has_11 : decode cX8_has 11 = .ok (.ifCond .ne 10, 3) := by decide +kernel
theorem dX8_has_14 : decode cX8_has 14 = .ok (.iload_n 2, 1) := by decide +kernel
theorem dX8_has_15 : decode cX8_has 15 = .ok (.invokestatic 114, 3) := by decide +kernel
theorem dX8_has_18 : decode cX8_has 18 = .ok (.ifCond .eq 7, 3) := by decide +kernel
theorem dX8_has_21 : decode cX8_has 21 = .ok (.iconst 1, 1) := by decide +kernel
theorem dX8_has_22 : decode cX8_has 22 = .ok (.goto 4, 3) := by decide +kernel
theorem dX8_has_25 : decode cX8_has 25 = .ok (.iconst 0, 1) := by decide +kernel
theorem dX8_has_26 : decode cX8_has 26 = .ok (.iconst 1, 1) := by decide +kernel
theorem dX8_has_27 : decode cX8_has 27 = .ok (.invokevirtual 106, 3) := by decide +kernel
theorem dX8_has_30 : decode cX8_has 30 = .ok (.ifCond .eq 7, 3) := by decide +kernel
theorem dX8_has_33 : decode cX8_has 33 = .ok (.iconst 0, 1) := by decide +kernel
theorem dX8_has_34 : decode cX8_has 34 = .ok (.goto 13, 3) := by decide +kernel
theorem dX8_has_37 : decode cX8_has 37 = .ok (.aload_n 0, 1) := by decide +kernel
theorem dX8_has_38 : decode cX8_has 38 = .ok (.getfield 9, 3) := by decide +kernel
theorem dX8_has_41 : decode cX8_has 41 = .ok (.iconst 4, 1) := by decide +kernel
theorem dX8_has_42 : decode cX8_has 42 = .ok (.iload_n 1, 1) := by decide +kernel
theorem dX8_has_43 : decode cX8_has 43 = .ok (.imul, 1) := by decide +kernel
theorem dX8_has_44 : decode cX8_has 44 = .ok (.iload_n 2, 1) := by decide +kernel
theorem dX8_has_45 : decode cX8_has 45 = .ok (.iadd, 1) := by decide +kernel
theorem dX8_has_46 : decode cX8_has 46 = .ok (.iaload, 1) := by decide +kernel
theorem dX8_has_47 : decode cX8_has 47 = .ok (.ireturn, 1) := by decide +kernel
theorem dX8_sum_0 : decode cX8_sum 0 = .ok (.aload_n 0, 1) := by decide +kernel
theorem dX8_sum_1 : decode cX8_sum 1 = .ok (.iconst 0, 1) := by decide +kernel
theorem dX8_sum_2 : decode cX8_sum 2 = .ok (.putfield 87, 3) := by decide +kernel
theorem dX8_sum_5 : decode cX8_sum 5 = .ok (.aload_n 0, 1) := by decide +kernel
theorem dX8_sum_6 : decode cX8_sum 6 = .ok (.iload_n 1, 1) := by decide +kernel
theorem dX8_sum_7 : decode cX8_sum 7 = .ok (.invokestatic 114, 3) := by decide +kernel
theorem dX8_sum_10 : decode cX8_sum 10 = .ok (.iconst 1, 1) := by decide +kernel
theorem dX8_sum_11 : decode cX8_sum 11 = .ok (.invokevirtual 106, 3) := by decide +kernel
theorem dX8_sum_14 : decode cX8_sum 14 = .ok (.ifCond .eq 7, 3) := by decide +kernel
theorem dX8_sum_17 : decode cX8_sum 17 = .ok (.lconst 0, 1) := by decide +kernel
theorem dX8_sum_18 : decode cX8_sum 18 = .ok (.goto 22, 3) := by decide +kernel
theorem dX8_sum_21 : decode cX8_sum 21 = .ok (.iload_n 2, 1) := by decide +kernel
theorem dX8_sum_22 : decode cX8_sum 22 = .ok (.ifCond .eq 12, 3) := by decide +kernel
theorem dX8_sum_25 : decode cX8_sum 25 = .ok (.aload_n 0, 1) := by decide +kernel
theorem dX8_sum_26 : decode cX8_sum 26 = .ok (.getfield 39, 3) := by decide +kernel
theorem dX8_sum_29 : decode cX8_sum 29 = .ok (.iload_n 1, 1) := by decide +kernel
theorem dX8_sum_30 : decode cX8_sum 30 = .ok (.laload, 1) := by decide +kernel
theorem dX8_sum_31 : decode cX8_sum 31 = .ok (.goto 9, 3) := by decide +kernel
theorem dX8_sum_34 : decode cX8_sum 34 = .ok (.aload_n 0, 1) := by decide +kernel
theorem dX8_sum_35 : decode cX8_sum 35 = .ok (.getfield 35, 3) := by decide +kernel
theorem dX8_sum_38 : decode cX8_sum 38 = .ok (.iload_n 1, 1) := by decide +kernel
theorem dX8_sum_39 : decode cX8_sum 39 = .ok (.laload, 1) := by decide +kernel
theorem dX8_sum_40 : decode cX8_sum 40 = .ok (.lreturn, 1) := by decide +kernel
theorem dX8_isWithin_0 : decode cX8_isWithin 0 = .ok (.aload_n 0, 1) := by decide +kernel
theorem dX8_isWithin_1 : decode cX8_isWithin 1 = .ok (.getfield 51, 3) := by decide +kernel
theorem dX8_isWithin_4 : decode cX8_isWithin 4 = .ok (.iload_n 1, 1) := by decide +kernel
theorem dX8_isWithin_5 : decode cX8_isWithin 5 = .ok (.iaload, 1) := by decide +kernel
theorem dX8_isWithin_6 : decode cX8_isWithin 6 = .ok (.istore_n 3, 1) := by decide +kernel
theorem dX8_isWithin_7 : decode cX8_isWithin 7 = .ok (.iload_n 3, 1) := by decide +kernel
theorem dX8_isWithin_8 : decode cX8_isWithin 8 = .ok (.ifCond .lt 18, 3) := by decide +kernel
theorem dX8_isWithin_11 : decode cX8_isWithin 11 = .ok (.iload_n 3, 1) := by decide +kernel
theorem dX8_isWithin_12 : decode cX8_isWithin 12 = .ok (.iload_n 2, 1) := by decide +kernel
theorem dX8_isWithin_13 : decode cX8_isWithin 13 = .ok (.if_icmp .eq 13, 3) := by decide +kernel
theorem dX8_isWithin_16 : decode cX8_isWithin 16 = .ok (.aload_n 0, 1) := by decide +kernel
theorem dX8_isWithin_17 : decode cX8_isWithin 17 = .ok (.getfield 51, 3) := by decide +kernel
theorem dX8_isWithin_20 : decode cX8_isWithin 20 = .ok (.iload_n 3, 1) := by decide +kernel
theorem dX8_isWithin_21 : decode cX8_isWithin 21 = .ok (.iaload, 1) := by decide +kernel
theorem dX8_isWithin_22 : decode cX8_isWithin 22 = .ok (.istore_n 3, 1) := by decide +kernel
theorem dX8_isWithin_23 : decode cX8_isWithin 23 = .ok (.goto (-16), 3) := by decide +kernel
theorem dX8_isWithin_26 : decode cX8_isWithin 26 = .ok (.iload_n 3, 1) := by decide +kernel
theorem dX8_isWithin_27 : decode cX8_isWithin 27 = .ok (.ifCond .lt 7, 3) := by decide +kernel
theorem dX8_isWithin_30 : decode cX8_isWithin 30 = .ok (.iconst 1, 1) := by decide +kernel
theorem dX8_isWithin_31 : decode cX8_isWithin 31 = .ok (.goto 4, 3) := by decide +kernel
theorem dX8_isWithin_34 : decode cX8_isWithin 34 = .ok (.iconst 0, 1) := by decide +kernel
theorem dX8_isWithin_35 : decode cX8_isWithin 35 = .ok (.ireturn, 1) := by decide +kernel
theorem dX8_right_0 : decode cX8_right 0 = .ok (.iconst 0, 1) := by decide +kernel
theorem dX8_right_1 : decode cX8_right 1 = .ok (.istore_n 2, 1) := by decide +kernel
theorem dX8_right_2 : decode cX8_right 2 = .ok (.iconst 0, 1) := by decide +kernel
theorem dX8_right_3 : decode cX8_right 3 = .ok (.istore_n 3, 1) := by decide +kernel
theorem dX8_right_4 : decode cX8_right 4 = .ok (.iload_n 3, 1) := by decide +kernel
theorem dX8_right_5 : decode cX8_right 5 = .ok (.aload_n 0, 1) := by decide +kernel
theorem dX8_right_6 : decode cX8_right 6 = .ok (.getfield 101, 3) := by decide +kernel
theorem dX8_right_9 : decode cX8_right 9 = .ok (.if_icmp .ge 27, 3) := by decide +kernel
theorem dX8_right_12 : decode cX8_right 12 = .ok (.iload_n 2, 1) := by decide +kernel
theorem dX8_right_13 : decode cX8_right 13 = .ok (.aload_n 0, 1) := by decide +kernel
theorem dX8_right_14 : decode cX8_right 14 = .ok (.getfield 51, 3) := by decide +kernel
theorem dX8_right_17 : decode cX8_right 17 = .ok (.iload_n 3, 1) := by decide +kernel
theorem dX8_right_18 : decode cX8_right 18 = .ok (.iaload, 1) := by decide +kernel
theorem dX8_right_19 : decode cX8_right 19 = .ok (.iload_n 1, 1) := by decide +kernel
theorem dX8_right_20 : decode cX8_right 20 = .ok (.if_icmp .ne 7, 3) := by decide +kernel
theorem dX8_right_23 : decode cX8_right 23 = .ok (.iconst 1, 1) := by decide +kernel
theorem dX8_right_24 : decode cX8_right 24 = .ok (.goto 4, 3) := by decide +kernel
theorem dX8_right_27 : decode cX8_right 27 = .ok (.iconst 0, 1) := by decide +kernel
theorem dX8_right_28 : decode cX8_right 28 = .ok (.iadd, 1) := by decide +kernel
theorem dX8_right_29 : decode cX8_right 29 = .ok (.istore_n 2, 1) := by decide +kernel
theorem dX8_right_30 : decode cX8_right 30 = .ok (.iinc 3 1, 3) := by decide +kernel
theorem dX8_right_33 : decode cX8_right 33 = .ok (.goto (-29), 3) := by decide +kernel
theorem dX8_right_36 : decode cX8_right 36 = .ok (.iload_n 2, 1) := by decide +kernel
theorem dX8_right_37 : decode cX8_right 37 = .ok (.ireturn, 1) := by decide +kernel
theorem dX8_isBroken_0 : decode cX8_isBroken 0 = .ok (.aload_n 0, 1) := by decide +kernel
theorem dX8_isBroken_1 : decode cX8_isBroken 1 = .ok (.getfield 54, 3) := by decide +kernel
theorem dX8_isBroken_4 : decode cX8_isBroken 4 = .ok (.iload_n 1, 1) := by decide +kernel
theorem dX8_isBroken_5 : decode cX8_isBroken 5 = .ok (.iaload, 1) := by decide +kernel
theorem dX8_isBroken_6 : decode cX8_isBroken 6 = .ok (.ifCond .ge 7, 3) := by decide +kernel
theorem dX8_isBroken_9 : decode cX8_isBroken 9 = .ok (.iconst 1, 1) := by decide +kernel
theorem dX8_isBroken_10 : decode cX8_isBroken 10 = .ok (.goto 4, 3) := by decide +kernel
theorem dX8_isBroken_13 : decode cX8_isBroken 13 = .ok (.iconst 0, 1) := by decide +kernel
theorem dX8_isBroken_14 : decode cX8_isBroken 14 = .ok (.ireturn, 1) := by decide +kernel
theorem dX8_isLent_0 : decode cX8_isLent 0 = .ok (.aload_n 0, 1) := by decide +kernel
theorem dX8_isLent_1 : decode cX8_isLent 1 = .ok (.getfield 57, 3) := by decide +kernel
theorem dX8_isLent_4 : decode cX8_isLent 4 = .ok (.iload_n 1, 1) := by decide +kernel
theorem dX8_isLent_5 : decode cX8_isLent 5 = .ok (.iaload, 1) := by decide +kernel
theorem dX8_isLent_6 : decode cX8_isLent 6 = .ok (.ifCond .lt 7, 3) := by decide +kernel
theorem dX8_isLent_9 : decode cX8_isLent 9 = .ok (.iconst 1, 1) := by decide +kernel
theorem dX8_isLent_10 : decode cX8_isLent 10 = .ok (.goto 4, 3) := by decide +kernel
theorem dX8_isLent_13 : decode cX8_isLent 13 = .ok (.iconst 0, 1) := by decide +kernel
theorem dX8_isLent_14 : decode cX8_isLent 14 = .ok (.ireturn, 1) := by decide +kernel
theorem dX8_lines_0 : decode cX8_lines 0 = .ok (.aload_n 0, 1) := by decide +kernel
theorem dX8_lines_1 : decode cX8_lines 1 = .ok (.getfield 69, 3) := by decide +kernel
theorem dX8_lines_4 : decode cX8_lines 4 = .ok (.iload_n 1, 1) := by decide +kernel
theorem dX8_lines_5 : decode cX8_lines 5 = .ok (.iaload, 1) := by decide +kernel
theorem dX8_lines_6 : decode cX8_lines 6 = .ok (.bipush 30, 2) := by decide +kernel
theorem dX8_lines_8 : decode cX8_lines 8 = .ok (.if_icmp .ge 40, 3) := by decide +kernel
theorem dX8_lines_11 : decode cX8_lines 11 = .ok (.aload_n 0, 1) := by decide +kernel
theorem dX8_lines_12 : decode cX8_lines 12 = .ok (.getfield 63, 3) := by decide +kernel
theorem dX8_lines_15 : decode cX8_lines 15 = .ok (.bipush 30, 2) := by decide +kernel
theorem dX8_lines_17 : decode cX8_lines 17 = .ok (.iload_n 1, 1) := by decide +kernel
theorem dX8_lines_18 : decode cX8_lines 18 = .ok (.imul, 1) := by decide +kernel
theorem dX8_lines_19 : decode cX8_lines 19 = .ok (.aload_n 0, 1) := by decide +kernel
theorem dX8_lines_20 : decode cX8_lines 20 = .ok (.getfield 69, 3) := by decide +kernel
theorem dX8_lines_23 : decode cX8_lines 23 = .ok (.iload_n 1, 1) := by decide +kernel
theorem dX8_lines_24 : decode cX8_lines 24 = .ok (.iaload, 1) := by decide +kernel
theorem dX8_lines_25 : decode cX8_lines 25 = .ok (.iadd, 1) := by decide +kernel
theorem dX8_lines_26 : decode cX8_lines 26 = .ok (.iload_n 2, 1) := by decide +kernel
theorem dX8_lines_27 : decode cX8_lines 27 = .ok (.iastore, 1) := by decide +kernel
theorem dX8_lines_28 : decode cX8_lines 28 = .ok (.aload_n 0, 1) := by decide +kernel
theorem dX8_lines_29 : decode cX8_lines 29 = .ok (.getfield 66, 3) := by decide +kernel
theorem dX8_lines_32 : decode cX8_lines 32 = .ok (.bipush 30, 2) := by decide +kernel
theorem dX8_lines_34 : decode cX8_lines 34 = .ok (.iload_n 1, 1) := by decide +kernel
theorem dX8_lines_35 : decode cX8_lines 35 = .ok (.imul, 1) := by decide +kernel
theorem dX8_lines_36 : decode cX8_lines 36 = .ok (.aload_n 0, 1) := by decide +kernel
theorem dX8_lines_37 : decode cX8_lines 37 = .ok (.getfield 69, 3) := by decide +kernel
theorem dX8_lines_40 : decode cX8_lines 40 = .ok (.iload_n 1, 1) := by decide +kernel
theorem dX8_lines_41 : decode cX8_lines 41 = .ok (.iaload, 1) := by decide +kernel
theorem dX8_lines_42 : decode cX8_lines 42 = .ok (.iadd, 1) := by decide +kernel
theorem dX8_lines_43 : decode cX8_lines 43 = .ok (.aload_n 0, 1) := by decide +kernel
theorem dX8_lines_44 : decode cX8_lines 44 = .ok (.getfield 133, 3) := by decide +kernel
theorem dX8_lines_47 : decode cX8_lines 47 = .ok (.iastore, 1) := by decide +kernel
theorem dX8_lines_48 : decode cX8_lines 48 = .ok (.aload_n 0, 1) := by decide +kernel
theorem dX8_lines_49 : decode cX8_lines 49 = .ok (.getfield 69, 3) := by decide +kernel
theorem dX8_lines_52 : decode cX8_lines 52 = .ok (.iload_n 1, 1) := by decide +kernel
theorem dX8_lines_53 : decode cX8_lines 53 = .ok (.dup2, 1) := by decide +kernel
theorem dX8_lines_54 : decode cX8_lines 54 = .ok (.iaload, 1) := by decide +kernel
theorem dX8_lines_55 : decode cX8_lines 55 = .ok (.iconst 1, 1) := by decide +kernel
theorem dX8_lines_56 : decode cX8_lines 56 = .ok (.iadd, 1) := by decide +kernel
theorem dX8_lines_57 : decode cX8_lines 57 = .ok (.iastore, 1) := by decide +kernel
theorem dX8_lines_58 : decode cX8_lines 58 = .ok (.return_, 1) := by decide +kernel
theorem dX8_single_0 : decode cX8_single 0 = .ok (.aload_n 0, 1) := by decide +kernel
theorem dX8_single_1 : decode cX8_single 1 = .ok (.iconst 0, 1) := by decide +kernel
theorem dX8_single_2 : decode cX8_single 2 = .ok (.putfield 87, 3) := by decide +kernel
theorem dX8_single_5 : decode cX8_single 5 = .ok (.aload_n 0, 1) := by decide +kernel
theorem dX8_single_6 : decode cX8_single 6 = .ok (.aload_n 0, 1) := by decide +kernel
theorem dX8_single_7 : decode cX8_single 7 = .ok (.iload_n 1, 1) := by decide +kernel
theorem dX8_single_8 : decode cX8_single 8 = .ok (.invokevirtual 124, 3) := by decide +kernel
theorem dX8_single_11 : decode cX8_single 11 = .ok (.iconst 1, 1) := by decide +kernel
theorem dX8_single_12 : decode cX8_single 12 = .ok (.invokevirtual 106, 3) := by decide +kernel
theorem dX8_single_15 : decode cX8_single 15 = .ok (.ifCond .ne 50, 3) := by decide +kernel
theorem dX8_single_18 : decode cX8_single 18 = .ok (.aload_n 0, 1) := by decide +kernel
theorem dX8_single_19 : decode cX8_single 19 = .ok (.iload_n 3, 1) := by decide +kernel
theorem dX8_single_20 : decode cX8_single 20 = .ok (.i2l, 1) := by decide +kernel
theorem dX8_single_21 : decode cX8_single 21 = .ok (.lconst 0, 1) := by decide +kernel
theorem dX8_single_22 : decode cX8_single 22 = .ok (.ldc2_w 136, 3) := by decide +kernel
theorem dX8_single_25 : decode cX8_single 25 = .ok (.invokestatic 94, 3) := by decide +kernel
theorem dX8_single_28 : decode cX8_single 28 = .ok (.ifCond .ne 7, 3) := by decide +kernel
theorem dX8_single_31 : decode cX8_single 31 = .ok (.iconst 1, 1) := by decide +kernel
theorem dX8_single_32 : decode cX8_single 32 = .ok (.goto 4, 3) := by decide +kernel
theorem dX8_single_35 : decode cX8_single 35 = .ok (.iconst 0, 1) := by decide +kernel
theorem dX8_single_36 : decode cX8_single 36 = .ok (.iconst 2, 1) := by decide +kernel
theorem dX8_single_37 : decode cX8_single 37 = .ok (.invokevirtual 106, 3) := by decide +kernel
theorem dX8_single_40 : decode cX8_single 40 = .ok (.ifCond .ne 25, 3) := by decide +kernel
theorem dX8_single_43 : decode cX8_single 43 = .ok (.aload_n 0, 1) := by decide +kernel
theorem dX8_single_44 : decode cX8_single 44 = .ok (.aload_n 0, 1) := by decide +kernel
theorem dX8_single_45 : decode cX8_single 45 = .ok (.getfield 101, 3) := by decide +kernel
theorem dX8_single_48 : decode cX8_single 48 = .ok (.bipush 40, 2) := by decide +kernel
theorem dX8_single_50 : decode cX8_single 50 = .ok (.if_icmp .ne 7, 3) := by decide +kernel
theorem dX8_single_53 : decode cX8_single 53 = .ok (.iconst 1, 1) := by decide +kernel
theorem dX8_single_54 : decode cX8_single 54 = .ok (.goto 4, 3) := by decide +kernel
theorem dX8_single_57 : decode cX8_single 57 = .ok (.iconst 0, 1) := by decide +kernel
theorem dX8_single_58 : decode cX8_single 58 = .ok (.iconst 3, 1) := by decide +kernel
theorem dX8_single_59 : decode cX8_single 59 = .ok (.invokevirtual 106, 3) := by decide +kernel
theorem dX8_single_62 : decode cX8_single 62 = .ok (.ifCond .eq 5, 3) := by decide +kernel
theorem dX8_single_65 : decode cX8_single 65 = .ok (.iconst 0, 1) := by decide +kernel
theorem dX8_single_66 : decode cX8_single 66 = .ok (.ireturn, 1) := by decide +kernel
theorem dX8_single_67 : decode cX8_single 67 = .ok (.aload_n 0, 1) := by decide +kernel
theorem dX8_single_68 : decode cX8_single 68 = .ok (.getfield 101, 3) := by decide +kernel
theorem dX8_single_71 : decode cX8_single 71 = .ok (.istore 4, 2) := by decide +kernel
theorem dX8_single_73 : decode cX8_single 73 = .ok (.aload_n 0, 1) := by decide +kernel
theorem dX8_single_74 : decode cX8_single 74 = .ok (.dup, 1) := by decide +kernel
theorem dX8_single_75 : decode cX8_single 75 = .ok (.getfield 101, 3) := by decide +kernel
theorem dX8_single_78 : decode cX8_single 78 = .ok (.iconst 1, 1) := by decide +kernel
theorem dX8_single_79 : decode cX8_single 79 = .ok (.iadd, 1) := by decide +kernel
theorem dX8_single_80 : decode cX8_single 80 = .ok (.putfield 101, 3) := by decide +kernel
theorem dX8_single_83 : decode cX8_single 83 = .ok (.aload_n 0, 1) := by decide +kernel
theorem dX8_single_84 : decode cX8_single 84 = .ok (.getfield 45, 3) := by decide +kernel
theorem dX8_single_87 : decode cX8_single 87 = .ok (.iload 4, 2) := by decide +kernel
theorem dX8_single_89 : decode cX8_single 89 = .ok (.iload_n 2, 1) := by decide +kernel
theorem dX8_single_90 : decode cX8_single 90 = .ok (.bastore, 1) := by decide +kernel
theorem dX8_single_91 : decode cX8_single 91 = .ok (.aload_n 0, 1) := by decide +kernel
theorem dX8_single_92 : decode cX8_single 92 = .ok (.getfield 48, 3) := by decide +kernel
theorem dX8_single_95 : decode cX8_single 95 = .ok (.iload 4, 2) := by decide +kernel
theorem dX8_single_97 : decode cX8_single 97 = .ok (.iload_n 3, 1) := by decide +kernel
theorem dX8_single_98 : decode cX8_single 98 = .ok (.iastore, 1) := by decide +kernel
theorem dX8_single_99 : decode cX8_single 99 = .ok (.aload_n 0, 1) := by decide +kernel
theorem dX8_single_100 : decode cX8_single 100 = .ok (.getfield 51, 3) := by decide +kernel
theorem dX8_single_103 : decode cX8_single 103 = .ok (.iload 4, 2) := by decide +kernel
theorem dX8_single_105 : decode cX8_single 105 = .ok (.iconst (-1), 1) := by decide +kernel
theorem dX8_single_106 : decode cX8_single 106 = .ok (.iastore, 1) := by decide +kernel
theorem dX8_single_107 : decode cX8_single 107 = .ok (.aload_n 0, 1) := by decide +kernel
theorem dX8_single_108 : decode cX8_single 108 = .ok (.getfield 54, 3) := by decide +kernel
theorem dX8_single_111 : decode cX8_single 111 = .ok (.iload 4, 2) := by decide +kernel
theorem dX8_single_113 : decode cX8_single 113 = .ok (.iload_n 1, 1) := by decide +kernel
theorem dX8_single_114 : decode cX8_single 114 = .ok (.iastore, 1) := by decide +kernel
theorem dX8_single_115 : decode cX8_single 115 = .ok (.aload_n 0, 1) := by decide +kernel
theorem dX8_single_116 : decode cX8_single 116 = .ok (.getfield 57, 3) := by decide +kernel
theorem dX8_single_119 : decode cX8_single 119 = .ok (.iload 4, 2) := by decide +kernel
theorem dX8_single_121 : decode cX8_single 121 = .ok (.iconst (-1), 1) := by decide +kernel
theorem dX8_single_122 : decode cX8_single 122 = .ok (.iastore, 1) := by decide +kernel
theorem dX8_single_123 : decode cX8_single 123 = .ok (.aload_n 0, 1) := by decide +kernel
theorem dX8_single_124 : decode cX8_single 124 = .ok (.getfield 60, 3) := by decide +kernel
theorem dX8_single_127 : decode cX8_single 127 = .ok (.iload 4, 2) := by decide +kernel
theorem dX8_single_129 : decode cX8_single 129 = .ok (.iconst (-1), 1) := by decide +kernel
theorem dX8_single_130 : decode cX8_single 130 = .ok (.iastore, 1) := by decide +kernel
theorem dX8_single_131 : decode cX8_single 131 = .ok (.aload_n 0, 1) := by decide +kernel
theorem dX8_single_132 : decode cX8_single 132 = .ok (.iload 4, 2) := by decide +kernel
theorem dX8_single_134 : decode cX8_single 134 = .ok (.iload_n 1, 1) := by decide +kernel
theorem dX8_single_135 : decode cX8_single 135 = .ok (.invokevirtual 138, 3) := by decide +kernel
theorem dX8_single_138 : decode cX8_single 138 = .ok (.iload 4, 2) := by decide +kernel
theorem dX8_single_140 : decode cX8_single 140 = .ok (.ireturn, 1) := by decide +kernel
theorem dX8_put_0 : decode cX8_put 0 = .ok (.aload_n 0, 1) := by decide +kernel
theorem dX8_put_1 : decode cX8_put 1 = .ok (.iconst 0, 1) := by decide +kernel
theorem dX8_put_2 : decode cX8_put 2 = .ok (.putfield 87, 3) := by decide +kernel
theorem dX8_put_5 : decode cX8_put 5 = .ok (.aload_n 0, 1) := by decide +kernel
theorem dX8_put_6 : decode cX8_put 6 = .ok (.aload_n 0, 1) := by decide +kernel
theorem dX8_put_7 : decode cX8_put 7 = .ok (.iload_n 1, 1) := by decide +kernel
theorem dX8_put_8 : decode cX8_put 8 = .ok (.invokevirtual 142, 3) := by decide +kernel
theorem dX8_put_11 : decode cX8_put 11 = .ok (.ifCond .ne 11, 3) := by decide +kernel
theorem dX8_put_14 : decode cX8_put 14 = .ok (.aload_n 0, 1) := by decide +kernel
theorem dX8_put_15 : decode cX8_put 15 = .ok (.iload_n 2, 1) := by decide +kernel
theorem dX8_put_16 : decode cX8_put 16 = .ok (.invokevirtual 142, 3) := by decide +kernel
theorem dX8_put_19 : decode cX8_put 19 = .ok (.ifCond .eq 7, 3) := by decide +kernel
theorem dX8_put_22 : decode cX8_put 22 = .ok (.iconst 1, 1) := by decide +kernel
theorem dX8_put_23 : decode cX8_put 23 = .ok (.goto 4, 3) := by decide +kernel
theorem dX8_put_26 : decode cX8_put 26 = .ok (.iconst 0, 1) := by decide +kernel
theorem dX8_put_27 : decode cX8_put 27 = .ok (.iconst 1, 1) := by decide +kernel
theorem dX8_put_28 : decode cX8_put 28 = .ok (.invokevirtual 106, 3) := by decide +kernel
theorem dX8_put_31 : decode cX8_put 31 = .ok (.ifCond .eq 5, 3) := by decide +kernel
theorem dX8_put_34 : decode cX8_put 34 = .ok (.iconst 0, 1) := by decide +kernel
theorem dX8_put_35 : decode cX8_put 35 = .ok (.ireturn, 1) := by decide +kernel
theorem dX8_put_36 : decode cX8_put 36 = .ok (.aload_n 0, 1) := by decide +kernel
theorem dX8_put_37 : decode cX8_put 37 = .ok (.iload_n 1, 1) := by decide +kernel
theorem dX8_put_38 : decode cX8_put 38 = .ok (.invokevirtual 145, 3) := by decide +kernel
theorem dX8_put_41 : decode cX8_put 41 = .ok (.ifCond .ne 55, 3) := by decide +kernel
theorem dX8_put_44 : decode cX8_put 44 = .ok (.aload_n 0, 1) := by decide +kernel
theorem dX8_put_45 : decode cX8_put 45 = .ok (.getfield 54, 3) := by decide +kernel
theorem dX8_put_48 : decode cX8_put 48 = .ok (.iload_n 1, 1) := by decide +kernel
theorem dX8_put_49 : decode cX8_put 49 = .ok (.iaload, 1) := by decide +kernel
theorem dX8_put_50 : decode cX8_put 50 = .ok (.aload_n 0, 1) := by decide +kernel
theorem dX8_put_51 : decode cX8_put 51 = .ok (.getfield 54, 3) := by decide +kernel
theorem dX8_put_54 : decode cX8_put 54 = .ok (.iload_n 2, 1) := by decide +kernel
theorem dX8_put_55 : decode cX8_put 55 = .ok (.iaload, 1) := by decide +kernel
theorem dX8_put_56 : decode cX8_put 56 = .ok (.if_icmp .ne 40, 3) := by decide +kernel
theorem dX8_put_59 : decode cX8_put 59 = .ok (.aload_n 0, 1) := by decide +kernel
theorem dX8_put_60 : decode cX8_put 60 = .ok (.getfield 51, 3) := by decide +kernel
theorem dX8_put_63 : decode cX8_put 63 = .ok (.iload_n 1, 1) := by decide +kernel
theorem dX8_put_64 : decode cX8_put 64 = .ok (.iaload, 1) := by decide +kernel
theorem dX8_put_65 : decode cX8_put 65 = .ok (.ifCond .ge 31, 3) := by decide +kernel
theorem dX8_put_68 : decode cX8_put 68 = .ok (.iload_n 1, 1) := by decide +kernel
theorem dX8_put_69 : decode cX8_put 69 = .ok (.iload_n 2, 1) := by decide +kernel
theorem dX8_put_70 : decode cX8_put 70 = .ok (.if_icmp .eq 26, 3) := by decide +kernel
theorem dX8_put_73 : decode cX8_put 73 = .ok (.aload_n 0, 1) := by decide +kernel
theorem dX8_put_74 : decode cX8_put 74 = .ok (.iload_n 2, 1) := by decide +kernel
theorem dX8_put_75 : decode cX8_put 75 = .ok (.iload_n 1, 1) := by decide +kernel
theorem dX8_put_76 : decode cX8_put 76 = .ok (.invokevirtual 148, 3) := by decide +kernel
theorem dX8_put_79 : decode cX8_put 79 = .ok (.ifCond .ne 17, 3) := by decide +kernel
theorem dX8_put_82 : decode cX8_put 82 = .ok (.aload_n 0, 1) := by decide +kernel
theorem dX8_put_83 : decode cX8_put 83 = .ok (.iload_n 2, 1) := by decide +kernel
theorem dX8_put_84 : decode cX8_put 84 = .ok (.invokevirtual 152, 3) := by decide +kernel
theorem dX8_put_87 : decode cX8_put 87 = .ok (.aload_n 0, 1) := by decide +kernel
theorem dX8_put_88 : decode cX8_put 88 = .ok (.getfield 48, 3) := by decide +kernel
theorem dX8_put_91 : decode cX8_put 91 = .ok (.iload_n 2, 1) := by decide +kernel
theorem dX8_put_92 : decode cX8_put 92 = .ok (.iaload, 1) := by decide +kernel
theorem dX8_put_93 : decode cX8_put 93 = .ok (.if_icmp .lt 5, 3) := by decide +kernel
theorem dX8_put_96 : decode cX8_put 96 = .ok (.iconst 0, 1) := by decide +kernel
theorem dX8_put_97 : decode cX8_put 97 = .ok (.ireturn, 1) := by decide +kernel
theorem dX8_put_98 : decode cX8_put 98 = .ok (.aload_n 0, 1) := by decide +kernel
theorem dX8_put_99 : decode cX8_put 99 = .ok (.getfield 51, 3) := by decide +kernel
theorem dX8_put_102 : decode cX8_put 102 = .ok (.iload_n 1, 1) := by decide +kernel
theorem dX8_put_103 : decode cX8_put 103 = .ok (.iload_n 2, 1) := by decide +kernel
theorem dX8_put_104 : decode cX8_put 104 = .ok (.iastore, 1) := by decide +kernel
theorem dX8_put_105 : decode cX8_put 105 = .ok (.iconst 1, 1) := by decide +kernel
theorem dX8_put_106 : decode cX8_put 106 = .ok (.ireturn, 1) := by decide +kernel
theorem dX8_take_0 : decode cX8_take 0 = .ok (.aload_n 0, 1) := by decide +kernel
theorem dX8_take_1 : decode cX8_take 1 = .ok (.iconst 0, 1) := by decide +kernel
theorem dX8_take_2 : decode cX8_take 2 = .ok (.putfield 87, 3) := by decide +kernel
theorem dX8_take_5 : decode cX8_take 5 = .ok (.aload_n 0, 1) := by decide +kernel
theorem dX8_take_6 : decode cX8_take 6 = .ok (.aload_n 0, 1) := by decide +kernel
theorem dX8_take_7 : decode cX8_take 7 = .ok (.iload_n 1, 1) := by decide +kernel
theorem dX8_take_8 : decode cX8_take 8 = .ok (.invokevirtual 142, 3) := by decide +kernel
theorem dX8_take_11 : decode cX8_take 11 = .ok (.iconst 1, 1) := by decide +kernel
theorem dX8_take_12 : decode cX8_take 12 = .ok (.invokevirtual 106, 3) := by decide +kernel
theorem dX8_take_15 : decode cX8_take 15 = .ok (.ifCond .ne 12, 3) := by decide +kernel
theorem dX8_take_18 : decode cX8_take 18 = .ok (.aload_n 0, 1) := by decide +kernel
theorem dX8_take_19 : decode cX8_take 19 = .ok (.getfield 51, 3) := by decide +kernel
theorem dX8_take_22 : decode cX8_take 22 = .ok (.iload_n 1, 1) := by decide +kernel
theorem dX8_take_23 : decode cX8_take 23 = .ok (.iaload, 1) := by decide +kernel
theorem dX8_take_24 : decode cX8_take 24 = .ok (.ifCond .ge 5, 3) := by decide +kernel
theorem dX8_take_27 : decode cX8_take 27 = .ok (.iconst 0, 1) := by decide +kernel
theorem dX8_take_28 : decode cX8_take 28 = .ok (.ireturn, 1) := by decide +kernel
theorem dX8_take_29 : decode cX8_take 29 = .ok (.aload_n 0, 1) := by decide +kernel
theorem dX8_take_30 : decode cX8_take 30 = .ok (.getfield 51, 3) := by decide +kernel
theorem dX8_take_33 : decode cX8_take 33 = .ok (.iload_n 1, 1) := by decide +kernel
theorem dX8_take_34 : decode cX8_take 34 = .ok (.iconst (-1), 1) := by decide +kernel
theorem dX8_take_35 : decode cX8_take 35 = .ok (.iastore, 1) := by decide +kernel
theorem dX8_take_36 : decode cX8_take 36 = .ok (.iconst 1, 1) := by decide +kernel
theorem dX8_take_37 : decode cX8_take 37 = .ok (.ireturn, 1) := by decide +kernel
theorem dX8_mayGo_0 : decode cX8_mayGo 0 = .ok (.aload_n 0, 1) := by decide +kernel
theorem dX8_mayGo_1 : decode cX8_mayGo 1 = .ok (.iload_n 1, 1) := by decide +kernel
theorem dX8_mayGo_2 : decode cX8_mayGo 2 = .ok (.invokevirtual 145, 3) := by decide +kernel
theorem dX8_mayGo_5 : decode cX8_mayGo 5 = .ok (.ifCond .ne 12, 3) := by decide +kernel
theorem dX8_mayGo_8 : decode cX8_mayGo 8 = .ok (.aload_n 0, 1) := by decide +kernel
theorem dX8_mayGo_9 : decode cX8_mayGo 9 = .ok (.getfield 51, 3) := by decide +kernel
theorem dX8_mayGo_12 : decode cX8_mayGo 12 = .ok (.iload_n 1, 1) := by decide +kernel
theorem dX8_mayGo_13 : decode cX8_mayGo 13 = .ok (.iaload, 1) := by decide +kernel
theorem dX8_mayGo_14 : decode cX8_mayGo 14 = .ok (.ifCond .lt 5, 3) := by decide +kernel
theorem dX8_mayGo_17 : decode cX8_mayGo 17 = .ok (.iconst 0, 1) := by decide +kernel
theorem dX8_mayGo_18 : decode cX8_mayGo 18 = .ok (.ireturn, 1) := by decide +kernel
theorem dX8_mayGo_19 : decode cX8_mayGo 19 = .ok (.iconst 1, 1) := by decide +kernel
theorem dX8_mayGo_20 : decode cX8_mayGo 20 = .ok (.istore_n 2, 1) := by decide +kernel
theorem dX8_mayGo_21 : decode cX8_mayGo 21 = .ok (.iconst 0, 1) := by decide +kernel
theorem dX8_mayGo_22 : decode cX8_mayGo 22 = .ok (.istore_n 3, 1) := by decide +kernel
theorem dX8_mayGo_23 : decode cX8_mayGo 23 = .ok (.iload_n 3, 1) := by decide +kernel
theorem dX8_mayGo_24 : decode cX8_mayGo 24 = .ok (.aload_n 0, 1) := by decide +kernel
theorem dX8_mayGo_25 : decode cX8_mayGo 25 = .ok (.getfield 101, 3) := by decide +kernel
theorem dX8_mayGo_28 : decode cX8_mayGo 28 = .ok (.if_icmp .ge 50, 3) := by decide +kernel
theorem dX8_mayGo_31 : decode cX8_mayGo 31 = .ok (.iload_n 3, 1) := by decide +kernel
theorem dX8_mayGo_32 : decode cX8_mayGo 32 = .ok (.iload_n 1, 1) := by decide +kernel
theorem dX8_mayGo_33 : decode cX8_mayGo 33 = .ok (.if_icmp .eq 12, 3) := by decide +kernel
theorem dX8_mayGo_36 : decode cX8_mayGo 36 = .ok (.aload_n 0, 1) := by decide +kernel
theorem dX8_mayGo_37 : decode cX8_mayGo 37 = .ok (.iload_n 3, 1) := by decide +kernel
theorem dX8_mayGo_38 : decode cX8_mayGo 38 = .ok (.iload_n 1, 1) := by decide +kernel
theorem dX8_mayGo_39 : decode cX8_mayGo 39 = .ok (.invokevirtual 148, 3) := by decide +kernel
theorem dX8_mayGo_42 : decode cX8_mayGo 42 = .ok (.ifCond .eq 30, 3) := by decide +kernel
theorem dX8_mayGo_45 : decode cX8_mayGo 45 = .ok (.iload_n 2, 1) := by decide +kernel
theorem dX8_mayGo_46 : decode cX8_mayGo 46 = .ok (.ifCond .eq 24, 3) := by decide +kernel
theorem dX8_mayGo_49 : decode cX8_mayGo 49 = .ok (.aload_n 0, 1) := by decide +kernel
theorem dX8_mayGo_50 : decode cX8_mayGo 50 = .ok (.getfield 45, 3) := by decide +kernel
theorem dX8_mayGo_53 : decode cX8_mayGo 53 = .ok (.iload_n 3, 1) := by decide +kernel
theorem dX8_mayGo_54 : decode cX8_mayGo 54 = .ok (.baload, 1) := by decide +kernel
theorem dX8_mayGo_55 : decode cX8_mayGo 55 = .ok (.ifCond .ne 15, 3) := by decide +kernel
theorem dX8_mayGo_58 : decode cX8_mayGo 58 = .ok (.aload_n 0, 1) := by decide +kernel
theorem dX8_mayGo_59 : decode cX8_mayGo 59 = .ok (.iload_n 3, 1) := by decide +kernel
theorem dX8_mayGo_60 : decode cX8_mayGo 60 = .ok (.invokevirtual 156, 3) := by decide +kernel
theorem dX8_mayGo_63 : decode cX8_mayGo 63 = .ok (.ifCond .ne 7, 3) := by decide +kernel
theorem dX8_mayGo_66 : decode cX8_mayGo 66 = .ok (.iconst 1, 1) := by decide +kernel
theorem dX8_mayGo_67 : decode cX8_mayGo 67 = .ok (.goto 4, 3) := by decide +kernel
theorem dX8_mayGo_70 : decode cX8_mayGo 70 = .ok (.iconst 0, 1) := by decide +kernel
theorem dX8_mayGo_71 : decode cX8_mayGo 71 = .ok (.istore_n 2, 1) := by decide +kernel
theorem dX8_mayGo_72 : decode cX8_mayGo 72 = .ok (.iinc 3 1, 3) := by decide +kernel
theorem dX8_mayGo_75 : decode cX8_mayGo 75 = .ok (.goto (-52), 3) := by decide +kernel
theorem dX8_mayGo_78 : decode cX8_mayGo 78 = .ok (.iload_n 2, 1) := by decide +kernel
theorem dX8_mayGo_79 : decode cX8_mayGo 79 = .ok (.ireturn, 1) := by decide +kernel
theorem dX8_goes_0 : decode cX8_goes 0 = .ok (.iconst 0, 1) := by decide +kernel
theorem dX8_goes_1 : decode cX8_goes 1 = .ok (.istore_n 3, 1) := by decide +kernel
theorem dX8_goes_2 : decode cX8_goes 2 = .ok (.iload_n 3, 1) := by decide +kernel
theorem dX8_goes_3 : decode cX8_goes 3 = .ok (.aload_n 0, 1) := by decide +kernel
theorem dX8_goes_4 : decode cX8_goes 4 = .ok (.getfield 101, 3) := by decide +kernel
theorem dX8_goes_7 : decode cX8_goes 7 = .ok (.if_icmp .ge 39, 3) := by decide +kernel
theorem dX8_goes_10 : decode cX8_goes 10 = .ok (.iload_n 3, 1) := by decide +kernel
theorem dX8_goes_11 : decode cX8_goes 11 = .ok (.iload_n 1, 1) := by decide +kernel
theorem dX8_goes_12 : decode cX8_goes 12 = .ok (.if_icmp .eq 15, 3) := by decide +kernel
theorem dX8_goes_15 : decode cX8_goes 15 = .ok (.aload_n 0, 1) := by decide +kernel
theorem dX8_goes_16 : decode cX8_goes 16 = .ok (.iload_n 3, 1) := by decide +kernel
theorem dX8_goes_17 : decode cX8_goes 17 = .ok (.iload_n 1, 1) := by decide +kernel
theorem dX8_goes_18 : decode cX8_goes 18 = .ok (.invokevirtual 148, 3) := by decide +kernel
theorem dX8_goes_21 : decode cX8_goes 21 = .ok (.ifCond .ne 6, 3) := by decide +kernel
theorem dX8_goes_24 : decode cX8_goes 24 = .ok (.goto 16, 3) := by decide +kernel
theorem dX8_goes_27 : decode cX8_goes 27 = .ok (.aload_n 0, 1) := by decide +kernel
theorem dX8_goes_28 : decode cX8_goes 28 = .ok (.getfield 54, 3) := by decide +kernel
theorem dX8_goes_31 : decode cX8_goes 31 = .ok (.iload_n 3, 1) := by decide +kernel
theorem dX8_goes_32 : decode cX8_goes 32 = .ok (.iload_n 2, 1) := by decide +kernel
theorem dX8_goes_33 : decode cX8_goes 33 = .ok (.iastore, 1) := by decide +kernel
theorem dX8_goes_34 : decode cX8_goes 34 = .ok (.aload_n 0, 1) := by decide +kernel
theorem dX8_goes_35 : decode cX8_goes 35 = .ok (.iload_n 3, 1) := by decide +kernel
theorem dX8_goes_36 : decode cX8_goes 36 = .ok (.iload_n 2, 1) := by decide +kernel
theorem dX8_goes_37 : decode cX8_goes 37 = .ok (.invokevirtual 138, 3) := by decide +kernel
theorem dX8_goes_40 : decode cX8_goes 40 = .ok (.iinc 3 1, 3) := by decide +kernel
theorem dX8_goes_43 : decode cX8_goes 43 = .ok (.goto (-41), 3) := by decide +kernel
theorem dX8_goes_46 : decode cX8_goes 46 = .ok (.return_, 1) := by decide +kernel
theorem dX8_give_0 : decode cX8_give 0 = .ok (.aload_n 0, 1) := by decide +kernel
theorem dX8_give_1 : decode cX8_give 1 = .ok (.iconst 0, 1) := by decide +kernel
theorem dX8_give_2 : decode cX8_give 2 = .ok (.putfield 87, 3) := by decide +kernel
theorem dX8_give_5 : decode cX8_give 5 = .ok (.aload_n 0, 1) := by decide +kernel
theorem dX8_give_6 : decode cX8_give 6 = .ok (.aload_n 0, 1) := by decide +kernel
theorem dX8_give_7 : decode cX8_give 7 = .ok (.iload_n 1, 1) := by decide +kernel
theorem dX8_give_8 : decode cX8_give 8 = .ok (.invokevirtual 142, 3) := by decide +kernel
theorem dX8_give_11 : decode cX8_give 11 = .ok (.ifCond .ne 11, 3) := by decide +kernel
theorem dX8_give_14 : decode cX8_give 14 = .ok (.aload_n 0, 1) := by decide +kernel
theorem dX8_give_15 : decode cX8_give 15 = .ok (.iload_n 2, 1) := by decide +kernel
theorem dX8_give_16 : decode cX8_give 16 = .ok (.invokevirtual 124, 3) := by decide +kernel
theorem dX8_give_19 : decode cX8_give 19 = .ok (.ifCond .eq 7, 3) := by decide +kernel
theorem dX8_give_22 : decode cX8_give 22 = .ok (.iconst 1, 1) := by decide +kernel
theorem dX8_give_23 : decode cX8_give 23 = .ok (.goto 4, 3) := by decide +kernel
theorem dX8_give_26 : decode cX8_give 26 = .ok (.iconst 0, 1) := by decide +kernel
theorem dX8_give_27 : decode cX8_give 27 = .ok (.iconst 1, 1) := by decide +kernel
theorem dX8_give_28 : decode cX8_give 28 = .ok (.invokevirtual 106, 3) := by decide +kernel
theorem dX8_give_31 : decode cX8_give 31 = .ok (.ifCond .ne 21, 3) := by decide +kernel
theorem dX8_give_34 : decode cX8_give 34 = .ok (.aload_n 0, 1) := by decide +kernel
theorem dX8_give_35 : decode cX8_give 35 = .ok (.iload_n 1, 1) := by decide +kernel
theorem dX8_give_36 : decode cX8_give 36 = .ok (.invokevirtual 159, 3) := by decide +kernel
theorem dX8_give_39 : decode cX8_give 39 = .ok (.ifCond .eq 13, 3) := by decide +kernel
theorem dX8_give_42 : decode cX8_give 42 = .ok (.aload_n 0, 1) := by decide +kernel
theorem dX8_give_43 : decode cX8_give 43 = .ok (.getfield 54, 3) := by decide +kernel
theorem dX8_give_46 : decode cX8_give 46 = .ok (.iload_n 1, 1) := by decide +kernel
theorem dX8_give_47 : decode cX8_give 47 = .ok (.iaload, 1) := by decide +kernel
theorem dX8_give_48 : decode cX8_give 48 = .ok (.iload_n 2, 1) := by decide +kernel
theorem dX8_give_49 : decode cX8_give 49 = .ok (.if_icmp .ne 5, 3) := by decide +kernel
theorem dX8_give_52 : decode cX8_give 52 = .ok (.iconst 0, 1) := by decide +kernel
theorem dX8_give_53 : decode cX8_give 53 = .ok (.ireturn, 1) := by decide +kernel
theorem dX8_give_54 : decode cX8_give 54 = .ok (.aload_n 0, 1) := by decide +kernel
theorem dX8_give_55 : decode cX8_give 55 = .ok (.iload_n 1, 1) := by decide +kernel
theorem dX8_give_56 : decode cX8_give 56 = .ok (.iload_n 2, 1) := by decide +kernel
theorem dX8_give_57 : decode cX8_give 57 = .ok (.invokevirtual 162, 3) := by decide +kernel
theorem dX8_give_60 : decode cX8_give 60 = .ok (.iconst 1, 1) := by decide +kernel
theorem dX8_give_61 : decode cX8_give 61 = .ok (.ireturn, 1) := by decide +kernel
theorem dX8_lend_0 : decode cX8_lend 0 = .ok (.aload_n 0, 1) := by decide +kernel
theorem dX8_lend_1 : decode cX8_lend 1 = .ok (.iconst 0, 1) := by decide +kernel
theorem dX8_lend_2 : decode cX8_lend 2 = .ok (.putfield 87, 3) := by decide +kernel
theorem dX8_lend_5 : decode cX8_lend 5 = .ok (.aload_n 0, 1) := by decide +kernel
theorem dX8_lend_6 : decode cX8_lend 6 = .ok (.aload_n 0, 1) := by decide +kernel
theorem dX8_lend_7 : decode cX8_lend 7 = .ok (.iload_n 1, 1) := by decide +kernel
theorem dX8_lend_8 : decode cX8_lend 8 = .ok (.invokevirtual 142, 3) := by decide +kernel
theorem dX8_lend_11 : decode cX8_lend 11 = .ok (.ifCond .ne 11, 3) := by decide +kernel
theorem dX8_lend_14 : decode cX8_lend 14 = .ok (.aload_n 0, 1) := by decide +kernel
theorem dX8_lend_15 : decode cX8_lend 15 = .ok (.iload_n 2, 1) := by decide +kernel
theorem dX8_lend_16 : decode cX8_lend 16 = .ok (.invokevirtual 124, 3) := by decide +kernel
theorem dX8_lend_19 : decode cX8_lend 19 = .ok (.ifCond .eq 7, 3) := by decide +kernel
theorem dX8_lend_22 : decode cX8_lend 22 = .ok (.iconst 1, 1) := by decide +kernel
theorem dX8_lend_23 : decode cX8_lend 23 = .ok (.goto 4, 3) := by decide +kernel
theorem dX8_lend_26 : decode cX8_lend 26 = .ok (.iconst 0, 1) := by decide +kernel
theorem dX8_lend_27 : decode cX8_lend 27 = .ok (.iconst 1, 1) := by decide +kernel
theorem dX8_lend_28 : decode cX8_lend 28 = .ok (.invokevirtual 106, 3) := by decide +kernel
theorem dX8_lend_31 : decode cX8_lend 31 = .ok (.ifCond .ne 29, 3) := by decide +kernel
theorem dX8_lend_34 : decode cX8_lend 34 = .ok (.aload_n 0, 1) := by decide +kernel
theorem dX8_lend_35 : decode cX8_lend 35 = .ok (.iload_n 1, 1) := by decide +kernel
theorem dX8_lend_36 : decode cX8_lend 36 = .ok (.invokevirtual 159, 3) := by decide +kernel
theorem dX8_lend_39 : decode cX8_lend 39 = .ok (.ifCond .eq 21, 3) := by decide +kernel
theorem dX8_lend_42 : decode cX8_lend 42 = .ok (.aload_n 0, 1) := by decide +kernel
theorem dX8_lend_43 : decode cX8_lend 43 = .ok (.getfield 54, 3) := by decide +kernel
theorem dX8_lend_46 : decode cX8_lend 46 = .ok (.iload_n 1, 1) := by decide +kernel
theorem dX8_lend_47 : decode cX8_lend 47 = .ok (.iaload, 1) := by decide +kernel
theorem dX8_lend_48 : decode cX8_lend 48 = .ok (.iload_n 2, 1) := by decide +kernel
theorem dX8_lend_49 : decode cX8_lend 49 = .ok (.if_icmp .eq 11, 3) := by decide +kernel
theorem dX8_lend_52 : decode cX8_lend 52 = .ok (.iload_n 3, 1) := by decide +kernel
theorem dX8_lend_53 : decode cX8_lend 53 = .ok (.aload_n 0, 1) := by decide +kernel
theorem dX8_lend_54 : decode cX8_lend 54 = .ok (.getfield 133, 3) := by decide +kernel
theorem dX8_lend_57 : decode cX8_lend 57 = .ok (.if_icmp .gt 5, 3) := by decide +kernel
theorem dX8_lend_60 : decode cX8_lend 60 = .ok (.iconst 0, 1) := by decide +kernel
theorem dX8_lend_61 : decode cX8_lend 61 = .ok (.ireturn, 1) := by decide +kernel
theorem dX8_lend_62 : decode cX8_lend 62 = .ok (.aload_n 0, 1) := by decide +kernel
theorem dX8_lend_63 : decode cX8_lend 63 = .ok (.getfield 60, 3) := by decide +kernel
theorem dX8_lend_66 : decode cX8_lend 66 = .ok (.iload_n 1, 1) := by decide +kernel
theorem dX8_lend_67 : decode cX8_lend 67 = .ok (.aload_n 0, 1) := by decide +kernel
theorem dX8_lend_68 : decode cX8_lend 68 = .ok (.getfield 54, 3) := by decide +kernel
theorem dX8_lend_71 : decode cX8_lend 71 = .ok (.iload_n 1, 1) := by decide +kernel
theorem dX8_lend_72 : decode cX8_lend 72 = .ok (.iaload, 1) := by decide +kernel
theorem dX8_lend_73 : decode cX8_lend 73 = .ok (.iastore, 1) := by decide +kernel
theorem dX8_lend_74 : decode cX8_lend 74 = .ok (.aload_n 0, 1) := by decide +kernel
theorem dX8_lend_75 : decode cX8_lend 75 = .ok (.getfield 57, 3) := by decide +kernel
theorem dX8_lend_78 : decode cX8_lend 78 = .ok (.iload_n 1, 1) := by decide +kernel
theorem dX8_lend_79 : decode cX8_lend 79 = .ok (.iload_n 3, 1) := by decide +kernel
theorem dX8_lend_80 : decode cX8_lend 80 = .ok (.iastore, 1) := by decide +kernel
theorem dX8_lend_81 : decode cX8_lend 81 = .ok (.aload_n 0, 1) := by decide +kernel
theorem dX8_lend_82 : decode cX8_lend 82 = .ok (.iload_n 1, 1) := by decide +kernel
theorem dX8_lend_83 : decode cX8_lend 83 = .ok (.iload_n 2, 1) := by decide +kernel
theorem dX8_lend_84 : decode cX8_lend 84 = .ok (.invokevirtual 162, 3) := by decide +kernel
theorem dX8_lend_87 : decode cX8_lend 87 = .ok (.iconst 1, 1) := by decide +kernel
theorem dX8_lend_88 : decode cX8_lend 88 = .ok (.ireturn, 1) := by decide +kernel
theorem dX8_wear_0 : decode cX8_wear 0 = .ok (.aload_n 0, 1) := by decide +kernel
theorem dX8_wear_1 : decode cX8_wear 1 = .ok (.iconst 0, 1) := by decide +kernel
theorem dX8_wear_2 : decode cX8_wear 2 = .ok (.putfield 87, 3) := by decide +kernel
theorem dX8_wear_5 : decode cX8_wear 5 = .ok (.aload_n 0, 1) := by decide +kernel
theorem dX8_wear_6 : decode cX8_wear 6 = .ok (.aload_n 0, 1) := by decide +kernel
theorem dX8_wear_7 : decode cX8_wear 7 = .ok (.iload_n 1, 1) := by decide +kernel
theorem dX8_wear_8 : decode cX8_wear 8 = .ok (.invokevirtual 142, 3) := by decide +kernel
theorem dX8_wear_11 : decode cX8_wear 11 = .ok (.iconst 1, 1) := by decide +kernel
theorem dX8_wear_12 : decode cX8_wear 12 = .ok (.invokevirtual 106, 3) := by decide +kernel
theorem dX8_wear_15 : decode cX8_wear 15 = .ok (.ifCond .ne 28, 3) := by decide +kernel
theorem dX8_wear_18 : decode cX8_wear 18 = .ok (.aload_n 0, 1) := by decide +kernel
theorem dX8_wear_19 : decode cX8_wear 19 = .ok (.iload_n 2, 1) := by decide +kernel
theorem dX8_wear_20 : decode cX8_wear 20 = .ok (.i2l, 1) := by decide +kernel
theorem dX8_wear_21 : decode cX8_wear 21 = .ok (.lconst 1, 1) := by decide +kernel
theorem dX8_wear_22 : decode cX8_wear 22 = .ok (.ldc2_w 165, 3) := by decide +kernel
theorem dX8_wear_25 : decode cX8_wear 25 = .ok (.invokestatic 94, 3) := by decide +kernel
theorem dX8_wear_28 : decode cX8_wear 28 = .ok (.ifCond .ne 7, 3) := by decide +kernel
theorem dX8_wear_31 : decode cX8_wear 31 = .ok (.iconst 1, 1) := by decide +kernel
theorem dX8_wear_32 : decode cX8_wear 32 = .ok (.goto 4, 3) := by decide +kernel
theorem dX8_wear_35 : decode cX8_wear 35 = .ok (.iconst 0, 1) := by decide +kernel
theorem dX8_wear_36 : decode cX8_wear 36 = .ok (.iconst 2, 1) := by decide +kernel
theorem dX8_wear_37 : decode cX8_wear 37 = .ok (.invokevirtual 106, 3) := by decide +kernel
theorem dX8_wear_40 : decode cX8_wear 40 = .ok (.ifCond .eq 5, 3) := by decide +kernel
theorem dX8_wear_43 : decode cX8_wear 43 = .ok (.iconst 0, 1) := by decide +kernel
theorem dX8_wear_44 : decode cX8_wear 44 = .ok (.ireturn, 1) := by decide +kernel
theorem dX8_wear_45 : decode cX8_wear 45 = .ok (.aload_n 0, 1) := by decide +kernel
theorem dX8_wear_46 : decode cX8_wear 46 = .ok (.iload_n 1, 1) := by decide +kernel
theorem dX8_wear_47 : decode cX8_wear 47 = .ok (.invokevirtual 145, 3) := by decide +kernel
theorem dX8_wear_50 : decode cX8_wear 50 = .ok (.ifCond .eq 5, 3) := by decide +kernel
theorem dX8_wear_53 : decode cX8_wear 53 = .ok (.iconst (-1), 1) := by decide +kernel
theorem dX8_wear_54 : decode cX8_wear 54 = .ok (.ireturn, 1) := by decide +kernel
theorem dX8_wear_55 : decode cX8_wear 55 = .ok (.aload_n 0, 1) := by decide +kernel
theorem dX8_wear_56 : decode cX8_wear 56 = .ok (.getfield 42, 3) := by decide +kernel
theorem dX8_wear_59 : decode cX8_wear 59 = .ok (.iload_n 1, 1) := by decide +kernel
theorem dX8_wear_60 : decode cX8_wear 60 = .ok (.bipush 100, 2) := by decide +kernel
theorem dX8_wear_62 : decode cX8_wear 62 = .ok (.aload_n 0, 1) := by decide +kernel
theorem dX8_wear_63 : decode cX8_wear 63 = .ok (.getfield 42, 3) := by decide +kernel
theorem dX8_wear_66 : decode cX8_wear 66 = .ok (.iload_n 1, 1) := by decide +kernel
theorem dX8_wear_67 : decode cX8_wear 67 = .ok (.iaload, 1) := by decide +kernel
theorem dX8_wear_68 : decode cX8_wear 68 = .ok (.iload_n 2, 1) := by decide +kernel
theorem dX8_wear_69 : decode cX8_wear 69 = .ok (.iadd, 1) := by decide +kernel
theorem dX8_wear_70 : decode cX8_wear 70 = .ok (.invokestatic 167, 3) := by decide +kernel
theorem dX8_wear_73 : decode cX8_wear 73 = .ok (.iastore, 1) := by decide +kernel
theorem dX8_wear_74 : decode cX8_wear 74 = .ok (.aload_n 0, 1) := by decide +kernel
theorem dX8_wear_75 : decode cX8_wear 75 = .ok (.getfield 42, 3) := by decide +kernel
theorem dX8_wear_78 : decode cX8_wear 78 = .ok (.iload_n 1, 1) := by decide +kernel
theorem dX8_wear_79 : decode cX8_wear 79 = .ok (.iaload, 1) := by decide +kernel
theorem dX8_wear_80 : decode cX8_wear 80 = .ok (.bipush 100, 2) := by decide +kernel
theorem dX8_wear_82 : decode cX8_wear 82 = .ok (.if_icmp .ge 10, 3) := by decide +kernel
theorem dX8_wear_85 : decode cX8_wear 85 = .ok (.aload_n 0, 1) := by decide +kernel
theorem dX8_wear_86 : decode cX8_wear 86 = .ok (.getfield 42, 3) := by decide +kernel
theorem dX8_wear_89 : decode cX8_wear 89 = .ok (.iload_n 1, 1) := by decide +kernel
theorem dX8_wear_90 : decode cX8_wear 90 = .ok (.iaload, 1) := by decide +kernel
theorem dX8_wear_91 : decode cX8_wear 91 = .ok (.ireturn, 1) := by decide +kernel
theorem dX8_wear_92 : decode cX8_wear 92 = .ok (.iconst 0, 1) := by decide +kernel
theorem dX8_wear_93 : decode cX8_wear 93 = .ok (.istore_n 3, 1) := by decide +kernel
theorem dX8_wear_94 : decode cX8_wear 94 = .ok (.iload_n 3, 1) := by decide +kernel
theorem dX8_wear_95 : decode cX8_wear 95 = .ok (.aload_n 0, 1) := by decide +kernel
theorem dX8_wear_96 : decode cX8_wear 96 = .ok (.getfield 101, 3) := by decide +kernel
theorem dX8_wear_99 : decode cX8_wear 99 = .ok (.if_icmp .ge 26, 3) := by decide +kernel
theorem dX8_wear_102 : decode cX8_wear 102 = .ok (.aload_n 0, 1) := by decide +kernel
theorem dX8_wear_103 : decode cX8_wear 103 = .ok (.getfield 51, 3) := by decide +kernel
theorem dX8_wear_106 : decode cX8_wear 106 = .ok (.iload_n 3, 1) := by decide +kernel
theorem dX8_wear_107 : decode cX8_wear 107 = .ok (.iaload, 1) := by decide +kernel
theorem dX8_wear_108 : decode cX8_wear 108 = .ok (.iload_n 1, 1) := by decide +kernel
theorem dX8_wear_109 : decode cX8_wear 109 = .ok (.if_icmp .ne 10, 3) := by decide +kernel
theorem dX8_wear_112 : decode cX8_wear 112 = .ok (.aload_n 0, 1) := by decide +kernel
theorem dX8_wear_113 : decode cX8_wear 113 = .ok (.getfield 51, 3) := by decide +kernel
theorem dX8_wear_116 : decode cX8_wear 116 = .ok (.iload_n 3, 1) := by decide +kernel
theorem dX8_wear_117 : decode cX8_wear 117 = .ok (.iconst (-1), 1) := by decide +kernel
theorem dX8_wear_118 : decode cX8_wear 118 = .ok (.iastore, 1) := by decide +kernel
theorem dX8_wear_119 : decode cX8_wear 119 = .ok (.iinc 3 1, 3) := by decide +kernel
theorem dX8_wear_122 : decode cX8_wear 122 = .ok (.goto (-28), 3) := by decide +kernel
theorem dX8_wear_125 : decode cX8_wear 125 = .ok (.aload_n 0, 1) := by decide +kernel
theorem dX8_wear_126 : decode cX8_wear 126 = .ok (.getfield 51, 3) := by decide +kernel
theorem dX8_wear_129 : decode cX8_wear 129 = .ok (.iload_n 1, 1) := by decide +kernel
theorem dX8_wear_130 : decode cX8_wear 130 = .ok (.iconst (-1), 1) := by decide +kernel
theorem dX8_wear_131 : decode cX8_wear 131 = .ok (.iastore, 1) := by decide +kernel
theorem dX8_wear_132 : decode cX8_wear 132 = .ok (.aload_n 0, 1) := by decide +kernel
theorem dX8_wear_133 : decode cX8_wear 133 = .ok (.getfield 54, 3) := by decide +kernel
theorem dX8_wear_136 : decode cX8_wear 136 = .ok (.iload_n 1, 1) := by decide +kernel
theorem dX8_wear_137 : decode cX8_wear 137 = .ok (.iconst (-1), 1) := by decide +kernel
theorem dX8_wear_138 : decode cX8_wear 138 = .ok (.iastore, 1) := by decide +kernel
theorem dX8_wear_139 : decode cX8_wear 139 = .ok (.aload_n 0, 1) := by decide +kernel
theorem dX8_wear_140 : decode cX8_wear 140 = .ok (.getfield 57, 3) := by decide +kernel
theorem dX8_wear_143 : decode cX8_wear 143 = .ok (.iload_n 1, 1) := by decide +kernel
theorem dX8_wear_144 : decode cX8_wear 144 = .ok (.iconst (-1), 1) := by decide +kernel
theorem dX8_wear_145 : decode cX8_wear 145 = .ok (.iastore, 1) := by decide +kernel
theorem dX8_wear_146 : decode cX8_wear 146 = .ok (.aload_n 0, 1) := by decide +kernel
theorem dX8_wear_147 : decode cX8_wear 147 = .ok (.getfield 60, 3) := by decide +kernel
theorem dX8_wear_150 : decode cX8_wear 150 = .ok (.iload_n 1, 1) := by decide +kernel
theorem dX8_wear_151 : decode cX8_wear 151 = .ok (.iconst (-1), 1) := by decide +kernel
theorem dX8_wear_152 : decode cX8_wear 152 = .ok (.iastore, 1) := by decide +kernel
theorem dX8_wear_153 : decode cX8_wear 153 = .ok (.bipush 100, 2) := by decide +kernel
theorem dX8_wear_155 : decode cX8_wear 155 = .ok (.ireturn, 1) := by decide +kernel
theorem dX8_days_0 : decode cX8_days 0 = .ok (.aload_n 0, 1) := by decide +kernel
theorem dX8_days_1 : decode cX8_days 1 = .ok (.iconst 0, 1) := by decide +kernel
theorem dX8_days_2 : decode cX8_days 2 = .ok (.putfield 87, 3) := by decide +kernel
theorem dX8_days_5 : decode cX8_days 5 = .ok (.aload_n 0, 1) := by decide +kernel
theorem dX8_days_6 : decode cX8_days 6 = .ok (.iload_n 1, 1) := by decide +kernel
theorem dX8_days_7 : decode cX8_days 7 = .ok (.i2l, 1) := by decide +kernel
theorem dX8_days_8 : decode cX8_days 8 = .ok (.lconst 0, 1) := by decide +kernel
theorem dX8_days_9 : decode cX8_days 9 = .ok (.ldc2_w 127, 3) := by decide +kernel
theorem dX8_days_12 : decode cX8_days 12 = .ok (.invokestatic 94, 3) := by decide +kernel
theorem dX8_days_15 : decode cX8_days 15 = .ok (.ifCond .ne 7, 3) := by decide +kernel
theorem dX8_days_18 : decode cX8_days 18 = .ok (.iconst 1, 1) := by decide +kernel
theorem dX8_days_19 : decode cX8_days 19 = .ok (.goto 4, 3) := by decide +kernel
theorem dX8_days_22 : decode cX8_days 22 = .ok (.iconst 0, 1) := by decide +kernel
theorem dX8_days_23 : decode cX8_days 23 = .ok (.iconst 1, 1) := by decide +kernel
theorem dX8_days_24 : decode cX8_days 24 = .ok (.invokevirtual 106, 3) := by decide +kernel
theorem dX8_days_27 : decode cX8_days 27 = .ok (.ifCond .eq 5, 3) := by decide +kernel
theorem dX8_days_30 : decode cX8_days 30 = .ok (.iconst 0, 1) := by decide +kernel
theorem dX8_days_31 : decode cX8_days 31 = .ok (.ireturn, 1) := by decide +kernel
theorem dX8_days_32 : decode cX8_days 32 = .ok (.iconst 0, 1) := by decide +kernel
theorem dX8_days_33 : decode cX8_days 33 = .ok (.istore_n 2, 1) := by decide +kernel
theorem dX8_days_34 : decode cX8_days 34 = .ok (.iload_n 2, 1) := by decide +kernel
theorem dX8_days_35 : decode cX8_days 35 = .ok (.iload_n 1, 1) := by decide +kernel
theorem dX8_days_36 : decode cX8_days 36 = .ok (.if_icmp .ge 87, 3) := by decide +kernel
theorem dX8_days_39 : decode cX8_days 39 = .ok (.aload_n 0, 1) := by decide +kernel
theorem dX8_days_40 : decode cX8_days 40 = .ok (.dup, 1) := by decide +kernel
theorem dX8_days_41 : decode cX8_days 41 = .ok (.getfield 133, 3) := by decide +kernel
theorem dX8_days_44 : decode cX8_days 44 = .ok (.iconst 1, 1) := by decide +kernel
theorem dX8_days_45 : decode cX8_days 45 = .ok (.iadd, 1) := by decide +kernel
theorem dX8_days_46 : decode cX8_days 46 = .ok (.putfield 133, 3) := by decide +kernel
theorem dX8_days_49 : decode cX8_days 49 = .ok (.iconst 0, 1) := by decide +kernel
theorem dX8_days_50 : decode cX8_days 50 = .ok (.istore_n 3, 1) := by decide +kernel
theorem dX8_days_51 : decode cX8_days 51 = .ok (.iload_n 3, 1) := by decide +kernel
theorem dX8_days_52 : decode cX8_days 52 = .ok (.aload_n 0, 1) := by decide +kernel
theorem dX8_days_53 : decode cX8_days 53 = .ok (.getfield 101, 3) := by decide +kernel
theorem dX8_days_56 : decode cX8_days 56 = .ok (.if_icmp .ge 61, 3) := by decide +kernel
theorem dX8_days_59 : decode cX8_days 59 = .ok (.aload_n 0, 1) := by decide +kernel
theorem dX8_days_60 : decode cX8_days 60 = .ok (.getfield 57, 3) := by decide +kernel
theorem dX8_days_63 : decode cX8_days 63 = .ok (.iload_n 3, 1) := by decide +kernel
theorem dX8_days_64 : decode cX8_days 64 = .ok (.iaload, 1) := by decide +kernel
theorem dX8_days_65 : decode cX8_days 65 = .ok (.aload_n 0, 1) := by decide +kernel
theorem dX8_days_66 : decode cX8_days 66 = .ok (.getfield 133, 3) := by decide +kernel
theorem dX8_days_69 : decode cX8_days 69 = .ok (.if_icmp .eq 6, 3) := by decide +kernel
theorem dX8_days_72 : decode cX8_days 72 = .ok (.goto 39, 3) := by decide +kernel
theorem dX8_days_75 : decode cX8_days 75 = .ok (.aload_n 0, 1) := by decide +kernel
theorem dX8_days_76 : decode cX8_days 76 = .ok (.getfield 51, 3) := by decide +kernel
theorem dX8_days_79 : decode cX8_days 79 = .ok (.iload_n 3, 1) := by decide +kernel
theorem dX8_days_80 : decode cX8_days 80 = .ok (.iconst (-1), 1) := by decide +kernel
theorem dX8_days_81 : decode cX8_days 81 = .ok (.iastore, 1) := by decide +kernel
theorem dX8_days_82 : decode cX8_days 82 = .ok (.aload_n 0, 1) := by decide +kernel
theorem dX8_days_83 : decode cX8_days 83 = .ok (.getfield 60, 3) := by decide +kernel
theorem dX8_days_86 : decode cX8_days 86 = .ok (.iload_n 3, 1) := by decide +kernel
theorem dX8_days_87 : decode cX8_days 87 = .ok (.iaload, 1) := by decide +kernel
theorem dX8_days_88 : decode cX8_days 88 = .ok (.istore 4, 2) := by decide +kernel
theorem dX8_days_90 : decode cX8_days 90 = .ok (.aload_n 0, 1) := by decide +kernel
theorem dX8_days_91 : decode cX8_days 91 = .ok (.getfield 57, 3) := by decide +kernel
theorem dX8_days_94 : decode cX8_days 94 = .ok (.iload_n 3, 1) := by decide +kernel
theorem dX8_days_95 : decode cX8_days 95 = .ok (.iconst (-1), 1) := by decide +kernel
theorem dX8_days_96 : decode cX8_days 96 = .ok (.iastore, 1) := by decide +kernel
theorem dX8_days_97 : decode cX8_days 97 = .ok (.aload_n 0, 1) := by decide +kernel
theorem dX8_days_98 : decode cX8_days 98 = .ok (.getfield 60, 3) := by decide +kernel
theorem dX8_days_101 : decode cX8_days 101 = .ok (.iload_n 3, 1) := by decide +kernel
theorem dX8_days_102 : decode cX8_days 102 = .ok (.iconst (-1), 1) := by decide +kernel
theorem dX8_days_103 : decode cX8_days 103 = .ok (.iastore, 1) := by decide +kernel
theorem dX8_days_104 : decode cX8_days 104 = .ok (.aload_n 0, 1) := by decide +kernel
theorem dX8_days_105 : decode cX8_days 105 = .ok (.iload_n 3, 1) := by decide +kernel
theorem dX8_days_106 : decode cX8_days 106 = .ok (.iload 4, 2) := by decide +kernel
theorem dX8_days_108 : decode cX8_days 108 = .ok (.invokevirtual 162, 3) := by decide +kernel
theorem dX8_days_111 : decode cX8_days 111 = .ok (.iinc 3 1, 3) := by decide +kernel
theorem dX8_days_114 : decode cX8_days 114 = .ok (.goto (-63), 3) := by decide +kernel
theorem dX8_days_117 : decode cX8_days 117 = .ok (.iinc 2 1, 3) := by decide +kernel
theorem dX8_days_120 : decode cX8_days 120 = .ok (.goto (-86), 3) := by decide +kernel
theorem dX8_days_123 : decode cX8_days 123 = .ok (.aload_n 0, 1) := by decide +kernel
theorem dX8_days_124 : decode cX8_days 124 = .ok (.getfield 133, 3) := by decide +kernel
theorem dX8_days_127 : decode cX8_days 127 = .ok (.ireturn, 1) := by decide +kernel
theorem dX8_look_0 : decode cX8_look 0 = .ok (.aload_n 0, 1) := by decide +kernel
theorem dX8_look_1 : decode cX8_look 1 = .ok (.iconst 0, 1) := by decide +kernel
theorem dX8_look_2 : decode cX8_look 2 = .ok (.putfield 87, 3) := by decide +kernel
theorem dX8_look_5 : decode cX8_look 5 = .ok (.aload_n 0, 1) := by decide +kernel
theorem dX8_look_6 : decode cX8_look 6 = .ok (.aload_n 0, 1) := by decide +kernel
theorem dX8_look_7 : decode cX8_look 7 = .ok (.iload_n 1, 1) := by decide +kernel
theorem dX8_look_8 : decode cX8_look 8 = .ok (.invokevirtual 142, 3) := by decide +kernel
theorem dX8_look_11 : decode cX8_look 11 = .ok (.iconst 1, 1) := by decide +kernel
theorem dX8_look_12 : decode cX8_look 12 = .ok (.invokevirtual 106, 3) := by decide +kernel
theorem dX8_look_15 : decode cX8_look 15 = .ok (.ifCond .eq 5, 3) := by decide +kernel
theorem dX8_look_18 : decode cX8_look 18 = .ok (.iconst 0, 1) := by decide +kernel
theorem dX8_look_19 : decode cX8_look 19 = .ok (.ireturn, 1) := by decide +kernel
theorem dX8_look_20 : decode cX8_look 20 = .ok (.iload_n 2, 1) := by decide +kernel
theorem dX8_look_21 : decode cX8_look 21 = .ok (.tableswitch 153 0 8 #[51, 58, 65, 72, 78, 118, 132, 139, 146], 51) := by decide +kernel
theorem dX8_look_72 : decode cX8_look 72 = .ok (.aload_n 0, 1) := by decide +kernel
theorem dX8_look_73 : decode cX8_look 73 = .ok (.getfield 54, 3) := by decide +kernel
theorem dX8_look_76 : decode cX8_look 76 = .ok (.iload_n 1, 1) := by decide +kernel
theorem dX8_look_77 : decode cX8_look 77 = .ok (.iaload, 1) := by decide +kernel
theorem dX8_look_78 : decode cX8_look 78 = .ok (.ireturn, 1) := by decide +kernel
theorem dX8_look_79 : decode cX8_look 79 = .ok (.aload_n 0, 1) := by decide +kernel
theorem dX8_look_80 : decode cX8_look 80 = .ok (.getfield 51, 3) := by decide +kernel
theorem dX8_look_83 : decode cX8_look 83 = .ok (.iload_n 1, 1) := by decide +kernel
theorem dX8_look_84 : decode cX8_look 84 = .ok (.iaload, 1) := by decide +kernel
theorem dX8_look_85 : decode cX8_look 85 = .ok (.ireturn, 1) := by decide +kernel
theorem dX8_look_86 : decode cX8_look 86 = .ok (.aload_n 0, 1) := by decide +kernel
theorem dX8_look_87 : decode cX8_look 87 = .ok (.getfield 42, 3) := by decide +kernel
theorem dX8_look_90 : decode cX8_look 90 = .ok (.iload_n 1, 1) := by decide +kernel
theorem dX8_look_91 : decode cX8_look 91 = .ok (.iaload, 1) := by decide +kernel
theorem dX8_look_92 : decode cX8_look 92 = .ok (.ireturn, 1) := by decide +kernel
theorem dX8_look_93 : decode cX8_look 93 = .ok (.aload_n 0, 1) := by decide +kernel
theorem dX8_look_94 : decode cX8_look 94 = .ok (.iload_n 1, 1) := by decide +kernel
theorem dX8_look_95 : decode cX8_look 95 = .ok (.invokevirtual 152, 3) := by decide +kernel
theorem dX8_look_98 : decode cX8_look 98 = .ok (.ireturn, 1) := by decide +kernel
theorem dX8_look_99 : decode cX8_look 99 = .ok (.iconst 0, 1) := by decide +kernel
theorem dX8_look_100 : decode cX8_look 100 = .ok (.istore_n 3, 1) := by decide +kernel
theorem dX8_look_101 : decode cX8_look 101 = .ok (.iconst 0, 1) := by decide +kernel
theorem dX8_look_102 : decode cX8_look 102 = .ok (.istore 4, 2) := by decide +kernel
theorem dX8_look_104 : decode cX8_look 104 = .ok (.iload 4, 2) := by decide +kernel
theorem dX8_look_106 : decode cX8_look 106 = .ok (.aload_n 0, 1) := by decide +kernel
theorem dX8_look_107 : decode cX8_look 107 = .ok (.getfield 101, 3) := by decide +kernel
theorem dX8_look_110 : decode cX8_look 110 = .ok (.if_icmp .ge 27, 3) := by decide +kernel
theorem dX8_look_113 : decode cX8_look 113 = .ok (.iload_n 3, 1) := by decide +kernel
theorem dX8_look_114 : decode cX8_look 114 = .ok (.aload_n 0, 1) := by decide +kernel
theorem dX8_look_115 : decode cX8_look 115 = .ok (.iload 4, 2) := by decide +kernel
theorem dX8_look_117 : decode cX8_look 117 = .ok (.iload_n 1, 1) := by decide +kernel
theorem dX8_look_118 : decode cX8_look 118 = .ok (.invokevirtual 148, 3) := by decide +kernel
theorem dX8_look_121 : decode cX8_look 121 = .ok (.ifCond .eq 7, 3) := by decide +kernel
theorem dX8_look_124 : decode cX8_look 124 = .ok (.iconst 1, 1) := by decide +kernel
theorem dX8_look_125 : decode cX8_look 125 = .ok (.goto 4, 3) := by decide +kernel
theorem dX8_look_128 : decode cX8_look 128 = .ok (.iconst 0, 1) := by decide +kernel
theorem dX8_look_129 : decode cX8_look 129 = .ok (.iadd, 1) := by decide +kernel
theorem dX8_look_130 : decode cX8_look 130 = .ok (.istore_n 3, 1) := by decide +kernel
theorem dX8_look_131 : decode cX8_look 131 = .ok (.iinc 4 1, 3) := by decide +kernel
theorem dX8_look_134 : decode cX8_look 134 = .ok (.goto (-30), 3) := by decide +kernel
theorem dX8_look_137 : decode cX8_look 137 = .ok (.iload_n 3, 1) := by decide +kernel
