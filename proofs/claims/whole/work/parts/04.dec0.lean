theorem dX0_init_0 : decode cX0_init 0 = .ok (.aload_n 0, 1) := by decide +kernel
theorem dX0_init_1 : decode cX0_init 1 = .ok (.invokespecial 3, 3) := by decide +kernel
theorem dX0_init_4 : decode cX0_init 4 = .ok (.aload_n 0, 1) := by decide +kernel
theorem dX0_init_5 : decode cX0_init 5 = .ok (.iconst 5, 1) := by decide +kernel
theorem dX0_init_6 : decode cX0_init 6 = .ok (.bipush 10, 2) := by decide +kernel
theorem dX0_init_8 : decode cX0_init 8 = .ok (.multianewarray 9 2, 4) := by decide +kernel
theorem dX0_init_12 : decode cX0_init 12 = .ok (.putfield 11, 3) := by decide +kernel
theorem dX0_init_15 : decode cX0_init 15 = .ok (.aload_n 0, 1) := by decide +kernel
theorem dX0_init_16 : decode cX0_init 16 = .ok (.iconst 4, 1) := by decide +kernel
theorem dX0_init_17 : decode cX0_init 17 = .ok (.newarray .int, 2) := by decide +kernel
theorem dX0_init_19 : decode cX0_init 19 = .ok (.putfield 16, 3) := by decide +kernel
theorem dX0_init_22 : decode cX0_init 22 = .ok (.aload_n 0, 1) := by decide +kernel
theorem dX0_init_23 : decode cX0_init 23 = .ok (.bipush 10, 2) := by decide +kernel
theorem dX0_init_25 : decode cX0_init 25 = .ok (.newarray .int, 2) := by decide +kernel
theorem dX0_init_27 : decode cX0_init 27 = .ok (.putfield 20, 3) := by decide +kernel
theorem dX0_init_30 : decode cX0_init 30 = .ok (.return_, 1) := by decide +kernel
theorem dX0_begin_0 : decode cX0_begin 0 = .ok (.aload_n 0, 1) := by decide +kernel
theorem dX0_begin_1 : decode cX0_begin 1 = .ok (.iconst 0, 1) := by decide +kernel
theorem dX0_begin_2 : decode cX0_begin 2 = .ok (.putfield 23, 3) := by decide +kernel
theorem dX0_begin_5 : decode cX0_begin 5 = .ok (.aload_n 0, 1) := by decide +kernel
theorem dX0_begin_6 : decode cX0_begin 6 = .ok (.lconst 1, 1) := by decide +kernel
theorem dX0_begin_7 : decode cX0_begin 7 = .ok (.putfield 27, 3) := by decide +kernel
theorem dX0_begin_10 : decode cX0_begin 10 = .ok (.iconst 0, 1) := by decide +kernel
theorem dX0_begin_11 : decode cX0_begin 11 = .ok (.istore_n 1, 1) := by decide +kernel
theorem dX0_begin_12 : decode cX0_begin 12 = .ok (.iload_n 1, 1) := by decide +kernel
theorem dX0_begin_13 : decode cX0_begin 13 = .ok (.iconst 4, 1) := by decide +kernel
theorem dX0_begin_14 : decode cX0_begin 14 = .ok (.if_icmp .ge 19, 3) := by decide +kernel
theorem dX0_begin_17 : decode cX0_begin 17 = .ok (.aload_n 0, 1) := by decide +kernel
theorem dX0_begin_18 : decode cX0_begin 18 = .ok (.getfield 16, 3) := by decide +kernel
theorem dX0_begin_21 : decode cX0_begin 21 = .ok (.iload_n 1, 1) := by decide +kernel
theorem dX0_begin_22 : decode cX0_begin 22 = .ok (.bipush 10, 2) := by decide +kernel
theorem dX0_begin_24 : decode cX0_begin 24 = .ok (.iload_n 1, 1) := by decide +kernel
theorem dX0_begin_25 : decode cX0_begin 25 = .ok (.iadd, 1) := by decide +kernel
theorem dX0_begin_26 : decode cX0_begin 26 = .ok (.iastore, 1) := by decide +kernel
theorem dX0_begin_27 : decode cX0_begin 27 = .ok (.iinc 1 1, 3) := by decide +kernel
theorem dX0_begin_30 : decode cX0_begin 30 = .ok (.goto (-18), 3) := by decide +kernel
theorem dX0_begin_33 : decode cX0_begin 33 = .ok (.return_, 1) := by decide +kernel
theorem dX0_enter_0 : decode cX0_enter 0 = .ok (.aload_n 0, 1) := by decide +kernel
theorem dX0_enter_1 : decode cX0_enter 1 = .ok (.getfield 23, 3) := by decide +kernel
theorem dX0_enter_4 : decode cX0_enter 4 = .ok (.bipush 10, 2) := by decide +kernel
theorem dX0_enter_6 : decode cX0_enter 6 = .ok (.if_icmp .lt 4, 3) := by decide +kernel
theorem dX0_enter_9 : decode cX0_enter 9 = .ok (.return_, 1) := by decide +kernel
theorem dX0_enter_10 : decode cX0_enter 10 = .ok (.lconst 0, 1) := by decide +kernel
theorem dX0_enter_11 : decode cX0_enter 11 = .ok (.lstore_n 2, 1) := by decide +kernel
theorem dX0_enter_12 : decode cX0_enter 12 = .ok (.iconst 0, 1) := by decide +kernel
theorem dX0_enter_13 : decode cX0_enter 13 = .ok (.istore 4, 2) := by decide +kernel
theorem dX0_enter_15 : decode cX0_enter 15 = .ok (.iload 4, 2) := by decide +kernel
theorem dX0_enter_17 : decode cX0_enter 17 = .ok (.iconst 4, 1) := by decide +kernel
theorem dX0_enter_18 : decode cX0_enter 18 = .ok (.if_icmp .ge 38, 3) := by decide +kernel
theorem dX0_enter_21 : decode cX0_enter 21 = .ok (.aload_n 1, 1) := by decide +kernel
theorem dX0_enter_22 : decode cX0_enter 22 = .ok (.iload 4, 2) := by decide +kernel
theorem dX0_enter_24 : decode cX0_enter 24 = .ok (.invokevirtual 31, 3) := by decide +kernel
theorem dX0_enter_27 : decode cX0_enter 27 = .ok (.istore 5, 2) := by decide +kernel
theorem dX0_enter_29 : decode cX0_enter 29 = .ok (.aload_n 0, 1) := by decide +kernel
theorem dX0_enter_30 : decode cX0_enter 30 = .ok (.getfield 11, 3) := by decide +kernel
theorem dX0_enter_33 : decode cX0_enter 33 = .ok (.iload 4, 2) := by decide +kernel
theorem dX0_enter_35 : decode cX0_enter 35 = .ok (.aaload, 1) := by decide +kernel
theorem dX0_enter_36 : decode cX0_enter 36 = .ok (.aload_n 0, 1) := by decide +kernel
theorem dX0_enter_37 : decode cX0_enter 37 = .ok (.getfield 23, 3) := by decide +kernel
theorem dX0_enter_40 : decode cX0_enter 40 = .ok (.iload 5, 2) := by decide +kernel
theorem dX0_enter_42 : decode cX0_enter 42 = .ok (.i2l, 1) := by decide +kernel
theorem dX0_enter_43 : decode cX0_enter 43 = .ok (.lastore, 1) := by decide +kernel
theorem dX0_enter_44 : decode cX0_enter 44 = .ok (.lload_n 2, 1) := by decide +kernel
theorem dX0_enter_45 : decode cX0_enter 45 = .ok (.iload 5, 2) := by decide +kernel
theorem dX0_enter_47 : decode cX0_enter 47 = .ok (.i2l, 1) := by decide +kernel
theorem dX0_enter_48 : decode cX0_enter 48 = .ok (.ladd, 1) := by decide +kernel
theorem dX0_enter_49 : decode cX0_enter 49 = .ok (.lstore_n 2, 1) := by decide +kernel
theorem dX0_enter_50 : decode cX0_enter 50 = .ok (.iinc 4 1, 3) := by decide +kernel
theorem dX0_enter_53 : decode cX0_enter 53 = .ok (.goto (-38), 3) := by decide +kernel
theorem dX0_enter_56 : decode cX0_enter 56 = .ok (.aload_n 0, 1) := by decide +kernel
theorem dX0_enter_57 : decode cX0_enter 57 = .ok (.getfield 11, 3) := by decide +kernel
theorem dX0_enter_60 : decode cX0_enter 60 = .ok (.iconst 4, 1) := by decide +kernel
theorem dX0_enter_61 : decode cX0_enter 61 = .ok (.aaload, 1) := by decide +kernel
theorem dX0_enter_62 : decode cX0_enter 62 = .ok (.aload_n 0, 1) := by decide +kernel
theorem dX0_enter_63 : decode cX0_enter 63 = .ok (.getfield 23, 3) := by decide +kernel
theorem dX0_enter_66 : decode cX0_enter 66 = .ok (.lload_n 2, 1) := by decide +kernel
theorem dX0_enter_67 : decode cX0_enter 67 = .ok (.lastore, 1) := by decide +kernel
theorem dX0_enter_68 : decode cX0_enter 68 = .ok (.aload_n 0, 1) := by decide +kernel
theorem dX0_enter_69 : decode cX0_enter 69 = .ok (.getfield 20, 3) := by decide +kernel
theorem dX0_enter_72 : decode cX0_enter 72 = .ok (.aload_n 0, 1) := by decide +kernel
theorem dX0_enter_73 : decode cX0_enter 73 = .ok (.getfield 23, 3) := by decide +kernel
theorem dX0_enter_76 : decode cX0_enter 76 = .ok (.aload_n 0, 1) := by decide +kernel
theorem dX0_enter_77 : decode cX0_enter 77 = .ok (.getfield 23, 3) := by decide +kernel
theorem dX0_enter_80 : decode cX0_enter 80 = .ok (.iastore, 1) := by decide +kernel
theorem dX0_enter_81 : decode cX0_enter 81 = .ok (.aload_n 0, 1) := by decide +kernel
theorem dX0_enter_82 : decode cX0_enter 82 = .ok (.dup, 1) := by decide +kernel
theorem dX0_enter_83 : decode cX0_enter 83 = .ok (.getfield 23, 3) := by decide +kernel
theorem dX0_enter_86 : decode cX0_enter 86 = .ok (.iconst 1, 1) := by decide +kernel
theorem dX0_enter_87 : decode cX0_enter 87 = .ok (.iadd, 1) := by decide +kernel
theorem dX0_enter_88 : decode cX0_enter 88 = .ok (.putfield 23, 3) := by decide +kernel
theorem dX0_enter_91 : decode cX0_enter 91 = .ok (.return_, 1) := by decide +kernel
theorem dX0_findsGain_0 : decode cX0_findsGain 0 = .ok (.iconst 0, 1) := by decide +kernel
theorem dX0_findsGain_1 : decode cX0_findsGain 1 = .ok (.istore_n 1, 1) := by decide +kernel
theorem dX0_findsGain_2 : decode cX0_findsGain 2 = .ok (.iload_n 1, 1) := by decide +kernel
theorem dX0_findsGain_3 : decode cX0_findsGain 3 = .ok (.sipush 1001, 3) := by decide +kernel
theorem dX0_findsGain_6 : decode cX0_findsGain 6 = .ok (.if_icmp .ge 40, 3) := by decide +kernel
theorem dX0_findsGain_9 : decode cX0_findsGain 9 = .ok (.aload_n 0, 1) := by decide +kernel
theorem dX0_findsGain_10 : decode cX0_findsGain 10 = .ok (.invokevirtual 37, 3) := by decide +kernel
theorem dX0_findsGain_13 : decode cX0_findsGain 13 = .ok (.istore_n 2, 1) := by decide +kernel
theorem dX0_findsGain_14 : decode cX0_findsGain 14 = .ok (.iload_n 2, 1) := by decide +kernel
theorem dX0_findsGain_15 : decode cX0_findsGain 15 = .ok (.iconst (-1), 1) := by decide +kernel
theorem dX0_findsGain_16 : decode cX0_findsGain 16 = .ok (.if_icmp .ne 5, 3) := by decide +kernel
theorem dX0_findsGain_19 : decode cX0_findsGain 19 = .ok (.iconst 0, 1) := by decide +kernel
theorem dX0_findsGain_20 : decode cX0_findsGain 20 = .ok (.ireturn, 1) := by decide +kernel
theorem dX0_findsGain_21 : decode cX0_findsGain 21 = .ok (.aload_n 0, 1) := by decide +kernel
theorem dX0_findsGain_22 : decode cX0_findsGain 22 = .ok (.iload_n 2, 1) := by decide +kernel
theorem dX0_findsGain_23 : decode cX0_findsGain 23 = .ok (.invokevirtual 41, 3) := by decide +kernel
theorem dX0_findsGain_26 : decode cX0_findsGain 26 = .ok (.istore_n 3, 1) := by decide +kernel
theorem dX0_findsGain_27 : decode cX0_findsGain 27 = .ok (.iload_n 3, 1) := by decide +kernel
theorem dX0_findsGain_28 : decode cX0_findsGain 28 = .ok (.iconst (-1), 1) := by decide +kernel
theorem dX0_findsGain_29 : decode cX0_findsGain 29 = .ok (.if_icmp .ne 5, 3) := by decide +kernel
theorem dX0_findsGain_32 : decode cX0_findsGain 32 = .ok (.iconst 1, 1) := by decide +kernel
theorem dX0_findsGain_33 : decode cX0_findsGain 33 = .ok (.ireturn, 1) := by decide +kernel
theorem dX0_findsGain_34 : decode cX0_findsGain 34 = .ok (.aload_n 0, 1) := by decide +kernel
theorem dX0_findsGain_35 : decode cX0_findsGain 35 = .ok (.iload_n 3, 1) := by decide +kernel
theorem dX0_findsGain_36 : decode cX0_findsGain 36 = .ok (.iload_n 2, 1) := by decide +kernel
theorem dX0_findsGain_37 : decode cX0_findsGain 37 = .ok (.invokevirtual 44, 3) := by decide +kernel
theorem dX0_findsGain_40 : decode cX0_findsGain 40 = .ok (.iinc 1 1, 3) := by decide +kernel
theorem dX0_findsGain_43 : decode cX0_findsGain 43 = .ok (.goto (-41), 3) := by decide +kernel
theorem dX0_findsGain_46 : decode cX0_findsGain 46 = .ok (.iconst 0, 1) := by decide +kernel
theorem dX0_findsGain_47 : decode cX0_findsGain 47 = .ok (.ireturn, 1) := by decide +kernel
theorem dX0_risingColumn_0 : decode cX0_risingColumn 0 = .ok (.iconst (-1), 1) := by decide +kernel
theorem dX0_risingColumn_1 : decode cX0_risingColumn 1 = .ok (.istore_n 1, 1) := by decide +kernel
theorem dX0_risingColumn_2 : decode cX0_risingColumn 2 = .ok (.iconst 0, 1) := by decide +kernel
theorem dX0_risingColumn_3 : decode cX0_risingColumn 3 = .ok (.istore_n 2, 1) := by decide +kernel
theorem dX0_risingColumn_4 : decode cX0_risingColumn 4 = .ok (.iload_n 2, 1) := by decide +kernel
theorem dX0_risingColumn_5 : decode cX0_risingColumn 5 = .ok (.aload_n 0, 1) := by decide +kernel
theorem dX0_risingColumn_6 : decode cX0_risingColumn 6 = .ok (.getfield 23, 3) := by decide +kernel
theorem dX0_risingColumn_9 : decode cX0_risingColumn 9 = .ok (.if_icmp .ge 44, 3) := by decide +kernel
theorem dX0_risingColumn_12 : decode cX0_risingColumn 12 = .ok (.aload_n 0, 1) := by decide +kernel
theorem dX0_risingColumn_13 : decode cX0_risingColumn 13 = .ok (.getfield 11, 3) := by decide +kernel
theorem dX0_risingColumn_16 : decode cX0_risingColumn 16 = .ok (.iconst 4, 1) := by decide +kernel
theorem dX0_risingColumn_17 : decode cX0_risingColumn 17 = .ok (.aaload, 1) := by decide +kernel
theorem dX0_risingColumn_18 : decode cX0_risingColumn 18 = .ok (.iload_n 2, 1) := by decide +kernel
theorem dX0_risingColumn_19 : decode cX0_risingColumn 19 = .ok (.laload, 1) := by decide +kernel
theorem dX0_risingColumn_20 : decode cX0_risingColumn 20 = .ok (.lconst 0, 1) := by decide +kernel
theorem dX0_risingColumn_21 : decode cX0_risingColumn 21 = .ok (.lcmp, 1) := by decide +kernel
theorem dX0_risingColumn_22 : decode cX0_risingColumn 22 = .ok (.ifCond .le 25, 3) := by decide +kernel
theorem dX0_risingColumn_25 : decode cX0_risingColumn 25 = .ok (.iload_n 1, 1) := by decide +kernel
theorem dX0_risingColumn_26 : decode cX0_risingColumn 26 = .ok (.iconst (-1), 1) := by decide +kernel
theorem dX0_risingColumn_27 : decode cX0_risingColumn 27 = .ok (.if_icmp .eq 18, 3) := by decide +kernel
theorem dX0_risingColumn_30 : decode cX0_risingColumn 30 = .ok (.aload_n 0, 1) := by decide +kernel
theorem dX0_risingColumn_31 : decode cX0_risingColumn 31 = .ok (.getfield 20, 3) := by decide +kernel
theorem dX0_risingColumn_34 : decode cX0_risingColumn 34 = .ok (.iload_n 2, 1) := by decide +kernel
theorem dX0_risingColumn_35 : decode cX0_risingColumn 35 = .ok (.iaload, 1) := by decide +kernel
theorem dX0_risingColumn_36 : decode cX0_risingColumn 36 = .ok (.aload_n 0, 1) := by decide +kernel
theorem dX0_risingColumn_37 : decode cX0_risingColumn 37 = .ok (.getfield 20, 3) := by decide +kernel
theorem dX0_risingColumn_40 : decode cX0_risingColumn 40 = .ok (.iload_n 1, 1) := by decide +kernel
theorem dX0_risingColumn_41 : decode cX0_risingColumn 41 = .ok (.iaload, 1) := by decide +kernel
theorem dX0_risingColumn_42 : decode cX0_risingColumn 42 = .ok (.if_icmp .ge 5, 3) := by decide +kernel
theorem dX0_risingColumn_45 : decode cX0_risingColumn 45 = .ok (.iload_n 2, 1) := by decide +kernel
theorem dX0_risingColumn_46 : decode cX0_risingColumn 46 = .ok (.istore_n 1, 1) := by decide +kernel
theorem dX0_risingColumn_47 : decode cX0_risingColumn 47 = .ok (.iinc 2 1, 3) := by decide +kernel
theorem dX0_risingColumn_50 : decode cX0_risingColumn 50 = .ok (.goto (-46), 3) := by decide +kernel
theorem dX0_risingColumn_53 : decode cX0_risingColumn 53 = .ok (.iload_n 1, 1) := by decide +kernel
theorem dX0_risingColumn_54 : decode cX0_risingColumn 54 = .ok (.ireturn, 1) := by decide +kernel
theorem dX0_hinderingRow_0 : decode cX0_hinderingRow 0 = .ok (.iconst (-1), 1) := by decide +kernel
theorem dX0_hinderingRow_1 : decode cX0_hinderingRow 1 = .ok (.istore_n 2, 1) := by decide +kernel
theorem dX0_hinderingRow_2 : decode cX0_hinderingRow 2 = .ok (.iconst 0, 1) := by decide +kernel
theorem dX0_hinderingRow_3 : decode cX0_hinderingRow 3 = .ok (.istore_n 3, 1) := by decide +kernel
theorem dX0_hinderingRow_4 : decode cX0_hinderingRow 4 = .ok (.iload_n 3, 1) := by decide +kernel
theorem dX0_hinderingRow_5 : decode cX0_hinderingRow 5 = .ok (.iconst 4, 1) := by decide +kernel
theorem dX0_hinderingRow_6 : decode cX0_hinderingRow 6 = .ok (.if_icmp .ge 44, 3) := by decide +kernel
theorem dX0_hinderingRow_9 : decode cX0_hinderingRow 9 = .ok (.aload_n 0, 1) := by decide +kernel
theorem dX0_hinderingRow_10 : decode cX0_hinderingRow 10 = .ok (.getfield 11, 3) := by decide +kernel
theorem dX0_hinderingRow_13 : decode cX0_hinderingRow 13 = .ok (.iload_n 3, 1) := by decide +kernel
theorem dX0_hinderingRow_14 : decode cX0_hinderingRow 14 = .ok (.aaload, 1) := by decide +kernel
theorem dX0_hinderingRow_15 : decode cX0_hinderingRow 15 = .ok (.iload_n 1, 1) := by decide +kernel
theorem dX0_hinderingRow_16 : decode cX0_hinderingRow 16 = .ok (.laload, 1) := by decide +kernel
theorem dX0_hinderingRow_17 : decode cX0_hinderingRow 17 = .ok (.lconst 0, 1) := by decide +kernel
theorem dX0_hinderingRow_18 : decode cX0_hinderingRow 18 = .ok (.lcmp, 1) := by decide +kernel
theorem dX0_hinderingRow_19 : decode cX0_hinderingRow 19 = .ok (.ifCond .ge 25, 3) := by decide +kernel
theorem dX0_hinderingRow_22 : decode cX0_hinderingRow 22 = .ok (.iload_n 2, 1) := by decide +kernel
theorem dX0_hinderingRow_23 : decode cX0_hinderingRow 23 = .ok (.iconst (-1), 1) := by decide +kernel
theorem dX0_hinderingRow_24 : decode cX0_hinderingRow 24 = .ok (.if_icmp .eq 18, 3) := by decide +kernel
theorem dX0_hinderingRow_27 : decode cX0_hinderingRow 27 = .ok (.aload_n 0, 1) := by decide +kernel
theorem dX0_hinderingRow_28 : decode cX0_hinderingRow 28 = .ok (.getfield 16, 3) := by decide +kernel
theorem dX0_hinderingRow_31 : decode cX0_hinderingRow 31 = .ok (.iload_n 3, 1) := by decide +kernel
theorem dX0_hinderingRow_32 : decode cX0_hinderingRow 32 = .ok (.iaload, 1) := by decide +kernel
theorem dX0_hinderingRow_33 : decode cX0_hinderingRow 33 = .ok (.aload_n 0, 1) := by decide +kernel
theorem dX0_hinderingRow_34 : decode cX0_hinderingRow 34 = .ok (.getfield 16, 3) := by decide +kernel
theorem dX0_hinderingRow_37 : decode cX0_hinderingRow 37 = .ok (.iload_n 2, 1) := by decide +kernel
theorem dX0_hinderingRow_38 : decode cX0_hinderingRow 38 = .ok (.iaload, 1) := by decide +kernel
theorem dX0_hinderingRow_39 : decode cX0_hinderingRow 39 = .ok (.if_icmp .ge 5, 3) := by decide +kernel
theorem dX0_hinderingRow_42 : decode cX0_hinderingRow 42 = .ok (.iload_n 3, 1) := by decide +kernel
theorem dX0_hinderingRow_43 : decode cX0_hinderingRow 43 = .ok (.istore_n 2, 1) := by decide +kernel
theorem dX0_hinderingRow_44 : decode cX0_hinderingRow 44 = .ok (.iinc 3 1, 3) := by decide +kernel
theorem dX0_hinderingRow_47 : decode cX0_hinderingRow 47 = .ok (.goto (-43), 3) := by decide +kernel
theorem dX0_hinderingRow_50 : decode cX0_hinderingRow 50 = .ok (.iload_n 2, 1) := by decide +kernel
theorem dX0_hinderingRow_51 : decode cX0_hinderingRow 51 = .ok (.ireturn, 1) := by decide +kernel
theorem dX0_exchange_0 : decode cX0_exchange 0 = .ok (.aload_n 0, 1) := by decide +kernel
theorem dX0_exchange_1 : decode cX0_exchange 1 = .ok (.getfield 11, 3) := by decide +kernel
theorem dX0_exchange_4 : decode cX0_exchange 4 = .ok (.iload_n 1, 1) := by decide +kernel
theorem dX0_exchange_5 : decode cX0_exchange 5 = .ok (.aaload, 1) := by decide +kernel
theorem dX0_exchange_6 : decode cX0_exchange 6 = .ok (.iload_n 2, 1) := by decide +kernel
theorem dX0_exchange_7 : decode cX0_exchange 7 = .ok (.laload, 1) := by decide +kernel
theorem dX0_exchange_8 : decode cX0_exchange 8 = .ok (.lneg, 1) := by decide +kernel
theorem dX0_exchange_9 : decode cX0_exchange 9 = .ok (.lstore_n 3, 1) := by decide +kernel
theorem dX0_exchange_10 : decode cX0_exchange 10 = .ok (.iconst 0, 1) := by decide +kernel
theorem dX0_exchange_11 : decode cX0_exchange 11 = .ok (.istore 5, 2) := by decide +kernel
theorem dX0_exchange_13 : decode cX0_exchange 13 = .ok (.iload 5, 2) := by decide +kernel
theorem dX0_exchange_15 : decode cX0_exchange 15 = .ok (.iconst 4, 1) := by decide +kernel
theorem dX0_exchange_16 : decode cX0_exchange 16 = .ok (.if_icmp .gt 24, 3) := by decide +kernel
theorem dX0_exchange_19 : decode cX0_exchange 19 = .ok (.iload 5, 2) := by decide +kernel
theorem dX0_exchange_21 : decode cX0_exchange 21 = .ok (.iload_n 1, 1) := by decide +kernel
theorem dX0_exchange_22 : decode cX0_exchange 22 = .ok (.if_icmp .eq 12, 3) := by decide +kernel
theorem dX0_exchange_25 : decode cX0_exchange 25 = .ok (.aload_n 0, 1) := by decide +kernel
theorem dX0_exchange_26 : decode cX0_exchange 26 = .ok (.iload 5, 2) := by decide +kernel
theorem dX0_exchange_28 : decode cX0_exchange 28 = .ok (.iload_n 1, 1) := by decide +kernel
theorem dX0_exchange_29 : decode cX0_exchange 29 = .ok (.iload_n 2, 1) := by decide +kernel
theorem dX0_exchange_30 : decode cX0_exchange 30 = .ok (.lload_n 3, 1) := by decide +kernel
theorem dX0_exchange_31 : decode cX0_exchange 31 = .ok (.invokevirtual 48, 3) := by decide +kernel
theorem dX0_exchange_34 : decode cX0_exchange 34 = .ok (.iinc 5 1, 3) := by decide +kernel
theorem dX0_exchange_37 : decode cX0_exchange 37 = .ok (.goto (-24), 3) := by decide +kernel
theorem dX0_exchange_40 : decode cX0_exchange 40 = .ok (.aload_n 0, 1) := by decide +kernel
theorem dX0_exchange_41 : decode cX0_exchange 41 = .ok (.getfield 11, 3) := by decide +kernel
theorem dX0_exchange_44 : decode cX0_exchange 44 = .ok (.iload_n 1, 1) := by decide +kernel
theorem dX0_exchange_45 : decode cX0_exchange 45 = .ok (.aaload, 1) := by decide +kernel
theorem dX0_exchange_46 : decode cX0_exchange 46 = .ok (.iload_n 2, 1) := by decide +kernel
theorem dX0_exchange_47 : decode cX0_exchange 47 = .ok (.aload_n 0, 1) := by decide +kernel
theorem dX0_exchange_48 : decode cX0_exchange 48 = .ok (.getfield 27, 3) := by decide +kernel
theorem dX0_exchange_51 : decode cX0_exchange 51 = .ok (.lneg, 1) := by decide +kernel
theorem dX0_exchange_52 : decode cX0_exchange 52 = .ok (.lastore, 1) := by decide +kernel
theorem dX0_exchange_53 : decode cX0_exchange 53 = .ok (.aload_n 0, 1) := by decide +kernel
theorem dX0_exchange_54 : decode cX0_exchange 54 = .ok (.lload_n 3, 1) := by decide +kernel
theorem dX0_exchange_55 : decode cX0_exchange 55 = .ok (.putfield 27, 3) := by decide +kernel
theorem dX0_exchange_58 : decode cX0_exchange 58 = .ok (.aload_n 0, 1) := by decide +kernel
theorem dX0_exchange_59 : decode cX0_exchange 59 = .ok (.getfield 16, 3) := by decide +kernel
theorem dX0_exchange_62 : decode cX0_exchange 62 = .ok (.iload_n 1, 1) := by decide +kernel
theorem dX0_exchange_63 : decode cX0_exchange 63 = .ok (.iaload, 1) := by decide +kernel
theorem dX0_exchange_64 : decode cX0_exchange 64 = .ok (.istore 5, 2) := by decide +kernel
theorem dX0_exchange_66 : decode cX0_exchange 66 = .ok (.aload_n 0, 1) := by decide +kernel
theorem dX0_exchange_67 : decode cX0_exchange 67 = .ok (.getfield 16, 3) := by decide +kernel
theorem dX0_exchange_70 : decode cX0_exchange 70 = .ok (.iload_n 1, 1) := by decide +kernel
theorem dX0_exchange_71 : decode cX0_exchange 71 = .ok (.aload_n 0, 1) := by decide +kernel
theorem dX0_exchange_72 : decode cX0_exchange 72 = .ok (.getfield 20, 3) := by decide +kernel
theorem dX0_exchange_75 : decode cX0_exchange 75 = .ok (.iload_n 2, 1) := by decide +kernel
theorem dX0_exchange_76 : decode cX0_exchange 76 = .ok (.iaload, 1) := by decide +kernel
theorem dX0_exchange_77 : decode cX0_exchange 77 = .ok (.iastore, 1) := by decide +kernel
theorem dX0_exchange_78 : decode cX0_exchange 78 = .ok (.aload_n 0, 1) := by decide +kernel
theorem dX0_exchange_79 : decode cX0_exchange 79 = .ok (.getfield 20, 3) := by decide +kernel
theorem dX0_exchange_82 : decode cX0_exchange 82 = .ok (.iload_n 2, 1) := by decide +kernel
theorem dX0_exchange_83 : decode cX0_exchange 83 = .ok (.iload 5, 2) := by decide +kernel
theorem dX0_exchange_85 : decode cX0_exchange 85 = .ok (.iastore, 1) := by decide +kernel
theorem dX0_exchange_86 : decode cX0_exchange 86 = .ok (.return_, 1) := by decide +kernel
theorem dX0_replaceIn_0 : decode cX0_replaceIn 0 = .ok (.aload_n 0, 1) := by decide +kernel
theorem dX0_replaceIn_1 : decode cX0_replaceIn 1 = .ok (.getfield 27, 3) := by decide +kernel
theorem dX0_replaceIn_4 : decode cX0_replaceIn 4 = .ok (.lconst 0, 1) := by decide +kernel
theorem dX0_replaceIn_5 : decode cX0_replaceIn 5 = .ok (.lcmp, 1) := by decide +kernel
theorem dX0_replaceIn_6 : decode cX0_replaceIn 6 = .ok (.ifCond .ne 4, 3) := by decide +kernel
theorem dX0_replaceIn_9 : decode cX0_replaceIn 9 = .ok (.return_, 1) := by decide +kernel
theorem dX0_replaceIn_10 : decode cX0_replaceIn 10 = .ok (.aload_n 0, 1) := by decide +kernel
theorem dX0_replaceIn_11 : decode cX0_replaceIn 11 = .ok (.getfield 11, 3) := by decide +kernel
theorem dX0_replaceIn_14 : decode cX0_replaceIn 14 = .ok (.iload_n 1, 1) := by decide +kernel
theorem dX0_replaceIn_15 : decode cX0_replaceIn 15 = .ok (.aaload, 1) := by decide +kernel
theorem dX0_replaceIn_16 : decode cX0_replaceIn 16 = .ok (.iload_n 3, 1) := by decide +kernel
theorem dX0_replaceIn_17 : decode cX0_replaceIn 17 = .ok (.laload, 1) := by decide +kernel
theorem dX0_replaceIn_18 : decode cX0_replaceIn 18 = .ok (.lstore 6, 2) := by decide +kernel
theorem dX0_replaceIn_20 : decode cX0_replaceIn 20 = .ok (.iconst 0, 1) := by decide +kernel
theorem dX0_replaceIn_21 : decode cX0_replaceIn 21 = .ok (.istore 8, 2) := by decide +kernel
theorem dX0_replaceIn_23 : decode cX0_replaceIn 23 = .ok (.iload 8, 2) := by decide +kernel
theorem dX0_replaceIn_25 : decode cX0_replaceIn 25 = .ok (.aload_n 0, 1) := by decide +kernel
theorem dX0_replaceIn_26 : decode cX0_replaceIn 26 = .ok (.getfield 23, 3) := by decide +kernel
theorem dX0_replaceIn_29 : decode cX0_replaceIn 29 = .ok (.if_icmp .ge 54, 3) := by decide +kernel
theorem dX0_replaceIn_32 : decode cX0_replaceIn 32 = .ok (.iload 8, 2) := by decide +kernel
theorem dX0_replaceIn_34 : decode cX0_replaceIn 34 = .ok (.iload_n 3, 1) := by decide +kernel
theorem dX0_replaceIn_35 : decode cX0_replaceIn 35 = .ok (.if_icmp .eq 42, 3) := by decide +kernel
theorem dX0_replaceIn_38 : decode cX0_replaceIn 38 = .ok (.aload_n 0, 1) := by decide +kernel
theorem dX0_replaceIn_39 : decode cX0_replaceIn 39 = .ok (.getfield 11, 3) := by decide +kernel
theorem dX0_replaceIn_42 : decode cX0_replaceIn 42 = .ok (.iload_n 1, 1) := by decide +kernel
theorem dX0_replaceIn_43 : decode cX0_replaceIn 43 = .ok (.aaload, 1) := by decide +kernel
theorem dX0_replaceIn_44 : decode cX0_replaceIn 44 = .ok (.iload 8, 2) := by decide +kernel
theorem dX0_replaceIn_46 : decode cX0_replaceIn 46 = .ok (.lload 6, 2) := by decide +kernel
theorem dX0_replaceIn_48 : decode cX0_replaceIn 48 = .ok (.aload_n 0, 1) := by decide +kernel
theorem dX0_replaceIn_49 : decode cX0_replaceIn 49 = .ok (.getfield 11, 3) := by decide +kernel
theorem dX0_replaceIn_52 : decode cX0_replaceIn 52 = .ok (.iload_n 2, 1) := by decide +kernel
theorem dX0_replaceIn_53 : decode cX0_replaceIn 53 = .ok (.aaload, 1) := by decide +kernel
theorem dX0_replaceIn_54 : decode cX0_replaceIn 54 = .ok (.iload 8, 2) := by decide +kernel
theorem dX0_replaceIn_56 : decode cX0_replaceIn 56 = .ok (.laload, 1) := by decide +kernel
theorem dX0_replaceIn_57 : decode cX0_replaceIn 57 = .ok (.lmul, 1) := by decide +kernel
theorem dX0_replaceIn_58 : decode cX0_replaceIn 58 = .ok (.lload 4, 2) := by decide +kernel
theorem dX0_replaceIn_60 : decode cX0_replaceIn 60 = .ok (.aload_n 0, 1) := by decide +kernel
theorem dX0_replaceIn_61 : decode cX0_replaceIn 61 = .ok (.getfield 11, 3) := by decide +kernel
theorem dX0_replaceIn_64 : decode cX0_replaceIn 64 = .ok (.iload_n 1, 1) := by decide +kernel
theorem dX0_replaceIn_65 : decode cX0_replaceIn 65 = .ok (.aaload, 1) := by decide +kernel
theorem dX0_replaceIn_66 : decode cX0_replaceIn 66 = .ok (.iload 8, 2) := by decide +kernel
theorem dX0_replaceIn_68 : decode cX0_replaceIn 68 = .ok (.laload, 1) := by decide +kernel
theorem dX0_replaceIn_69 : decode cX0_replaceIn 69 = .ok (.lmul, 1) := by decide +kernel
theorem dX0_replaceIn_70 : decode cX0_replaceIn 70 = .ok (.ladd, 1) := by decide +kernel
theorem dX0_replaceIn_71 : decode cX0_replaceIn 71 = .ok (.aload_n 0, 1) := by decide +kernel
theorem dX0_replaceIn_72 : decode cX0_replaceIn 72 = .ok (.getfield 27, 3) := by decide +kernel
theorem dX0_replaceIn_75 : decode cX0_replaceIn 75 = .ok (.ldiv, 1) := by decide +kernel
theorem dX0_replaceIn_76 : decode cX0_replaceIn 76 = .ok (.lastore, 1) := by decide +kernel
theorem dX0_replaceIn_77 : decode cX0_replaceIn 77 = .ok (.iinc 8 1, 3) := by decide +kernel
theorem dX0_replaceIn_80 : decode cX0_replaceIn 80 = .ok (.goto (-57), 3) := by decide +kernel
theorem dX0_replaceIn_83 : decode cX0_replaceIn 83 = .ok (.aload_n 0, 1) := by decide +kernel
theorem dX0_replaceIn_84 : decode cX0_replaceIn 84 = .ok (.getfield 11, 3) := by decide +kernel
theorem dX0_replaceIn_87 : decode cX0_replaceIn 87 = .ok (.iload_n 1, 1) := by decide +kernel
theorem dX0_replaceIn_88 : decode cX0_replaceIn 88 = .ok (.aaload, 1) := by decide +kernel
theorem dX0_replaceIn_89 : decode cX0_replaceIn 89 = .ok (.iload_n 3, 1) := by decide +kernel
theorem dX0_replaceIn_90 : decode cX0_replaceIn 90 = .ok (.lload 6, 2) := by decide +kernel
theorem dX0_replaceIn_92 : decode cX0_replaceIn 92 = .ok (.lneg, 1) := by decide +kernel
theorem dX0_replaceIn_93 : decode cX0_replaceIn 93 = .ok (.lastore, 1) := by decide +kernel
theorem dX0_replaceIn_94 : decode cX0_replaceIn 94 = .ok (.return_, 1) := by decide +kernel
theorem dX1_init_0 : decode cX1_init 0 = .ok (.aload_n 0, 1) := by decide +kernel
theorem dX1_init_1 : decode cX1_init 1 = .ok (.invokespecial 1, 3) := by decide +kernel
theorem dX1_init_4 : decode cX1_init 4 = .ok (.aload_n 0, 1) := by decide +kernel
theorem dX1_init_5 : decode cX1_init 5 = .ok (.iconst 1, 1) := by decide +kernel
theorem dX1_init_6 : decode cX1_init 6 = .ok (.putfield 7, 3) := by decide +kernel
theorem dX1_init_9 : decode cX1_init 9 = .ok (.aload_n 0, 1) := by decide +kernel
theorem dX1_init_10 : decode cX1_init 10 = .ok (.aload_n 1, 1) := by decide +kernel
theorem dX1_init_11 : decode cX1_init 11 = .ok (.putfield 13, 3) := by decide +kernel
theorem dX1_init_14 : decode cX1_init 14 = .ok (.aload_n 0, 1) := by decide +kernel
theorem dX1_init_15 : decode cX1_init 15 = .ok (.aload_n 2, 1) := by decide +kernel
theorem dX1_init_16 : decode cX1_init 16 = .ok (.putfield 17, 3) := by decide +kernel
theorem dX1_init_19 : decode cX1_init 19 = .ok (.return_, 1) := by decide +kernel
theorem dX2_init_0 : decode cX2_init 0 = .ok (.aload_n 0, 1) := by decide +kernel
theorem dX2_init_1 : decode cX2_init 1 = .ok (.invokespecial 3, 3) := by decide +kernel
theorem dX2_init_4 : decode cX2_init 4 = .ok (.aload_n 0, 1) := by decide +kernel
theorem dX2_init_5 : decode cX2_init 5 = .ok (.iconst 4, 1) := by decide +kernel
theorem dX2_init_6 : decode cX2_init 6 = .ok (.newarray .int, 2) := by decide +kernel
theorem dX2_init_8 : decode cX2_init 8 = .ok (.putfield 9, 3) := by decide +kernel
theorem dX2_init_11 : decode cX2_init 11 = .ok (.aload_n 0, 1) := by decide +kernel
theorem dX2_init_12 : decode cX2_init 12 = .ok (.iload_n 1, 1) := by decide +kernel
theorem dX2_init_13 : decode cX2_init 13 = .ok (.putfield 15, 3) := by decide +kernel
theorem dX2_init_16 : decode cX2_init 16 = .ok (.return_, 1) := by decide +kernel
theorem dX2_answerTo_0 : decode cX2_answerTo 0 = .ok (.iconst 0, 1) := by decide +kernel
theorem dX2_answerTo_1 : decode cX2_answerTo 1 = .ok (.istore_n 3, 1) := by decide +kernel
theorem dX2_answerTo_2 : decode cX2_answerTo 2 = .ok (.iload_n 3, 1) := by decide +kernel
theorem dX2_answerTo_3 : decode cX2_answerTo 3 = .ok (.iconst 4, 1) := by decide +kernel
theorem dX2_answerTo_4 : decode cX2_answerTo 4 = .ok (.if_icmp .ge 28, 3) := by decide +kernel
theorem dX2_answerTo_7 : decode cX2_answerTo 7 = .ok (.aload_n 0, 1) := by decide +kernel
theorem dX2_answerTo_8 : decode cX2_answerTo 8 = .ok (.getfield 9, 3) := by decide +kernel
theorem dX2_answerTo_11 : decode cX2_answerTo 11 = .ok (.iload_n 3, 1) := by decide +kernel
theorem dX2_answerTo_12 : decode cX2_answerTo 12 = .ok (.iaload, 1) := by decide +kernel
theorem dX2_answerTo_13 : decode cX2_answerTo 13 = .ok (.aload_n 1, 1) := by decide +kernel
theorem dX2_answerTo_14 : decode cX2_answerTo 14 = .ok (.getfield 19, 3) := by decide +kernel
theorem dX2_answerTo_17 : decode cX2_answerTo 17 = .ok (.iload_n 3, 1) := by decide +kernel
theorem dX2_answerTo_18 : decode cX2_answerTo 18 = .ok (.iaload, 1) := by decide +kernel
theorem dX2_answerTo_19 : decode cX2_answerTo 19 = .ok (.iload_n 2, 1) := by decide +kernel
theorem dX2_answerTo_20 : decode cX2_answerTo 20 = .ok (.imul, 1) := by decide +kernel
theorem dX2_answerTo_21 : decode cX2_answerTo 21 = .ok (.if_icmp .ge 5, 3) := by decide +kernel
theorem dX2_answerTo_24 : decode cX2_answerTo 24 = .ok (.iconst 1, 1) := by decide +kernel
theorem dX2_answerTo_25 : decode cX2_answerTo 25 = .ok (.ireturn, 1) := by decide +kernel
theorem dX2_answerTo_26 : decode cX2_answerTo 26 = .ok (.iinc 3 1, 3) := by decide +kernel
theorem dX2_answerTo_29 : decode cX2_answerTo 29 = .ok (.goto (-27), 3) := by decide +kernel
theorem dX2_answerTo_32 : decode cX2_answerTo 32 = .ok (.iconst 0, 1) := by decide +kernel
theorem dX2_answerTo_33 : decode cX2_answerTo 33 = .ok (.istore_n 3, 1) := by decide +kernel
theorem dX2_answerTo_34 : decode cX2_answerTo 34 = .ok (.iload_n 3, 1) := by decide +kernel
theorem dX2_answerTo_35 : decode cX2_answerTo 35 = .ok (.iconst 4, 1) := by decide +kernel
theorem dX2_answerTo_36 : decode cX2_answerTo 36 = .ok (.if_icmp .ge 30, 3) := by decide +kernel
theorem dX2_answerTo_39 : decode cX2_answerTo 39 = .ok (.aload_n 0, 1) := by decide +kernel
theorem dX2_answerTo_40 : decode cX2_answerTo 40 = .ok (.getfield 9, 3) := by decide +kernel
theorem dX2_answerTo_43 : decode cX2_answerTo 43 = .ok (.iload_n 3, 1) := by decide +kernel
theorem dX2_answerTo_44 : decode cX2_answerTo 44 = .ok (.iaload, 1) := by decide +kernel
theorem dX2_answerTo_45 : decode cX2_answerTo 45 = .ok (.aload_n 1, 1) := by decide +kernel
theorem dX2_answerTo_46 : decode cX2_answerTo 46 = .ok (.iload_n 3, 1) := by decide +kernel
theorem dX2_answerTo_47 : decode cX2_answerTo 47 = .ok (.invokevirtual 24, 3) := by decide +kernel
theorem dX2_answerTo_50 : decode cX2_answerTo 50 = .ok (.iload_n 2, 1) := by decide +kernel
theorem dX2_answerTo_51 : decode cX2_answerTo 51 = .ok (.imul, 1) := by decide +kernel
theorem dX2_answerTo_52 : decode cX2_answerTo 52 = .ok (.iadd, 1) := by decide +kernel
theorem dX2_answerTo_53 : decode cX2_answerTo 53 = .ok (.ldc 28, 2) := by decide +kernel
theorem dX2_answerTo_55 : decode cX2_answerTo 55 = .ok (.if_icmp .le 5, 3) := by decide +kernel
theorem dX2_answerTo_58 : decode cX2_answerTo 58 = .ok (.iconst 2, 1) := by decide +kernel
theorem dX2_answerTo_59 : decode cX2_answerTo 59 = .ok (.ireturn, 1) := by decide +kernel
theorem dX2_answerTo_60 : decode cX2_answerTo 60 = .ok (.iinc 3 1, 3) := by decide +kernel
theorem dX2_answerTo_63 : decode cX2_answerTo 63 = .ok (.goto (-29), 3) := by decide +kernel
theorem dX2_answerTo_66 : decode cX2_answerTo 66 = .ok (.iconst 0, 1) := by decide +kernel
theorem dX2_answerTo_67 : decode cX2_answerTo 67 = .ok (.ireturn, 1) := by decide +kernel
theorem dX3_init_0 : decode cX3_init 0 = .ok (.aload_n 0, 1) := by decide +kernel
theorem dX3_init_1 : decode cX3_init 1 = .ok (.invokespecial 3, 3) := by decide +kernel
theorem dX3_init_4 : decode cX3_init 4 = .ok (.aload_n 0, 1) := by decide +kernel
theorem dX3_init_5 : decode cX3_init 5 = .ok (.iconst 4, 1) := by decide +kernel
theorem dX3_init_6 : decode cX3_init 6 = .ok (.newarray .int, 2) := by decide +kernel
theorem dX3_init_8 : decode cX3_init 8 = .ok (.putfield 9, 3) := by decide +kernel
theorem dX3_init_11 : decode cX3_init 11 = .ok (.aload_n 0, 1) := by decide +kernel
theorem dX3_init_12 : decode cX3_init 12 = .ok (.iconst 4, 1) := by decide +kernel
theorem dX3_init_13 : decode cX3_init 13 = .ok (.newarray .int, 2) := by decide +kernel
theorem dX3_init_15 : decode cX3_init 15 = .ok (.putfield 15, 3) := by decide +kernel
theorem dX3_init_18 : decode cX3_init 18 = .ok (.aload_n 0, 1) := by decide +kernel
theorem dX3_init_19 : decode cX3_init 19 = .ok (.iload_n 1, 1) := by decide +kernel
theorem dX3_init_20 : decode cX3_init 20 = .ok (.putfield 18, 3) := by decide +kernel
theorem dX3_init_23 : decode cX3_init 23 = .ok (.return_, 1) := by decide +kernel
theorem dX3_won_0 : decode cX3_won 0 = .ok (.aload_n 0, 1) := by decide +kernel
theorem dX3_won_1 : decode cX3_won 1 = .ok (.getfield 15, 3) := by decide +kernel
theorem dX3_won_4 : decode cX3_won 4 = .ok (.iload_n 1, 1) := by decide +kernel
theorem dX3_won_5 : decode cX3_won 5 = .ok (.iaload, 1) := by decide +kernel
theorem dX3_won_6 : decode cX3_won 6 = .ok (.aload_n 0, 1) := by decide +kernel
theorem dX3_won_7 : decode cX3_won 7 = .ok (.getfield 9, 3) := by decide +kernel
theorem dX3_won_10 : decode cX3_won 10 = .ok (.iload_n 1, 1) := by decide +kernel
theorem dX3_won_11 : decode cX3_won 11 = .ok (.iaload, 1) := by decide +kernel
theorem dX3_won_12 : decode cX3_won 12 = .ok (.isub, 1) := by decide +kernel
theorem dX3_won_13 : decode cX3_won 13 = .ok (.ireturn, 1) := by decide +kernel
theorem dX4_init_0 : decode cX4_init 0 = .ok (.aload_n 0, 1) := by decide +kernel
theorem dX4_init_1 : decode cX4_init 1 = .ok (.invokespecial 3, 3) := by decide +kernel
theorem dX4_init_4 : decode cX4_init 4 = .ok (.aload_n 0, 1) := by decide +kernel
theorem dX4_init_5 : decode cX4_init 5 = .ok (.aload_n 1, 1) := by decide +kernel
theorem dX4_init_6 : decode cX4_init 6 = .ok (.putfield 9, 3) := by decide +kernel
theorem dX4_init_9 : decode cX4_init 9 = .ok (.aload_n 0, 1) := by decide +kernel
theorem dX4_init_10 : decode cX4_init 10 = .ok (.iload_n 2, 1) := by decide +kernel
theorem dX4_init_11 : decode cX4_init 11 = .ok (.putfield 15, 3) := by decide +kernel
theorem dX4_init_14 : decode cX4_init 14 = .ok (.aload_n 0, 1) := by decide +kernel
theorem dX4_init_15 : decode cX4_init 15 = .ok (.iload_n 3, 1) := by decide +kernel
theorem dX4_init_16 : decode cX4_init 16 = .ok (.putfield 19, 3) := by decide +kernel
theorem dX4_init_19 : decode cX4_init 19 = .ok (.aload_n 0, 1) := by decide +kernel
theorem dX4_init_20 : decode cX4_init 20 = .ok (.aload 4, 2) := by decide +kernel
theorem dX4_init_22 : decode cX4_init 22 = .ok (.putfield 22, 3) := by decide +kernel
theorem dX4_init_25 : decode cX4_init 25 = .ok (.aload_n 0, 1) := by decide +kernel
theorem dX4_init_26 : decode cX4_init 26 = .ok (.aload 4, 2) := by decide +kernel
theorem dX4_init_28 : decode cX4_init 28 = .ok (.ifnonnull 7, 3) := by decide +kernel
theorem dX4_init_31 : decode cX4_init 31 = .ok (.iconst 0, 1) := by decide +kernel
theorem dX4_init_32 : decode cX4_init 32 = .ok (.goto 8, 3) := by decide +kernel
theorem dX4_init_35 : decode cX4_init 35 = .ok (.aload 4, 2) := by decide +kernel
theorem dX4_init_37 : decode cX4_init 37 = .ok (.getfield 26, 3) := by decide +kernel
theorem dX4_init_40 : decode cX4_init 40 = .ok (.putfield 31, 3) := by decide +kernel
theorem dX4_init_43 : decode cX4_init 43 = .ok (.return_, 1) := by decide +kernel
theorem dX4_hasTooFew_0 : decode cX4_hasTooFew 0 = .ok (.aload_n 0, 1) := by decide +kernel
theorem dX4_hasTooFew_1 : decode cX4_hasTooFew 1 = .ok (.getfield 9, 3) := by decide +kernel
theorem dX4_hasTooFew_4 : decode cX4_hasTooFew 4 = .ok (.getfield 34, 3) := by decide +kernel
theorem dX4_hasTooFew_7 : decode cX4_hasTooFew 7 = .ok (.aload_n 0, 1) := by decide +kernel
theorem dX4_hasTooFew_8 : decode cX4_hasTooFew 8 = .ok (.getfield 19, 3) := by decide +kernel
theorem dX4_hasTooFew_11 : decode cX4_hasTooFew 11 = .ok (.iaload, 1) := by decide +kernel
theorem dX4_hasTooFew_12 : decode cX4_hasTooFew 12 = .ok (.aload_n 0, 1) := by decide +kernel
theorem dX4_hasTooFew_13 : decode cX4_hasTooFew 13 = .ok (.getfield 15, 3) := by decide +kernel
theorem dX4_hasTooFew_16 : decode cX4_hasTooFew 16 = .ok (.if_icmp .ge 7, 3) := by decide +kernel
theorem dX4_hasTooFew_19 : decode cX4_hasTooFew 19 = .ok (.iconst 1, 1) := by decide +kernel
theorem dX4_hasTooFew_20 : decode cX4_hasTooFew 20 = .ok (.goto 4, 3) := by decide +kernel
theorem dX4_hasTooFew_23 : decode cX4_hasTooFew 23 = .ok (.iconst 0, 1) := by decide +kernel
theorem dX4_hasTooFew_24 : decode cX4_hasTooFew 24 = .ok (.ireturn, 1) := by decide +kernel
theorem dX4_wouldHaveTooMany_0 : decode cX4_wouldHaveTooMany 0 = .ok (.aload_n 0, 1) := by decide +kernel
theorem dX4_wouldHaveTooMany_1 : decode cX4_wouldHaveTooMany 1 = .ok (.getfield 9, 3) := by decide +kernel
theorem dX4_wouldHaveTooMany_4 : decode cX4_wouldHaveTooMany 4 = .ok (.getfield 34, 3) := by decide +kernel
theorem dX4_wouldHaveTooMany_7 : decode cX4_wouldHaveTooMany 7 = .ok (.aload_n 1, 1) := by decide +kernel
theorem dX4_wouldHaveTooMany_8 : decode cX4_wouldHaveTooMany 8 = .ok (.getfield 19, 3) := by decide +kernel
theorem dX4_wouldHaveTooMany_11 : decode cX4_wouldHaveTooMany 11 = .ok (.iaload, 1) := by decide +kernel
theorem dX4_wouldHaveTooMany_12 : decode cX4_wouldHaveTooMany 12 = .ok (.aload_n 0, 1) := by decide +kernel
theorem dX4_wouldHaveTooMany_13 : decode cX4_wouldHaveTooMany 13 = .ok (.getfield 19, 3) := by decide +kernel
theorem dX4_wouldHaveTooMany_16 : decode cX4_wouldHaveTooMany 16 = .ok (.aload_n 1, 1) := by decide +kernel
theorem dX4_wouldHaveTooMany_17 : decode cX4_wouldHaveTooMany 17 = .ok (.getfield 19, 3) := by decide +kernel
theorem dX4_wouldHaveTooMany_20 : decode cX4_wouldHaveTooMany 20 = .ok (.if_icmp .ne 10, 3) := by decide +kernel
theorem dX4_wouldHaveTooMany_23 : decode cX4_wouldHaveTooMany 23 = .ok (.aload_n 0, 1) := by decide +kernel
theorem dX4_wouldHaveTooMany_24 : decode cX4_wouldHaveTooMany 24 = .ok (.getfield 15, 3) := by decide +kernel
theorem dX4_wouldHaveTooMany_27 : decode cX4_wouldHaveTooMany 27 = .ok (.goto 4, 3) := by decide +kernel
theorem dX4_wouldHaveTooMany_30 : decode cX4_wouldHaveTooMany 30 = .ok (.iconst 0, 1) := by decide +kernel
theorem dX4_wouldHaveTooMany_31 : decode cX4_wouldHaveTooMany 31 = .ok (.isub, 1) := by decide +kernel
theorem dX4_wouldHaveTooMany_32 : decode cX4_wouldHaveTooMany 32 = .ok (.istore_n 2, 1) := by decide +kernel
theorem dX4_wouldHaveTooMany_33 : decode cX4_wouldHaveTooMany 33 = .ok (.iload_n 2, 1) := by decide +kernel
theorem dX4_wouldHaveTooMany_34 : decode cX4_wouldHaveTooMany 34 = .ok (.aload_n 1, 1) := by decide +kernel
theorem dX4_wouldHaveTooMany_35 : decode cX4_wouldHaveTooMany 35 = .ok (.getfield 15, 3) := by decide +kernel
theorem dX4_wouldHaveTooMany_38 : decode cX4_wouldHaveTooMany 38 = .ok (.iadd, 1) := by decide +kernel
theorem dX4_wouldHaveTooMany_39 : decode cX4_wouldHaveTooMany 39 = .ok (.ldc 40, 2) := by decide +kernel
theorem dX4_wouldHaveTooMany_41 : decode cX4_wouldHaveTooMany 41 = .ok (.if_icmp .le 7, 3) := by decide +kernel
theorem dX4_wouldHaveTooMany_44 : decode cX4_wouldHaveTooMany 44 = .ok (.iconst 1, 1) := by decide +kernel
theorem dX4_wouldHaveTooMany_45 : decode cX4_wouldHaveTooMany 45 = .ok (.goto 4, 3) := by decide +kernel
theorem dX4_wouldHaveTooMany_48 : decode cX4_wouldHaveTooMany 48 = .ok (.iconst 0, 1) := by decide +kernel
theorem dX4_wouldHaveTooMany_49 : decode cX4_wouldHaveTooMany 49 = .ok (.ireturn, 1) := by decide +kernel
theorem dX4_isWornSince_0 : decode cX4_isWornSince 0 = .ok (.aload_n 0, 1) := by decide +kernel
theorem dX4_isWornSince_1 : decode cX4_isWornSince 1 = .ok (.getfield 22, 3) := by decide +kernel
theorem dX4_isWornSince_4 : decode cX4_isWornSince 4 = .ok (.ifnull 21, 3) := by decide +kernel
theorem dX4_isWornSince_7 : decode cX4_isWornSince 7 = .ok (.aload_n 0, 1) := by decide +kernel
theorem dX4_isWornSince_8 : decode cX4_isWornSince 8 = .ok (.getfield 22, 3) := by decide +kernel
theorem dX4_isWornSince_11 : decode cX4_isWornSince 11 = .ok (.getfield 26, 3) := by decide +kernel
theorem dX4_isWornSince_14 : decode cX4_isWornSince 14 = .ok (.aload_n 0, 1) := by decide +kernel
theorem dX4_isWornSince_15 : decode cX4_isWornSince 15 = .ok (.getfield 31, 3) := by decide +kernel
theorem dX4_isWornSince_18 : decode cX4_isWornSince 18 = .ok (.if_icmp .eq 7, 3) := by decide +kernel
theorem dX4_isWornSince_21 : decode cX4_isWornSince 21 = .ok (.iconst 1, 1) := by decide +kernel
theorem dX4_isWornSince_22 : decode cX4_isWornSince 22 = .ok (.goto 4, 3) := by decide +kernel
theorem dX4_isWornSince_25 : decode cX4_isWornSince 25 = .ok (.iconst 0, 1) := by decide +kernel
theorem dX4_isWornSince_26 : decode cX4_isWornSince 26 = .ok (.ireturn, 1) := by decide +kernel
theorem dX5_init_0 : decode cX5_init 0 = .ok (.aload_n 0, 1) := by decide +kernel
theorem dX5_init_1 : decode cX5_init 1 = .ok (.invokespecial 3, 3) := by decide +kernel
theorem dX5_init_4 : decode cX5_init 4 = .ok (.aload_n 0, 1) := by decide +kernel
theorem dX5_init_5 : decode cX5_init 5 = .ok (.bipush 30, 2) := by decide +kernel
theorem dX5_init_7 : decode cX5_init 7 = .ok (.newarray .int, 2) := by decide +kernel
theorem dX5_init_9 : decode cX5_init 9 = .ok (.putfield 9, 3) := by decide +kernel
theorem dX5_init_12 : decode cX5_init 12 = .ok (.aload_n 0, 1) := by decide +kernel
theorem dX5_init_13 : decode cX5_init 13 = .ok (.bipush 30, 2) := by decide +kernel
theorem dX5_init_15 : decode cX5_init 15 = .ok (.newarray .int, 2) := by decide +kernel
theorem dX5_init_17 : decode cX5_init 17 = .ok (.putfield 15, 3) := by decide +kernel
theorem dX5_init_20 : decode cX5_init 20 = .ok (.aload_n 0, 1) := by decide +kernel
theorem dX5_init_21 : decode cX5_init 21 = .ok (.iconst (-1), 1) := by decide +kernel
theorem dX5_init_22 : decode cX5_init 22 = .ok (.putfield 18, 3) := by decide +kernel
theorem dX5_init_25 : decode cX5_init 25 = .ok (.aload_n 0, 1) := by decide +kernel
theorem dX5_init_26 : decode cX5_init 26 = .ok (.iload_n 1, 1) := by decide +kernel
theorem dX5_init_27 : decode cX5_init 27 = .ok (.putfield 22, 3) := by decide +kernel
theorem dX5_init_30 : decode cX5_init 30 = .ok (.aload_n 0, 1) := by decide +kernel
theorem dX5_init_31 : decode cX5_init 31 = .ok (.iload_n 2, 1) := by decide +kernel
theorem dX5_init_32 : decode cX5_init 32 = .ok (.putfield 25, 3) := by decide +kernel
theorem dX5_init_35 : decode cX5_init 35 = .ok (.aload_n 0, 1) := by decide +kernel
theorem dX5_init_36 : decode cX5_init 36 = .ok (.iload_n 3, 1) := by decide +kernel
theorem dX5_init_37 : decode cX5_init 37 = .ok (.putfield 29, 3) := by decide +kernel
theorem dX5_init_40 : decode cX5_init 40 = .ok (.return_, 1) := by decide +kernel
theorem dX5_isBroken_0 : decode cX5_isBroken 0 = .ok (.aload_n 0, 1) := by decide +kernel
theorem dX5_isBroken_1 : decode cX5_isBroken 1 = .ok (.getfield 32, 3) := by decide +kernel
theorem dX5_isBroken_4 : decode cX5_isBroken 4 = .ok (.ifnonnull 7, 3) := by decide +kernel
theorem dX5_isBroken_7 : decode cX5_isBroken 7 = .ok (.iconst 1, 1) := by decide +kernel
theorem dX5_isBroken_8 : decode cX5_isBroken 8 = .ok (.goto 4, 3) := by decide +kernel
theorem dX5_isBroken_11 : decode cX5_isBroken 11 = .ok (.iconst 0, 1) := by decide +kernel
theorem dX5_isBroken_12 : decode cX5_isBroken 12 = .ok (.ireturn, 1) := by decide +kernel
theorem dX5_isLent_0 : decode cX5_isLent 0 = .ok (.aload_n 0, 1) := by decide +kernel
theorem dX5_isLent_1 : decode cX5_isLent 1 = .ok (.getfield 36, 3) := by decide +kernel
theorem dX5_isLent_4 : decode cX5_isLent 4 = .ok (.ifnull 7, 3) := by decide +kernel
theorem dX5_isLent_7 : decode cX5_isLent 7 = .ok (.iconst 1, 1) := by decide +kernel
theorem dX5_isLent_8 : decode cX5_isLent 8 = .ok (.goto 4, 3) := by decide +kernel
theorem dX5_isLent_11 : decode cX5_isLent 11 = .ok (.iconst 0, 1) := by decide +kernel
theorem dX5_isLent_12 : decode cX5_isLent 12 = .ok (.ireturn, 1) := by decide +kernel
theorem dX5_passTo_0 : decode cX5_passTo 0 = .ok (.aload_n 0, 1) := by decide +kernel
theorem dX5_passTo_1 : decode cX5_passTo 1 = .ok (.aload_n 1, 1) := by decide +kernel
theorem dX5_passTo_2 : decode cX5_passTo 2 = .ok (.putfield 32, 3) := by decide +kernel
theorem dX5_passTo_5 : decode cX5_passTo 5 = .ok (.aload_n 0, 1) := by decide +kernel
theorem dX5_passTo_6 : decode cX5_passTo 6 = .ok (.getfield 39, 3) := by decide +kernel
theorem dX5_passTo_9 : decode cX5_passTo 9 = .ok (.bipush 30, 2) := by decide +kernel
theorem dX5_passTo_11 : decode cX5_passTo 11 = .ok (.if_icmp .ge 26, 3) := by decide +kernel
theorem dX5_passTo_14 : decode cX5_passTo 14 = .ok (.aload_n 0, 1) := by decide +kernel
theorem dX5_passTo_15 : decode cX5_passTo 15 = .ok (.getfield 9, 3) := by decide +kernel
theorem dX5_passTo_18 : decode cX5_passTo 18 = .ok (.aload_n 0, 1) := by decide +kernel
theorem dX5_passTo_19 : decode cX5_passTo 19 = .ok (.getfield 39, 3) := by decide +kernel
theorem dX5_passTo_22 : decode cX5_passTo 22 = .ok (.aload_n 1, 1) := by decide +kernel
theorem dX5_passTo_23 : decode cX5_passTo 23 = .ok (.getfield 42, 3) := by decide +kernel
theorem dX5_passTo_26 : decode cX5_passTo 26 = .ok (.iastore, 1) := by decide +kernel
theorem dX5_passTo_27 : decode cX5_passTo 27 = .ok (.aload_n 0, 1) := by decide +kernel
theorem dX5_passTo_28 : decode cX5_passTo 28 = .ok (.getfield 15, 3) := by decide +kernel
theorem dX5_passTo_31 : decode cX5_passTo 31 = .ok (.aload_n 0, 1) := by decide +kernel
theorem dX5_passTo_32 : decode cX5_passTo 32 = .ok (.getfield 39, 3) := by decide +kernel
theorem dX5_passTo_35 : decode cX5_passTo 35 = .ok (.iload_n 2, 1) := by decide +kernel
theorem dX5_passTo_36 : decode cX5_passTo 36 = .ok (.iastore, 1) := by decide +kernel
theorem dX5_passTo_37 : decode cX5_passTo 37 = .ok (.aload_n 0, 1) := by decide +kernel
theorem dX5_passTo_38 : decode cX5_passTo 38 = .ok (.dup, 1) := by decide +kernel
theorem dX5_passTo_39 : decode cX5_passTo 39 = .ok (.getfield 39, 3) := by decide +kernel
theorem dX5_passTo_42 : decode cX5_passTo 42 = .ok (.iconst 1, 1) := by decide +kernel
theorem dX5_passTo_43 : decode cX5_passTo 43 = .ok (.iadd, 1) := by decide +kernel
theorem dX5_passTo_44 : decode cX5_passTo 44 = .ok (.putfield 39, 3) := by decide +kernel
theorem dX5_passTo_47 : decode cX5_passTo 47 = .ok (.return_, 1) := by decide +kernel
theorem dX5_endLoan_0 : decode cX5_endLoan 0 = .ok (.aload_n 0, 1) := by decide +kernel
theorem dX5_endLoan_1 : decode cX5_endLoan 1 = .ok (.aconst_null, 1) := by decide +kernel
theorem dX5_endLoan_2 : decode cX5_endLoan 2 = .ok (.putfield 36, 3) := by decide +kernel
theorem dX5_endLoan_5 : decode cX5_endLoan 5 = .ok (.aload_n 0, 1) := by decide +kernel
theorem dX5_endLoan_6 : decode cX5_endLoan 6 = .ok (.iconst (-1), 1) := by decide +kernel
theorem dX5_endLoan_7 : decode cX5_endLoan 7 = .ok (.putfield 18, 3) := by decide +kernel
theorem dX5_endLoan_10 : decode cX5_endLoan 10 = .ok (.return_, 1) := by decide +kernel
theorem dX5_liesWithin_0 : decode cX5_liesWithin 0 = .ok (.aload_n 0, 1) := by decide +kernel
theorem dX5_liesWithin_1 : decode cX5_liesWithin 1 = .ok (.getfield 45, 3) := by decide +kernel
theorem dX5_liesWithin_4 : decode cX5_liesWithin 4 = .ok (.astore_n 2, 1) := by decide +kernel
theorem dX5_liesWithin_5 : decode cX5_liesWithin 5 = .ok (.aload_n 2, 1) := by decide +kernel
theorem dX5_liesWithin_6 : decode cX5_liesWithin 6 = .ok (.ifnull 18, 3) := by decide +kernel
theorem dX5_liesWithin_9 : decode cX5_liesWithin 9 = .ok (.aload_n 2, 1) := by decide +kernel
theorem dX5_liesWithin_10 : decode cX5_liesWithin 10 = .ok (.aload_n 1, 1) := by decide +kernel
theorem dX5_liesWithin_11 : decode cX5_liesWithin 11 = .ok (.if_acmp .ne 5, 3) := by decide +kernel
theorem dX5_liesWithin_14 : decode cX5_liesWithin 14 = .ok (.iconst 1, 1) := by decide +kernel
theorem dX5_liesWithin_15 : decode cX5_liesWithin 15 = .ok (.ireturn, 1) := by decide +kernel
theorem dX5_liesWithin_16 : decode cX5_liesWithin 16 = .ok (.aload_n 2, 1) := by decide +kernel
theorem dX5_liesWithin_17 : decode cX5_liesWithin 17 = .ok (.getfield 45, 3) := by decide +kernel
theorem dX5_liesWithin_20 : decode cX5_liesWithin 20 = .ok (.astore_n 2, 1) := by decide +kernel
theorem dX5_liesWithin_21 : decode cX5_liesWithin 21 = .ok (.goto (-16), 3) := by decide +kernel
theorem dX5_liesWithin_24 : decode cX5_liesWithin 24 = .ok (.iconst 0, 1) := by decide +kernel
theorem dX5_liesWithin_25 : decode cX5_liesWithin 25 = .ok (.ireturn, 1) := by decide +kernel
theorem dX6_init_0 : decode cX6_init 0 = .ok (.aload_n 0, 1) := by decide +kernel
theorem dX6_init_1 : decode cX6_init 1 = .ok (.invokespecial 1, 3) := by decide +kernel
theorem dX6_init_4 : decode cX6_init 4 = .ok (.aload_n 0, 1) := by decide +kernel
theorem dX6_init_5 : decode cX6_init 5 = .ok (.new 7, 3) := by decide +kernel
theorem dX6_init_8 : decode cX6_init 8 = .ok (.dup, 1) := by decide +kernel
theorem dX6_init_9 : decode cX6_init 9 = .ok (.invokespecial 9, 3) := by decide +kernel
theorem dX6_init_12 : decode cX6_init 12 = .ok (.putfield 10, 3) := by decide +kernel
theorem dX6_init_15 : decode cX6_init 15 = .ok (.return_, 1) := by decide +kernel
theorem dX6_size_0 : decode cX6_size 0 = .ok (.aload_n 0, 1) := by decide +kernel
theorem dX6_size_1 : decode cX6_size 1 = .ok (.getfield 10, 3) := by decide +kernel
theorem dX6_size_4 : decode cX6_size 4 = .ok (.invokevirtual 16, 3) := by decide +kernel
theorem dX6_size_7 : decode cX6_size 7 = .ok (.ireturn, 1) := by decide +kernel
theorem dX6_add_0 : decode cX6_add 0 = .ok (.aload_n 0, 1) := by decide +kernel
theorem dX6_add_1 : decode cX6_add 1 = .ok (.getfield 10, 3) := by decide +kernel
theorem dX6_add_4 : decode cX6_add 4 = .ok (.aload_n 1, 1) := by decide +kernel
theorem dX6_add_5 : decode cX6_add 5 = .ok (.invokevirtual 20, 3) := by decide +kernel
theorem dX6_add_8 : decode cX6_add 8 = .ok (.pop, 1) := by decide +kernel
theorem dX6_add_9 : decode cX6_add 9 = .ok (.return_, 1) := by decide +kernel
theorem dX6_at_0 : decode cX6_at 0 = .ok (.iload_n 1, 1) := by decide +kernel
theorem dX6_at_1 : decode cX6_at 1 = .ok (.ifCond .lt 14, 3) := by decide +kernel
theorem dX6_at_4 : decode cX6_at 4 = .ok (.iload_n 1, 1) := by decide +kernel
theorem dX6_at_5 : decode cX6_at 5 = .ok (.aload_n 0, 1) := by decide +kernel
theorem dX6_at_6 : decode cX6_at 6 = .ok (.getfield 10, 3) := by decide +kernel
theorem dX6_at_9 : decode cX6_at 9 = .ok (.invokevirtual 16, 3) := by decide +kernel
theorem dX6_at_12 : decode cX6_at 12 = .ok (.if_icmp .lt 13, 3) := by decide +kernel
theorem dX6_at_15 : decode cX6_at 15 = .ok (.new 24, 3) := by decide +kernel
theorem dX6_at_18 : decode cX6_at 18 = .ok (.dup, 1) := by decide +kernel
theorem dX6_at_19 : decode cX6_at 19 = .ok (.ldc 26, 2) := by decide +kernel
theorem dX6_at_21 : decode cX6_at 21 = .ok (.invokespecial 28, 3) := by decide +kernel
theorem dX6_at_24 : decode cX6_at 24 = .ok (.athrow, 1) := by decide +kernel
theorem dX6_at_25 : decode cX6_at 25 = .ok (.aload_n 0, 1) := by decide +kernel
theorem dX6_at_26 : decode cX6_at 26 = .ok (.getfield 10, 3) := by decide +kernel
theorem dX6_at_29 : decode cX6_at 29 = .ok (.iload_n 1, 1) := by decide +kernel
theorem dX6_at_30 : decode cX6_at 30 = .ok (.invokevirtual 31, 3) := by decide +kernel
theorem dX6_at_33 : decode cX6_at 33 = .ok (.checkcast 35, 3) := by decide +kernel
theorem dX6_at_36 : decode cX6_at 36 = .ok (.areturn, 1) := by decide +kernel
theorem dX6_mayLieIn_0 : decode cX6_mayLieIn 0 = .ok (.aload_n 1, 1) := by decide +kernel
theorem dX6_mayLieIn_1 : decode cX6_mayLieIn 1 = .ok (.invokevirtual 37, 3) := by decide +kernel
theorem dX6_mayLieIn_4 : decode cX6_mayLieIn 4 = .ok (.ifCond .ne 50, 3) := by decide +kernel
theorem dX6_mayLieIn_7 : decode cX6_mayLieIn 7 = .ok (.aload_n 1, 1) := by decide +kernel
theorem dX6_mayLieIn_8 : decode cX6_mayLieIn 8 = .ok (.getfield 41, 3) := by decide +kernel
theorem dX6_mayLieIn_11 : decode cX6_mayLieIn 11 = .ok (.aload_n 2, 1) := by decide +kernel
theorem dX6_mayLieIn_12 : decode cX6_mayLieIn 12 = .ok (.getfield 41, 3) := by decide +kernel
theorem dX6_mayLieIn_15 : decode cX6_mayLieIn 15 = .ok (.if_acmp .ne 39, 3) := by decide +kernel
theorem dX6_mayLieIn_18 : decode cX6_mayLieIn 18 = .ok (.aload_n 1, 1) := by decide +kernel
theorem dX6_mayLieIn_19 : decode cX6_mayLieIn 19 = .ok (.getfield 45, 3) := by decide +kernel
theorem dX6_mayLieIn_22 : decode cX6_mayLieIn 22 = .ok (.ifnonnull 32, 3) := by decide +kernel
theorem dX6_mayLieIn_25 : decode cX6_mayLieIn 25 = .ok (.aload_n 1, 1) := by decide +kernel
theorem dX6_mayLieIn_26 : decode cX6_mayLieIn 26 = .ok (.aload_n 2, 1) := by decide +kernel
theorem dX6_mayLieIn_27 : decode cX6_mayLieIn 27 = .ok (.if_acmp .eq 27, 3) := by decide +kernel
theorem dX6_mayLieIn_30 : decode cX6_mayLieIn 30 = .ok (.aload_n 2, 1) := by decide +kernel
theorem dX6_mayLieIn_31 : decode cX6_mayLieIn 31 = .ok (.aload_n 1, 1) := by decide +kernel
theorem dX6_mayLieIn_32 : decode cX6_mayLieIn 32 = .ok (.invokevirtual 49, 3) := by decide +kernel
theorem dX6_mayLieIn_35 : decode cX6_mayLieIn 35 = .ok (.ifCond .ne 19, 3) := by decide +kernel
theorem dX6_mayLieIn_38 : decode cX6_mayLieIn 38 = .ok (.aload_n 0, 1) := by decide +kernel
theorem dX6_mayLieIn_39 : decode cX6_mayLieIn 39 = .ok (.aload_n 2, 1) := by decide +kernel
theorem dX6_mayLieIn_40 : decode cX6_mayLieIn 40 = .ok (.invokevirtual 53, 3) := by decide +kernel
theorem dX6_mayLieIn_43 : decode cX6_mayLieIn 43 = .ok (.aload_n 2, 1) := by decide +kernel
theorem dX6_mayLieIn_44 : decode cX6_mayLieIn 44 = .ok (.getfield 57, 3) := by decide +kernel
theorem dX6_mayLieIn_47 : decode cX6_mayLieIn 47 = .ok (.if_icmp .ge 7, 3) := by decide +kernel
theorem dX6_mayLieIn_50 : decode cX6_mayLieIn 50 = .ok (.iconst 1, 1) := by decide +kernel
theorem dX6_mayLieIn_51 : decode cX6_mayLieIn 51 = .ok (.goto 4, 3) := by decide +kernel
theorem dX6_mayLieIn_54 : decode cX6_mayLieIn 54 = .ok (.iconst 0, 1) := by decide +kernel
theorem dX6_mayLieIn_55 : decode cX6_mayLieIn 55 = .ok (.ireturn, 1) := by decide +kernel
theorem dX6_mayLeave_0 : decode cX6_mayLeave 0 = .ok (.aload_n 1, 1) := by decide +kernel
theorem dX6_mayLeave_1 : decode cX6_mayLeave 1 = .ok (.invokevirtual 37, 3) := by decide +kernel
theorem dX6_mayLeave_4 : decode cX6_mayLeave 4 = .ok (.ifCond .ne 10, 3) := by decide +kernel
theorem dX6_mayLeave_7 : decode cX6_mayLeave 7 = .ok (.aload_n 1, 1) := by decide +kernel
theorem dX6_mayLeave_8 : decode cX6_mayLeave 8 = .ok (.getfield 45, 3) := by decide +kernel
theorem dX6_mayLeave_11 : decode cX6_mayLeave 11 = .ok (.ifnull 5, 3) := by decide +kernel
theorem dX6_mayLeave_14 : decode cX6_mayLeave 14 = .ok (.iconst 0, 1) := by decide +kernel
theorem dX6_mayLeave_15 : decode cX6_mayLeave 15 = .ok (.ireturn, 1) := by decide +kernel
theorem dX6_mayLeave_16 : decode cX6_mayLeave 16 = .ok (.iconst 0, 1) := by decide +kernel
theorem dX6_mayLeave_17 : decode cX6_mayLeave 17 = .ok (.istore_n 2, 1) := by decide +kernel
theorem dX6_mayLeave_18 : decode cX6_mayLeave 18 = .ok (.iload_n 2, 1) := by decide +kernel
theorem dX6_mayLeave_19 : decode cX6_mayLeave 19 = .ok (.aload_n 0, 1) := by decide +kernel
theorem dX6_mayLeave_20 : decode cX6_mayLeave 20 = .ok (.getfield 10, 3) := by decide +kernel
theorem dX6_mayLeave_23 : decode cX6_mayLeave 23 = .ok (.invokevirtual 16, 3) := by decide +kernel
theorem dX6_mayLeave_26 : decode cX6_mayLeave 26 = .ok (.if_icmp .ge 45, 3) := by decide +kernel
theorem dX6_mayLeave_29 : decode cX6_mayLeave 29 = .ok (.aload_n 0, 1) := by decide +kernel
theorem dX6_mayLeave_30 : decode cX6_mayLeave 30 = .ok (.getfield 10, 3) := by decide +kernel
theorem dX6_mayLeave_33 : decode cX6_mayLeave 33 = .ok (.iload_n 2, 1) := by decide +kernel
theorem dX6_mayLeave_34 : decode cX6_mayLeave 34 = .ok (.invokevirtual 31, 3) := by decide +kernel
theorem dX6_mayLeave_37 : decode cX6_mayLeave 37 = .ok (.checkcast 35, 3) := by decide +kernel
theorem dX6_mayLeave_40 : decode cX6_mayLeave 40 = .ok (.astore_n 3, 1) := by decide +kernel
theorem dX6_mayLeave_41 : decode cX6_mayLeave 41 = .ok (.aload_n 3, 1) := by decide +kernel
theorem dX6_mayLeave_42 : decode cX6_mayLeave 42 = .ok (.getfield 61, 3) := by decide +kernel
theorem dX6_mayLeave_45 : decode cX6_mayLeave 45 = .ok (.ifCond .ne 10, 3) := by decide +kernel
theorem dX6_mayLeave_48 : decode cX6_mayLeave 48 = .ok (.aload_n 3, 1) := by decide +kernel
theorem dX6_mayLeave_49 : decode cX6_mayLeave 49 = .ok (.invokevirtual 65, 3) := by decide +kernel
theorem dX6_mayLeave_52 : decode cX6_mayLeave 52 = .ok (.ifCond .eq 13, 3) := by decide +kernel
theorem dX6_mayLeave_55 : decode cX6_mayLeave 55 = .ok (.aload_n 3, 1) := by decide +kernel
theorem dX6_mayLeave_56 : decode cX6_mayLeave 56 = .ok (.aload_n 1, 1) := by decide +kernel
theorem dX6_mayLeave_57 : decode cX6_mayLeave 57 = .ok (.invokestatic 68, 3) := by decide +kernel
theorem dX6_mayLeave_60 : decode cX6_mayLeave 60 = .ok (.ifCond .eq 5, 3) := by decide +kernel
theorem dX6_mayLeave_63 : decode cX6_mayLeave 63 = .ok (.iconst 0, 1) := by decide +kernel
theorem dX6_mayLeave_64 : decode cX6_mayLeave 64 = .ok (.ireturn, 1) := by decide +kernel
theorem dX6_mayLeave_65 : decode cX6_mayLeave 65 = .ok (.iinc 2 1, 3) := by decide +kernel
theorem dX6_mayLeave_68 : decode cX6_mayLeave 68 = .ok (.goto (-50), 3) := by decide +kernel
theorem dX6_mayLeave_71 : decode cX6_mayLeave 71 = .ok (.iconst 1, 1) := by decide +kernel
theorem dX6_mayLeave_72 : decode cX6_mayLeave 72 = .ok (.ireturn, 1) := by decide +kernel
theorem dX6_passOn_0 : decode cX6_passOn 0 = .ok (.iconst 0, 1) := by decide +kernel
theorem dX6_passOn_1 : decode cX6_passOn 1 = .ok (.istore 4, 2) := by decide +kernel
theorem dX6_passOn_3 : decode cX6_passOn 3 = .ok (.iload 4, 2) := by decide +kernel
theorem dX6_passOn_5 : decode cX6_passOn 5 = .ok (.aload_n 0, 1) := by decide +kernel
theorem dX6_passOn_6 : decode cX6_passOn 6 = .ok (.getfield 10, 3) := by decide +kernel
theorem dX6_passOn_9 : decode cX6_passOn 9 = .ok (.invokevirtual 16, 3) := by decide +kernel
theorem dX6_passOn_12 : decode cX6_passOn 12 = .ok (.if_icmp .ge 39, 3) := by decide +kernel
theorem dX6_passOn_15 : decode cX6_passOn 15 = .ok (.aload_n 0, 1) := by decide +kernel
theorem dX6_passOn_16 : decode cX6_passOn 16 = .ok (.getfield 10, 3) := by decide +kernel
theorem dX6_passOn_19 : decode cX6_passOn 19 = .ok (.iload 4, 2) := by decide +kernel
theorem dX6_passOn_21 : decode cX6_passOn 21 = .ok (.invokevirtual 31, 3) := by decide +kernel
theorem dX6_passOn_24 : decode cX6_passOn 24 = .ok (.checkcast 35, 3) := by decide +kernel
theorem dX6_passOn_27 : decode cX6_passOn 27 = .ok (.astore 5, 2) := by decide +kernel
theorem dX6_passOn_29 : decode cX6_passOn 29 = .ok (.aload 5, 2) := by decide +kernel
theorem dX6_passOn_31 : decode cX6_passOn 31 = .ok (.aload_n 1, 1) := by decide +kernel
theorem dX6_passOn_32 : decode cX6_passOn 32 = .ok (.invokestatic 68, 3) := by decide +kernel
theorem dX6_passOn_35 : decode cX6_passOn 35 = .ok (.ifCond .eq 10, 3) := by decide +kernel
theorem dX6_passOn_38 : decode cX6_passOn 38 = .ok (.aload 5, 2) := by decide +kernel
theorem dX6_passOn_40 : decode cX6_passOn 40 = .ok (.aload_n 2, 1) := by decide +kernel
theorem dX6_passOn_41 : decode cX6_passOn 41 = .ok (.iload_n 3, 1) := by decide +kernel
theorem dX6_passOn_42 : decode cX6_passOn 42 = .ok (.invokevirtual 72, 3) := by decide +kernel
theorem dX6_passOn_45 : decode cX6_passOn 45 = .ok (.iinc 4 1, 3) := by decide +kernel
theorem dX6_passOn_48 : decode cX6_passOn 48 = .ok (.goto (-45), 3) := by decide +kernel
theorem dX6_passOn_51 : decode cX6_passOn 51 = .ok (.return_, 1) := by decide +kernel
theorem dX6_breakUp_0 : decode cX6_breakUp 0 = .ok (.aload_n 1, 1) := by decide +kernel
theorem dX6_breakUp_1 : decode cX6_breakUp 1 = .ok (.aconst_null, 1) := by decide +kernel
theorem dX6_breakUp_2 : decode cX6_breakUp 2 = .ok (.putfield 45, 3) := by decide +kernel
theorem dX6_breakUp_5 : decode cX6_breakUp 5 = .ok (.aload_n 1, 1) := by decide +kernel
theorem dX6_breakUp_6 : decode cX6_breakUp 6 = .ok (.aconst_null, 1) := by decide +kernel
theorem dX6_breakUp_7 : decode cX6_breakUp 7 = .ok (.putfield 41, 3) := by decide +kernel
theorem dX6_breakUp_10 : decode cX6_breakUp 10 = .ok (.aload_n 1, 1) := by decide +kernel
theorem dX6_breakUp_11 : decode cX6_breakUp 11 = .ok (.invokevirtual 76, 3) := by decide +kernel
theorem dX6_breakUp_14 : decode cX6_breakUp 14 = .ok (.iconst 0, 1) := by decide +kernel
theorem dX6_breakUp_15 : decode cX6_breakUp 15 = .ok (.istore_n 2, 1) := by decide +kernel
theorem dX6_breakUp_16 : decode cX6_breakUp 16 = .ok (.iload_n 2, 1) := by decide +kernel
theorem dX6_breakUp_17 : decode cX6_breakUp 17 = .ok (.aload_n 0, 1) := by decide +kernel
theorem dX6_breakUp_18 : decode cX6_breakUp 18 = .ok (.getfield 10, 3) := by decide +kernel
theorem dX6_breakUp_21 : decode cX6_breakUp 21 = .ok (.invokevirtual 16, 3) := by decide +kernel
theorem dX6_breakUp_24 : decode cX6_breakUp 24 = .ok (.if_icmp .ge 34, 3) := by decide +kernel
theorem dX6_breakUp_27 : decode cX6_breakUp 27 = .ok (.aload_n 0, 1) := by decide +kernel
theorem dX6_breakUp_28 : decode cX6_breakUp 28 = .ok (.getfield 10, 3) := by decide +kernel
theorem dX6_breakUp_31 : decode cX6_breakUp 31 = .ok (.iload_n 2, 1) := by decide +kernel
theorem dX6_breakUp_32 : decode cX6_breakUp 32 = .ok (.invokevirtual 31, 3) := by decide +kernel
theorem dX6_breakUp_35 : decode cX6_breakUp 35 = .ok (.checkcast 35, 3) := by decide +kernel
theorem dX6_breakUp_38 : decode cX6_breakUp 38 = .ok (.astore_n 3, 1) := by decide +kernel
theorem dX6_breakUp_39 : decode cX6_breakUp 39 = .ok (.aload_n 3, 1) := by decide +kernel
theorem dX6_breakUp_40 : decode cX6_breakUp 40 = .ok (.getfield 45, 3) := by decide +kernel
theorem dX6_breakUp_43 : decode cX6_breakUp 43 = .ok (.aload_n 1, 1) := by decide +kernel
theorem dX6_breakUp_44 : decode cX6_breakUp 44 = .ok (.if_acmp .ne 8, 3) := by decide +kernel
theorem dX6_breakUp_47 : decode cX6_breakUp 47 = .ok (.aload_n 3, 1) := by decide +kernel
theorem dX6_breakUp_48 : decode cX6_breakUp 48 = .ok (.aconst_null, 1) := by decide +kernel
theorem dX6_breakUp_49 : decode cX6_breakUp 49 = .ok (.putfield 45, 3) := by decide +kernel
theorem dX6_breakUp_52 : decode cX6_breakUp 52 = .ok (.iinc 2 1, 3) := by decide +kernel
theorem dX6_breakUp_55 : decode cX6_breakUp 55 = .ok (.goto (-39), 3) := by decide +kernel
theorem dX6_breakUp_58 : decode cX6_breakUp 58 = .ok (.return_, 1) := by decide +kernel
theorem dX6_bringBack_0 : decode cX6_bringBack 0 = .ok (.iconst 0, 1) := by decide +kernel
theorem dX6_bringBack_1 : decode cX6_bringBack 1 = .ok (.istore_n 2, 1) := by decide +kernel
theorem dX6_bringBack_2 : decode cX6_bringBack 2 = .ok (.iload_n 2, 1) := by decide +kernel
theorem dX6_bringBack_3 : decode cX6_bringBack 3 = .ok (.aload_n 0, 1) := by decide +kernel
theorem dX6_bringBack_4 : decode cX6_bringBack 4 = .ok (.getfield 10, 3) := by decide +kernel
theorem dX6_bringBack_7 : decode cX6_bringBack 7 = .ok (.invokevirtual 16, 3) := by decide +kernel
theorem dX6_bringBack_10 : decode cX6_bringBack 10 = .ok (.if_icmp .ge 50, 3) := by decide +kernel
theorem dX6_bringBack_13 : decode cX6_bringBack 13 = .ok (.aload_n 0, 1) := by decide +kernel
theorem dX6_bringBack_14 : decode cX6_bringBack 14 = .ok (.iload_n 1, 1) := by decide +kernel
theorem dX6_bringBack_15 : decode cX6_bringBack 15 = .ok (.invokevirtual 79, 3) := by decide +kernel
theorem dX6_bringBack_18 : decode cX6_bringBack 18 = .ok (.astore_n 3, 1) := by decide +kernel
theorem dX6_bringBack_19 : decode cX6_bringBack 19 = .ok (.aload_n 3, 1) := by decide +kernel
theorem dX6_bringBack_20 : decode cX6_bringBack 20 = .ok (.ifnonnull 4, 3) := by decide +kernel
theorem dX6_bringBack_23 : decode cX6_bringBack 23 = .ok (.return_, 1) := by decide +kernel
theorem dX6_bringBack_24 : decode cX6_bringBack 24 = .ok (.aload_n 3, 1) := by decide +kernel
theorem dX6_bringBack_25 : decode cX6_bringBack 25 = .ok (.getfield 83, 3) := by decide +kernel
theorem dX6_bringBack_28 : decode cX6_bringBack 28 = .ok (.astore 4, 2) := by decide +kernel
theorem dX6_bringBack_30 : decode cX6_bringBack 30 = .ok (.aload_n 3, 1) := by decide +kernel
theorem dX6_bringBack_31 : decode cX6_bringBack 31 = .ok (.getfield 86, 3) := by decide +kernel
theorem dX6_bringBack_34 : decode cX6_bringBack 34 = .ok (.istore 5, 2) := by decide +kernel
theorem dX6_bringBack_36 : decode cX6_bringBack 36 = .ok (.aload_n 3, 1) := by decide +kernel
theorem dX6_bringBack_37 : decode cX6_bringBack 37 = .ok (.aconst_null, 1) := by decide +kernel
theorem dX6_bringBack_38 : decode cX6_bringBack 38 = .ok (.putfield 45, 3) := by decide +kernel
theorem dX6_bringBack_41 : decode cX6_bringBack 41 = .ok (.aload_n 3, 1) := by decide +kernel
theorem dX6_bringBack_42 : decode cX6_bringBack 42 = .ok (.invokevirtual 76, 3) := by decide +kernel
theorem dX6_bringBack_45 : decode cX6_bringBack 45 = .ok (.aload_n 0, 1) := by decide +kernel
theorem dX6_bringBack_46 : decode cX6_bringBack 46 = .ok (.aload_n 3, 1) := by decide +kernel
theorem dX6_bringBack_47 : decode cX6_bringBack 47 = .ok (.aload 4, 2) := by decide +kernel
theorem dX6_bringBack_49 : decode cX6_bringBack 49 = .ok (.iload 5, 2) := by decide +kernel
theorem dX6_bringBack_51 : decode cX6_bringBack 51 = .ok (.invokevirtual 89, 3) := by decide +kernel
theorem dX6_bringBack_54 : decode cX6_bringBack 54 = .ok (.iinc 2 1, 3) := by decide +kernel
theorem dX6_bringBack_57 : decode cX6_bringBack 57 = .ok (.goto (-55), 3) := by decide +kernel
theorem dX6_bringBack_60 : decode cX6_bringBack 60 = .ok (.return_, 1) := by decide +kernel
theorem dX6_nextDue_0 : decode cX6_nextDue 0 = .ok (.aconst_null, 1) := by decide +kernel
theorem dX6_nextDue_1 : decode cX6_nextDue 1 = .ok (.astore_n 2, 1) := by decide +kernel
theorem dX6_nextDue_2 : decode cX6_nextDue 2 = .ok (.iconst 0, 1) := by decide +kernel
theorem dX6_nextDue_3 : decode cX6_nextDue 3 = .ok (.istore_n 3, 1) := by decide +kernel
theorem dX6_nextDue_4 : decode cX6_nextDue 4 = .ok (.iload_n 3, 1) := by decide +kernel
theorem dX6_nextDue_5 : decode cX6_nextDue 5 = .ok (.aload_n 0, 1) := by decide +kernel
theorem dX6_nextDue_6 : decode cX6_nextDue 6 = .ok (.getfield 10, 3) := by decide +kernel
theorem dX6_nextDue_9 : decode cX6_nextDue 9 = .ok (.invokevirtual 16, 3) := by decide +kernel
theorem dX6_nextDue_12 : decode cX6_nextDue 12 = .ok (.if_icmp .ge 58, 3) := by decide +kernel
theorem dX6_nextDue_15 : decode cX6_nextDue 15 = .ok (.aload_n 0, 1) := by decide +kernel
theorem dX6_nextDue_16 : decode cX6_nextDue 16 = .ok (.getfield 10, 3) := by decide +kernel
theorem dX6_nextDue_19 : decode cX6_nextDue 19 = .ok (.iload_n 3, 1) := by decide +kernel
theorem dX6_nextDue_20 : decode cX6_nextDue 20 = .ok (.invokevirtual 31, 3) := by decide +kernel
theorem dX6_nextDue_23 : decode cX6_nextDue 23 = .ok (.checkcast 35, 3) := by decide +kernel
theorem dX6_nextDue_26 : decode cX6_nextDue 26 = .ok (.astore 4, 2) := by decide +kernel
theorem dX6_nextDue_28 : decode cX6_nextDue 28 = .ok (.aload 4, 2) := by decide +kernel
theorem dX6_nextDue_30 : decode cX6_nextDue 30 = .ok (.invokevirtual 65, 3) := by decide +kernel
theorem dX6_nextDue_33 : decode cX6_nextDue 33 = .ok (.ifCond .eq 31, 3) := by decide +kernel
theorem dX6_nextDue_36 : decode cX6_nextDue 36 = .ok (.aload 4, 2) := by decide +kernel
theorem dX6_nextDue_38 : decode cX6_nextDue 38 = .ok (.getfield 86, 3) := by decide +kernel
theorem dX6_nextDue_41 : decode cX6_nextDue 41 = .ok (.iload_n 1, 1) := by decide +kernel
theorem dX6_nextDue_42 : decode cX6_nextDue 42 = .ok (.if_icmp .gt 22, 3) := by decide +kernel
theorem dX6_nextDue_45 : decode cX6_nextDue 45 = .ok (.aload_n 2, 1) := by decide +kernel
theorem dX6_nextDue_46 : decode cX6_nextDue 46 = .ok (.ifnull 15, 3) := by decide +kernel
theorem dX6_nextDue_49 : decode cX6_nextDue 49 = .ok (.aload 4, 2) := by decide +kernel
theorem dX6_nextDue_51 : decode cX6_nextDue 51 = .ok (.getfield 86, 3) := by decide +kernel
theorem dX6_nextDue_54 : decode cX6_nextDue 54 = .ok (.aload_n 2, 1) := by decide +kernel
theorem dX6_nextDue_55 : decode cX6_nextDue 55 = .ok (.getfield 86, 3) := by decide +kernel
theorem dX6_nextDue_58 : decode cX6_nextDue 58 = .ok (.if_icmp .ge 6, 3) := by decide +kernel
theorem dX6_nextDue_61 : decode cX6_nextDue 61 = .ok (.aload 4, 2) := by decide +kernel
theorem dX6_nextDue_63 : decode cX6_nextDue 63 = .ok (.astore_n 2, 1) := by decide +kernel
theorem dX6_nextDue_64 : decode cX6_nextDue 64 = .ok (.iinc 3 1, 3) := by decide +kernel
theorem dX6_nextDue_67 : decode cX6_nextDue 67 = .ok (.goto (-63), 3) := by decide +kernel
theorem dX6_nextDue_70 : decode cX6_nextDue 70 = .ok (.aload_n 2, 1) := by decide +kernel
theorem dX6_nextDue_71 : decode cX6_nextDue 71 = .ok (.areturn, 1) := by decide +kernel
theorem dX6_rightWithin_0 : decode cX6_rightWithin 0 = .ok (.iconst 0, 1) := by decide +kernel
theorem dX6_rightWithin_1 : decode cX6_rightWithin 1 = .ok (.istore_n 2, 1) := by decide +kernel
theorem dX6_rightWithin_2 : decode cX6_rightWithin 2 = .ok (.iconst 0, 1) := by decide +kernel
theorem dX6_rightWithin_3 : decode cX6_rightWithin 3 = .ok (.istore_n 3, 1) := by decide +kernel
theorem dX6_rightWithin_4 : decode cX6_rightWithin 4 = .ok (.iload_n 3, 1) := by decide +kernel
theorem dX6_rightWithin_5 : decode cX6_rightWithin 5 = .ok (.aload_n 0, 1) := by decide +kernel
theorem dX6_rightWithin_6 : decode cX6_rightWithin 6 = .ok (.getfield 10, 3) := by decide +kernel
theorem dX6_rightWithin_9 : decode cX6_rightWithin 9 = .ok (.invokevirtual 16, 3) := by decide +kernel
theorem dX6_rightWithin_12 : decode cX6_rightWithin 12 = .ok (.if_icmp .ge 30, 3) := by decide +kernel
theorem dX6_rightWithin_15 : decode cX6_rightWithin 15 = .ok (.aload_n 0, 1) := by decide +kernel
theorem dX6_rightWithin_16 : decode cX6_rightWithin 16 = .ok (.getfield 10, 3) := by decide +kernel
theorem dX6_rightWithin_19 : decode cX6_rightWithin 19 = .ok (.iload_n 3, 1) := by decide +kernel
theorem dX6_rightWithin_20 : decode cX6_rightWithin 20 = .ok (.invokevirtual 31, 3) := by decide +kernel
theorem dX6_rightWithin_23 : decode cX6_rightWithin 23 = .ok (.checkcast 35, 3) := by decide +kernel
theorem dX6_rightWithin_26 : decode cX6_rightWithin 26 = .ok (.getfield 45, 3) := by decide +kernel
theorem dX6_rightWithin_29 : decode cX6_rightWithin 29 = .ok (.aload_n 1, 1) := by decide +kernel
theorem dX6_rightWithin_30 : decode cX6_rightWithin 30 = .ok (.if_acmp .ne 6, 3) := by decide +kernel
theorem dX6_rightWithin_33 : decode cX6_rightWithin 33 = .ok (.iinc 2 1, 3) := by decide +kernel
theorem dX6_rightWithin_36 : decode cX6_rightWithin 36 = .ok (.iinc 3 1, 3) := by decide +kernel
theorem dX6_rightWithin_39 : decode cX6_rightWithin 39 = .ok (.goto (-35), 3) := by decide +kernel
theorem dX6_rightWithin_42 : decode cX6_rightWithin 42 = .ok (.iload_n 2, 1) := by decide +kernel
theorem dX6_rightWithin_43 : decode cX6_rightWithin 43 = .ok (.ireturn, 1) := by decide +kernel
theorem dX6_allWithin_0 : decode cX6_allWithin 0 = .ok (.iconst 0, 1) := by decide +kernel
theorem dX6_allWithin_1 : decode cX6_allWithin 1 = .ok (.istore_n 2, 1) := by decide +kernel
theorem dX6_allWithin_2 : decode cX6_allWithin 2 = .ok (.iconst 0, 1) := by decide +kernel
theorem dX6_allWithin_3 : decode cX6_allWithin 3 = .ok (.istore_n 3, 1) := by decide +kernel
theorem dX6_allWithin_4 : decode cX6_allWithin 4 = .ok (.iload_n 3, 1) := by decide +kernel
theorem dX6_allWithin_5 : decode cX6_allWithin 5 = .ok (.aload_n 0, 1) := by decide +kernel
theorem dX6_allWithin_6 : decode cX6_allWithin 6 = .ok (.getfield 10, 3) := by decide +kernel
theorem dX6_allWithin_9 : decode cX6_allWithin 9 = .ok (.invokevirtual 16, 3) := by decide +kernel
theorem dX6_allWithin_12 : decode cX6_allWithin 12 = .ok (.if_icmp .ge 30, 3) := by decide +kernel
theorem dX6_allWithin_15 : decode cX6_allWithin 15 = .ok (.aload_n 0, 1) := by decide +kernel
theorem dX6_allWithin_16 : decode cX6_allWithin 16 = .ok (.getfield 10, 3) := by decide +kernel
theorem dX6_allWithin_19 : decode cX6_allWithin 19 = .ok (.iload_n 3, 1) := by decide +kernel
theorem dX6_allWithin_20 : decode cX6_allWithin 20 = .ok (.invokevirtual 31, 3) := by decide +kernel
theorem dX6_allWithin_23 : decode cX6_allWithin 23 = .ok (.checkcast 35, 3) := by decide +kernel
theorem dX6_allWithin_26 : decode cX6_allWithin 26 = .ok (.aload_n 1, 1) := by decide +kernel
theorem dX6_allWithin_27 : decode cX6_allWithin 27 = .ok (.invokevirtual 49, 3) := by decide +kernel
theorem dX6_allWithin_30 : decode cX6_allWithin 30 = .ok (.ifCond .eq 6, 3) := by decide +kernel
theorem dX6_allWithin_33 : decode cX6_allWithin 33 = .ok (.iinc 2 1, 3) := by decide +kernel
theorem dX6_allWithin_36 : decode cX6_allWithin 36 = .ok (.iinc 3 1, 3) := by decide +kernel
theorem dX6_allWithin_39 : decode cX6_allWithin 39 = .ok (.goto (-35), 3) := by decide +kernel
theorem dX6_allWithin_42 : decode cX6_allWithin 42 = .ok (.iload_n 2, 1) := by decide +kernel
theorem dX6_allWithin_43 : decode cX6_allWithin 43 = .ok (.ireturn, 1) := by decide +kernel
theorem dX6_countBroken_0 : decode cX6_countBroken 0 = .ok (.iconst 0, 1) := by decide +kernel
theorem dX6_countBroken_1 : decode cX6_countBroken 1 = .ok (.istore_n 1, 1) := by decide +kernel
theorem dX6_countBroken_2 : decode cX6_countBroken 2 = .ok (.iconst 0, 1) := by decide +kernel
theorem dX6_countBroken_3 : decode cX6_countBroken 3 = .ok (.istore_n 2, 1) := by decide +kernel
theorem dX6_countBroken_4 : decode cX6_countBroken 4 = .ok (.iload_n 2, 1) := by decide +kernel
theorem dX6_countBroken_5 : decode cX6_countBroken 5 = .ok (.aload_n 0, 1) := by decide +kernel
theorem dX6_countBroken_6 : decode cX6_countBroken 6 = .ok (.getfield 10, 3) := by decide +kernel
theorem dX6_countBroken_9 : decode cX6_countBroken 9 = .ok (.invokevirtual 16, 3) := by decide +kernel
theorem dX6_countBroken_12 : decode cX6_countBroken 12 = .ok (.if_icmp .ge 29, 3) := by decide +kernel
theorem dX6_countBroken_15 : decode cX6_countBroken 15 = .ok (.aload_n 0, 1) := by decide +kernel
theorem dX6_countBroken_16 : decode cX6_countBroken 16 = .ok (.getfield 10, 3) := by decide +kernel
theorem dX6_countBroken_19 : decode cX6_countBroken 19 = .ok (.iload_n 2, 1) := by decide +kernel
theorem dX6_countBroken_20 : decode cX6_countBroken 20 = .ok (.invokevirtual 31, 3) := by decide +kernel
theorem dX6_countBroken_23 : decode cX6_countBroken 23 = .ok (.checkcast 35, 3) := by decide +kernel
theorem dX6_countBroken_26 : decode cX6_countBroken 26 = .ok (.invokevirtual 37, 3) := by decide +kernel
theorem dX6_countBroken_29 : decode cX6_countBroken 29 = .ok (.ifCond .eq 6, 3) := by decide +kernel
theorem dX6_countBroken_32 : decode cX6_countBroken 32 = .ok (.iinc 1 1, 3) := by decide +kernel
theorem dX6_countBroken_35 : decode cX6_countBroken 35 = .ok (.iinc 2 1, 3) := by decide +kernel
theorem dX6_countBroken_38 : decode cX6_countBroken 38 = .ok (.goto (-34), 3) := by decide +kernel
theorem dX6_countBroken_41 : decode cX6_countBroken 41 = .ok (.iload_n 1, 1) := by decide +kernel
theorem dX6_countBroken_42 : decode cX6_countBroken 42 = .ok (.ireturn, 1) := by decide +kernel
theorem dX6_countLent_0 : decode cX6_countLent 0 = .ok (.iconst 0, 1) := by decide +kernel
theorem dX6_countLent_1 : decode cX6_countLent 1 = .ok (.istore_n 1, 1) := by decide +kernel
theorem dX6_countLent_2 : decode cX6_countLent 2 = .ok (.iconst 0, 1) := by decide +kernel
theorem dX6_countLent_3 : decode cX6_countLent 3 = .ok (.istore_n 2, 1) := by decide +kernel
theorem dX6_countLent_4 : decode cX6_countLent 4 = .ok (.iload_n 2, 1) := by decide +kernel
theorem dX6_countLent_5 : decode cX6_countLent 5 = .ok (.aload_n 0, 1) := by decide +kernel
theorem dX6_countLent_6 : decode cX6_countLent 6 = .ok (.getfield 10, 3) := by decide +kernel
theorem dX6_countLent_9 : decode cX6_countLent 9 = .ok (.invokevirtual 16, 3) := by decide +kernel
theorem dX6_countLent_12 : decode cX6_countLent 12 = .ok (.if_icmp .ge 29, 3) := by decide +kernel
theorem dX6_countLent_15 : decode cX6_countLent 15 = .ok (.aload_n 0, 1) := by decide +kernel
theorem dX6_countLent_16 : decode cX6_countLent 16 = .ok (.getfield 10, 3) := by decide +kernel
theorem dX6_countLent_19 : decode cX6_countLent 19 = .ok (.iload_n 2, 1) := by decide +kernel
theorem dX6_countLent_20 : decode cX6_countLent 20 = .ok (.invokevirtual 31, 3) := by decide +kernel
theorem dX6_countLent_23 : decode cX6_countLent 23 = .ok (.checkcast 35, 3) := by decide +kernel
theorem dX6_countLent_26 : decode cX6_countLent 26 = .ok (.invokevirtual 65, 3) := by decide +kernel
theorem dX6_countLent_29 : decode cX6_countLent 29 = .ok (.ifCond .eq 6, 3) := by decide +kernel
theorem dX6_countLent_32 : decode cX6_countLent 32 = .ok (.iinc 1 1, 3) := by decide +kernel
theorem dX6_countLent_35 : decode cX6_countLent 35 = .ok (.iinc 2 1, 3) := by decide +kernel
theorem dX6_countLent_38 : decode cX6_countLent 38 = .ok (.goto (-34), 3) := by decide +kernel
theorem dX6_countLent_41 : decode cX6_countLent 41 = .ok (.iload_n 1, 1) := by decide +kernel
theorem dX6_countLent_42 : decode cX6_countLent 42 = .ok (.ireturn, 1) := by decide +kernel
theorem dX6_goesWith_0 : decode cX6_goesWith 0 = .ok (.aload_n 0, 1) := by decide +kernel
theorem dX6_goesWith_1 : decode cX6_goesWith 1 = .ok (.aload_n 1, 1) := by decide +kernel
theorem dX6_goesWith_2 : decode cX6_goesWith 2 = .ok (.if_acmp .eq 11, 3) := by decide +kernel
theorem dX6_goesWith_5 : decode cX6_goesWith 5 = .ok (.aload_n 0, 1) := by decide +kernel
theorem dX6_goesWith_6 : decode cX6_goesWith 6 = .ok (.aload_n 1, 1) := by decide +kernel
theorem dX6_goesWith_7 : decode cX6_goesWith 7 = .ok (.invokevirtual 49, 3) := by decide +kernel
theorem dX6_goesWith_10 : decode cX6_goesWith 10 = .ok (.ifCond .eq 7, 3) := by decide +kernel
theorem dX6_goesWith_13 : decode cX6_goesWith 13 = .ok (.iconst 1, 1) := by decide +kernel
theorem dX6_goesWith_14 : decode cX6_goesWith 14 = .ok (.goto 4, 3) := by decide +kernel
theorem dX6_goesWith_17 : decode cX6_goesWith 17 = .ok (.iconst 0, 1) := by decide +kernel
theorem dX6_goesWith_18 : decode cX6_goesWith 18 = .ok (.ireturn, 1) := by decide +kernel
theorem dX7_init_0 : decode cX7_init 0 = .ok (.aload_n 0, 1) := by decide +kernel
theorem dX7_init_1 : decode cX7_init 1 = .ok (.invokespecial 1, 3) := by decide +kernel
theorem dX7_init_4 : decode cX7_init 4 = .ok (.aload_n 0, 1) := by decide +kernel
theorem dX7_init_5 : decode cX7_init 5 = .ok (.new 7, 3) := by decide +kernel
theorem dX7_init_8 : decode cX7_init 8 = .ok (.dup, 1) := by decide +kernel
theorem dX7_init_9 : decode cX7_init 9 = .ok (.invokespecial 9, 3) := by decide +kernel
theorem dX7_init_12 : decode cX7_init 12 = .ok (.putfield 10, 3) := by decide +kernel
theorem dX7_init_15 : decode cX7_init 15 = .ok (.aload_n 0, 1) := by decide +kernel
theorem dX7_init_16 : decode cX7_init 16 = .ok (.new 7, 3) := by decide +kernel
theorem dX7_init_19 : decode cX7_init 19 = .ok (.dup, 1) := by decide +kernel
theorem dX7_init_20 : decode cX7_init 20 = .ok (.invokespecial 9, 3) := by decide +kernel
theorem dX7_init_23 : decode cX7_init 23 = .ok (.putfield 16, 3) := by decide +kernel
theorem dX7_init_26 : decode cX7_init 26 = .ok (.aload_n 0, 1) := by decide +kernel
theorem dX7_init_27 : decode cX7_init 27 = .ok (.new 7, 3) := by decide +kernel
theorem dX7_init_30 : decode cX7_init 30 = .ok (.dup, 1) := by decide +kernel
theorem dX7_init_31 : decode cX7_init 31 = .ok (.invokespecial 9, 3) := by decide +kernel
theorem dX7_init_34 : decode cX7_init 34 = .ok (.putfield 19, 3) := by decide +kernel
theorem dX7_init_37 : decode cX7_init 37 = .ok (.aload_n 0, 1) := by decide +kernel
theorem dX7_init_38 : decode cX7_init 38 = .ok (.new 22, 3) := by decide +kernel
theorem dX7_init_41 : decode cX7_init 41 = .ok (.dup, 1) := by decide +kernel
theorem dX7_init_42 : decode cX7_init 42 = .ok (.invokespecial 24, 3) := by decide +kernel
theorem dX7_init_45 : decode cX7_init 45 = .ok (.putfield 25, 3) := by decide +kernel
theorem dX7_init_48 : decode cX7_init 48 = .ok (.aload_n 0, 1) := by decide +kernel
theorem dX7_init_49 : decode cX7_init 49 = .ok (.new 29, 3) := by decide +kernel
theorem dX7_init_52 : decode cX7_init 52 = .ok (.dup, 1) := by decide +kernel
theorem dX7_init_53 : decode cX7_init 53 = .ok (.invokespecial 31, 3) := by decide +kernel
theorem dX7_init_56 : decode cX7_init 56 = .ok (.putfield 32, 3) := by decide +kernel
theorem dX7_init_59 : decode cX7_init 59 = .ok (.aload_n 0, 1) := by decide +kernel
theorem dX7_init_60 : decode cX7_init 60 = .ok (.iconst 4, 1) := by decide +kernel
theorem dX7_init_61 : decode cX7_init 61 = .ok (.newarray .int, 2) := by decide +kernel
theorem dX7_init_63 : decode cX7_init 63 = .ok (.putfield 36, 3) := by decide +kernel
theorem dX7_init_66 : decode cX7_init 66 = .ok (.aload_n 0, 1) := by decide +kernel
theorem dX7_init_67 : decode cX7_init 67 = .ok (.iconst 4, 1) := by decide +kernel
theorem dX7_init_68 : decode cX7_init 68 = .ok (.newarray .long, 2) := by decide +kernel
theorem dX7_init_70 : decode cX7_init 70 = .ok (.putfield 40, 3) := by decide +kernel
theorem dX7_init_73 : decode cX7_init 73 = .ok (.aload_n 0, 1) := by decide +kernel
theorem dX7_init_74 : decode cX7_init 74 = .ok (.iconst 4, 1) := by decide +kernel
theorem dX7_init_75 : decode cX7_init 75 = .ok (.newarray .long, 2) := by decide +kernel
theorem dX7_init_77 : decode cX7_init 77 = .ok (.putfield 44, 3) := by decide +kernel
theorem dX7_init_80 : decode cX7_init 80 = .ok (.return_, 1) := by decide +kernel
theorem dX7_player_0 : decode cX7_player 0 = .ok (.aload_n 0, 1) := by decide +kernel
theorem dX7_player_1 : decode cX7_player 1 = .ok (.getfield 10, 3) := by decide +kernel
theorem dX7_player_4 : decode cX7_player 4 = .ok (.invokevirtual 47, 3) := by decide +kernel
theorem dX7_player_7 : decode cX7_player 7 = .ok (.istore_n 1, 1) := by decide +kernel
theorem dX7_player_8 : decode cX7_player 8 = .ok (.iload_n 1, 1) := by decide +kernel
theorem dX7_player_9 : decode cX7_player 9 = .ok (.bipush 10, 2) := by decide +kernel
theorem dX7_player_11 : decode cX7_player 11 = .ok (.if_icmp .lt 13, 3) := by decide +kernel
theorem dX7_player_14 : decode cX7_player 14 = .ok (.new 51, 3) := by decide +kernel
theorem dX7_player_17 : decode cX7_player 17 = .ok (.dup, 1) := by decide +kernel
theorem dX7_player_18 : decode cX7_player 18 = .ok (.ldc 53, 2) := by decide +kernel
theorem dX7_player_20 : decode cX7_player 20 = .ok (.invokespecial 55, 3) := by decide +kernel
theorem dX7_player_23 : decode cX7_player 23 = .ok (.athrow, 1) := by decide +kernel
theorem dX7_player_24 : decode cX7_player 24 = .ok (.aload_n 0, 1) := by decide +kernel
theorem dX7_player_25 : decode cX7_player 25 = .ok (.getfield 10, 3) := by decide +kernel
theorem dX7_player_28 : decode cX7_player 28 = .ok (.new 58, 3) := by decide +kernel
theorem dX7_player_31 : decode cX7_player 31 = .ok (.dup, 1) := by decide +kernel
theorem dX7_player_32 : decode cX7_player 32 = .ok (.iload_n 1, 1) := by decide +kernel
theorem dX7_player_33 : decode cX7_player 33 = .ok (.invokespecial 60, 3) := by decide +kernel
theorem dX7_player_36 : decode cX7_player 36 = .ok (.invokevirtual 63, 3) := by decide +kernel
theorem dX7_player_39 : decode cX7_player 39 = .ok (.pop, 1) := by decide +kernel
theorem dX7_player_40 : decode cX7_player 40 = .ok (.iload_n 1, 1) := by decide +kernel
theorem dX7_player_41 : decode cX7_player 41 = .ok (.ireturn, 1) := by decide +kernel
theorem dX7_rule_0 : decode cX7_rule 0 = .ok (.aload_n 0, 1) := by decide +kernel
theorem dX7_rule_1 : decode cX7_rule 1 = .ok (.getfield 16, 3) := by decide +kernel
theorem dX7_rule_4 : decode cX7_rule 4 = .ok (.invokevirtual 47, 3) := by decide +kernel
theorem dX7_rule_7 : decode cX7_rule 7 = .ok (.istore_n 2, 1) := by decide +kernel
theorem dX7_rule_8 : decode cX7_rule 8 = .ok (.iload_n 2, 1) := by decide +kernel
theorem dX7_rule_9 : decode cX7_rule 9 = .ok (.bipush 10, 2) := by decide +kernel
theorem dX7_rule_11 : decode cX7_rule 11 = .ok (.if_icmp .lt 13, 3) := by decide +kernel
theorem dX7_rule_14 : decode cX7_rule 14 = .ok (.new 51, 3) := by decide +kernel
theorem dX7_rule_17 : decode cX7_rule 17 = .ok (.dup, 1) := by decide +kernel
theorem dX7_rule_18 : decode cX7_rule 18 = .ok (.ldc 67, 2) := by decide +kernel
theorem dX7_rule_20 : decode cX7_rule 20 = .ok (.invokespecial 55, 3) := by decide +kernel
theorem dX7_rule_23 : decode cX7_rule 23 = .ok (.athrow, 1) := by decide +kernel
theorem dX7_rule_24 : decode cX7_rule 24 = .ok (.aload_n 0, 1) := by decide +kernel
theorem dX7_rule_25 : decode cX7_rule 25 = .ok (.getfield 16, 3) := by decide +kernel
theorem dX7_rule_28 : decode cX7_rule 28 = .ok (.new 69, 3) := by decide +kernel
theorem dX7_rule_31 : decode cX7_rule 31 = .ok (.dup, 1) := by decide +kernel
theorem dX7_rule_32 : decode cX7_rule 32 = .ok (.iload_n 1, 1) := by decide +kernel
theorem dX7_rule_33 : decode cX7_rule 33 = .ok (.invokespecial 71, 3) := by decide +kernel
theorem dX7_rule_36 : decode cX7_rule 36 = .ok (.invokevirtual 63, 3) := by decide +kernel
theorem dX7_rule_39 : decode cX7_rule 39 = .ok (.pop, 1) := by decide +kernel
theorem dX7_rule_40 : decode cX7_rule 40 = .ok (.iload_n 2, 1) := by decide +kernel
theorem dX7_rule_41 : decode cX7_rule 41 = .ok (.ireturn, 1) := by decide +kernel
theorem dX7_part_0 : decode cX7_part 0 = .ok (.aload_n 0, 1) := by decide +kernel
theorem dX7_part_1 : decode cX7_part 1 = .ok (.iload_n 1, 1) := by decide +kernel
theorem dX7_part_2 : decode cX7_part 2 = .ok (.invokevirtual 74, 3) := by decide +kernel
theorem dX7_part_5 : decode cX7_part 5 = .ok (.astore 5, 2) := by decide +kernel
theorem dX7_part_7 : decode cX7_part 7 = .ok (.iload_n 2, 1) := by decide +kernel
theorem dX7_part_8 : decode cX7_part 8 = .ok (.invokestatic 78, 3) := by decide +kernel
theorem dX7_part_11 : decode cX7_part 11 = .ok (.iload 4, 2) := by decide +kernel
theorem dX7_part_13 : decode cX7_part 13 = .ok (.iconst 0, 1) := by decide +kernel
theorem dX7_part_14 : decode cX7_part 14 = .ok (.bipush 9, 2) := by decide +kernel
theorem dX7_part_16 : decode cX7_part 16 = .ok (.invokestatic 81, 3) := by decide +kernel
theorem dX7_part_19 : decode cX7_part 19 = .ok (.iload_n 3, 1) := by decide +kernel
theorem dX7_part_20 : decode cX7_part 20 = .ok (.ifCond .eq 15, 3) := by decide +kernel
theorem dX7_part_23 : decode cX7_part 23 = .ok (.aload 5, 2) := by decide +kernel
theorem dX7_part_25 : decode cX7_part 25 = .ok (.getfield 85, 3) := by decide +kernel
theorem dX7_part_28 : decode cX7_part 28 = .ok (.iload_n 2, 1) := by decide +kernel
theorem dX7_part_29 : decode cX7_part 29 = .ok (.iload 4, 2) := by decide +kernel
theorem dX7_part_31 : decode cX7_part 31 = .ok (.iastore, 1) := by decide +kernel
theorem dX7_part_32 : decode cX7_part 32 = .ok (.goto 12, 3) := by decide +kernel
theorem dX7_part_35 : decode cX7_part 35 = .ok (.aload 5, 2) := by decide +kernel
theorem dX7_part_37 : decode cX7_part 37 = .ok (.getfield 88, 3) := by decide +kernel
theorem dX7_part_40 : decode cX7_part 40 = .ok (.iload_n 2, 1) := by decide +kernel
theorem dX7_part_41 : decode cX7_part 41 = .ok (.iload 4, 2) := by decide +kernel
theorem dX7_part_43 : decode cX7_part 43 = .ok (.iastore, 1) := by decide +kernel
theorem dX7_part_44 : decode cX7_part 44 = .ok (.return_, 1) := by decide +kernel
theorem dX7_deed_0 : decode cX7_deed 0 = .ok (.aload_n 0, 1) := by decide +kernel
theorem dX7_deed_1 : decode cX7_deed 1 = .ok (.iload_n 1, 1) := by decide +kernel
theorem dX7_deed_2 : decode cX7_deed 2 = .ok (.invokevirtual 91, 3) := by decide +kernel
theorem dX7_deed_5 : decode cX7_deed 5 = .ok (.astore 5, 2) := by decide +kernel
theorem dX7_deed_7 : decode cX7_deed 7 = .ok (.aload_n 0, 1) := by decide +kernel
theorem dX7_deed_8 : decode cX7_deed 8 = .ok (.iload_n 3, 1) := by decide +kernel
theorem dX7_deed_9 : decode cX7_deed 9 = .ok (.invokevirtual 74, 3) := by decide +kernel
theorem dX7_deed_12 : decode cX7_deed 12 = .ok (.astore 6, 2) := by decide +kernel
theorem dX7_deed_14 : decode cX7_deed 14 = .ok (.iload 4, 2) := by decide +kernel
theorem dX7_deed_16 : decode cX7_deed 16 = .ok (.iconst 1, 1) := by decide +kernel
theorem dX7_deed_17 : decode cX7_deed 17 = .ok (.sipush 1000, 3) := by decide +kernel
theorem dX7_deed_20 : decode cX7_deed 20 = .ok (.invokestatic 81, 3) := by decide +kernel
theorem dX7_deed_23 : decode cX7_deed 23 = .ok (.aload 5, 2) := by decide +kernel
theorem dX7_deed_25 : decode cX7_deed 25 = .ok (.getfield 95, 3) := by decide +kernel
theorem dX7_deed_28 : decode cX7_deed 28 = .ok (.ifCond .le 18, 3) := by decide +kernel
theorem dX7_deed_31 : decode cX7_deed 31 = .ok (.iload_n 2, 1) := by decide +kernel
theorem dX7_deed_32 : decode cX7_deed 32 = .ok (.aload 5, 2) := by decide +kernel
theorem dX7_deed_34 : decode cX7_deed 34 = .ok (.getfield 95, 3) := by decide +kernel
theorem dX7_deed_37 : decode cX7_deed 37 = .ok (.if_icmp .ne 9, 3) := by decide +kernel
theorem dX7_deed_40 : decode cX7_deed 40 = .ok (.aload 5, 2) := by decide +kernel
theorem dX7_deed_42 : decode cX7_deed 42 = .ok (.getfield 99, 3) := by decide +kernel
theorem dX7_deed_45 : decode cX7_deed 45 = .ok (.ireturn, 1) := by decide +kernel
theorem dX7_deed_46 : decode cX7_deed 46 = .ok (.iload_n 2, 1) := by decide +kernel
theorem dX7_deed_47 : decode cX7_deed 47 = .ok (.aload 5, 2) := by decide +kernel
theorem dX7_deed_49 : decode cX7_deed 49 = .ok (.getfield 95, 3) := by decide +kernel
theorem dX7_deed_52 : decode cX7_deed 52 = .ok (.iconst 1, 1) := by decide +kernel
theorem dX7_deed_53 : decode cX7_deed 53 = .ok (.iadd, 1) := by decide +kernel
theorem dX7_deed_54 : decode cX7_deed 54 = .ok (.if_icmp .eq 5, 3) := by decide +kernel
theorem dX7_deed_57 : decode cX7_deed 57 = .ok (.iconst 3, 1) := by decide +kernel
theorem dX7_deed_58 : decode cX7_deed 58 = .ok (.ireturn, 1) := by decide +kernel
theorem dX7_deed_59 : decode cX7_deed 59 = .ok (.aload 5, 2) := by decide +kernel
theorem dX7_deed_61 : decode cX7_deed 61 = .ok (.aload 6, 2) := by decide +kernel
theorem dX7_deed_63 : decode cX7_deed 63 = .ok (.iload 4, 2) := by decide +kernel
theorem dX7_deed_65 : decode cX7_deed 65 = .ok (.invokevirtual 102, 3) := by decide +kernel
theorem dX7_deed_68 : decode cX7_deed 68 = .ok (.istore 7, 2) := by decide +kernel
theorem dX7_deed_70 : decode cX7_deed 70 = .ok (.aload 5, 2) := by decide +kernel
theorem dX7_deed_72 : decode cX7_deed 72 = .ok (.iload_n 2, 1) := by decide +kernel
theorem dX7_deed_73 : decode cX7_deed 73 = .ok (.putfield 95, 3) := by decide +kernel
theorem dX7_deed_76 : decode cX7_deed 76 = .ok (.aload 5, 2) := by decide +kernel
theorem dX7_deed_78 : decode cX7_deed 78 = .ok (.iload 7, 2) := by decide +kernel
theorem dX7_deed_80 : decode cX7_deed 80 = .ok (.putfield 99, 3) := by decide +kernel
theorem dX7_deed_83 : decode cX7_deed 83 = .ok (.iload 7, 2) := by decide +kernel
theorem dX7_deed_85 : decode cX7_deed 85 = .ok (.ifCond .ne 13, 3) := by decide +kernel
theorem dX7_deed_88 : decode cX7_deed 88 = .ok (.aload_n 0, 1) := by decide +kernel
theorem dX7_deed_89 : decode cX7_deed 89 = .ok (.aload 5, 2) := by decide +kernel
theorem dX7_deed_91 : decode cX7_deed 91 = .ok (.aload 6, 2) := by decide +kernel
theorem dX7_deed_93 : decode cX7_deed 93 = .ok (.iload 4, 2) := by decide +kernel
theorem dX7_deed_95 : decode cX7_deed 95 = .ok (.invokevirtual 106, 3) := by decide +kernel
theorem dX7_deed_98 : decode cX7_deed 98 = .ok (.iload 7, 2) := by decide +kernel
theorem dX7_deed_100 : decode cX7_deed 100 = .ok (.ireturn, 1) := by decide +kernel
theorem dX7_has_0 : decode cX7_has 0 = .ok (.aload_n 0, 1) := by decide +kernel
theorem dX7_has_1 : decode cX7_has 1 = .ok (.iload_n 1, 1) := by decide +kernel
theorem dX7_has_2 : decode cX7_has 2 = .ok (.invokevirtual 91, 3) := by decide +kernel
theorem dX7_has_5 : decode cX7_has 5 = .ok (.astore_n 3, 1) := by decide +kernel
theorem dX7_has_6 : decode cX7_has 6 = .ok (.iload_n 2, 1) := by decide +kernel
theorem dX7_has_7 : decode cX7_has 7 = .ok (.invokestatic 78, 3) := by decide +kernel
theorem dX7_has_10 : decode cX7_has 10 = .ok (.aload_n 3, 1) := by decide +kernel
theorem dX7_has_11 : decode cX7_has 11 = .ok (.getfield 110, 3) := by decide +kernel
theorem dX7_has_14 : decode cX7_has 14 = .ok (.iload_n 2, 1) := by decide +kernel
theorem dX7_has_15 : decode cX7_has 15 = .ok (.iaload, 1) := by decide +kernel
theorem dX7_has_16 : decode cX7_has 16 = .ok (.ireturn, 1) := by decide +kernel
theorem dX7_sum_0 : decode cX7_sum 0 = .ok (.iload_n 1, 1) := by decide +kernel
theorem dX7_sum_1 : decode cX7_sum 1 = .ok (.invokestatic 78, 3) := by decide +kernel
theorem dX7_sum_4 : decode cX7_sum 4 = .ok (.iload_n 2, 1) := by decide +kernel
theorem dX7_sum_5 : decode cX7_sum 5 = .ok (.ifCond .eq 12, 3) := by decide +kernel
theorem dX7_sum_8 : decode cX7_sum 8 = .ok (.aload_n 0, 1) := by decide +kernel
theorem dX7_sum_9 : decode cX7_sum 9 = .ok (.getfield 44, 3) := by decide +kernel
theorem dX7_sum_12 : decode cX7_sum 12 = .ok (.iload_n 1, 1) := by decide +kernel
theorem dX7_sum_13 : decode cX7_sum 13 = .ok (.laload, 1) := by decide +kernel
theorem dX7_sum_14 : decode cX7_sum 14 = .ok (.goto 9, 3) := by decide +kernel
theorem dX7_sum_17 : decode cX7_sum 17 = .ok (.aload_n 0, 1) := by decide +kernel
theorem dX7_sum_18 : decode cX7_sum 18 = .ok (.getfield 40, 3) := by decide +kernel
theorem dX7_sum_21 : decode cX7_sum 21 = .ok (.iload_n 1, 1) := by decide +kernel
theorem dX7_sum_22 : decode cX7_sum 22 = .ok (.laload, 1) := by decide +kernel
theorem dX7_sum_23 : decode cX7_sum 23 = .ok (.lreturn, 1) := by decide +kernel
theorem dX7_carryOut_0 : decode cX7_carryOut 0 = .ok (.iconst 0, 1) := by decide +kernel
theorem dX7_carryOut_1 : decode cX7_carryOut 1 = .ok (.istore 4, 2) := by decide +kernel
theorem dX7_carryOut_3 : decode cX7_carryOut 3 = .ok (.iload 4, 2) := by decide +kernel
theorem dX7_carryOut_5 : decode cX7_carryOut 5 = .ok (.iconst 4, 1) := by decide +kernel
theorem dX7_carryOut_6 : decode cX7_carryOut 6 = .ok (.if_icmp .ge 72, 3) := by decide +kernel
theorem dX7_carryOut_9 : decode cX7_carryOut 9 = .ok (.aload_n 2, 1) := by decide +kernel
theorem dX7_carryOut_10 : decode cX7_carryOut 10 = .ok (.getfield 88, 3) := by decide +kernel
theorem dX7_carryOut_13 : decode cX7_carryOut 13 = .ok (.iload 4, 2) := by decide +kernel
theorem dX7_carryOut_15 : decode cX7_carryOut 15 = .ok (.iaload, 1) := by decide +kernel
theorem dX7_carryOut_16 : decode cX7_carryOut 16 = .ok (.iload_n 3, 1) := by decide +kernel
theorem dX7_carryOut_17 : decode cX7_carryOut 17 = .ok (.imul, 1) := by decide +kernel
theorem dX7_carryOut_18 : decode cX7_carryOut 18 = .ok (.istore 5, 2) := by decide +kernel
theorem dX7_carryOut_20 : decode cX7_carryOut 20 = .ok (.aload_n 2, 1) := by decide +kernel
theorem dX7_carryOut_21 : decode cX7_carryOut 21 = .ok (.getfield 85, 3) := by decide +kernel
theorem dX7_carryOut_24 : decode cX7_carryOut 24 = .ok (.iload 4, 2) := by decide +kernel
theorem dX7_carryOut_26 : decode cX7_carryOut 26 = .ok (.iaload, 1) := by decide +kernel
theorem dX7_carryOut_27 : decode cX7_carryOut 27 = .ok (.iload_n 3, 1) := by decide +kernel
theorem dX7_carryOut_28 : decode cX7_carryOut 28 = .ok (.imul, 1) := by decide +kernel
theorem dX7_carryOut_29 : decode cX7_carryOut 29 = .ok (.istore 6, 2) := by decide +kernel
theorem dX7_carryOut_31 : decode cX7_carryOut 31 = .ok (.aload_n 1, 1) := by decide +kernel
theorem dX7_carryOut_32 : decode cX7_carryOut 32 = .ok (.getfield 110, 3) := by decide +kernel
theorem dX7_carryOut_35 : decode cX7_carryOut 35 = .ok (.iload 4, 2) := by decide +kernel
theorem dX7_carryOut_37 : decode cX7_carryOut 37 = .ok (.dup2, 1) := by decide +kernel
theorem dX7_carryOut_38 : decode cX7_carryOut 38 = .ok (.iaload, 1) := by decide +kernel
theorem dX7_carryOut_39 : decode cX7_carryOut 39 = .ok (.iload 6, 2) := by decide +kernel
theorem dX7_carryOut_41 : decode cX7_carryOut 41 = .ok (.iload 5, 2) := by decide +kernel
theorem dX7_carryOut_43 : decode cX7_carryOut 43 = .ok (.isub, 1) := by decide +kernel
theorem dX7_carryOut_44 : decode cX7_carryOut 44 = .ok (.iadd, 1) := by decide +kernel
theorem dX7_carryOut_45 : decode cX7_carryOut 45 = .ok (.iastore, 1) := by decide +kernel
theorem dX7_carryOut_46 : decode cX7_carryOut 46 = .ok (.aload_n 0, 1) := by decide +kernel
theorem dX7_carryOut_47 : decode cX7_carryOut 47 = .ok (.getfield 44, 3) := by decide +kernel
theorem dX7_carryOut_50 : decode cX7_carryOut 50 = .ok (.iload 4, 2) := by decide +kernel
theorem dX7_carryOut_52 : decode cX7_carryOut 52 = .ok (.dup2, 1) := by decide +kernel
theorem dX7_carryOut_53 : decode cX7_carryOut 53 = .ok (.laload, 1) := by decide +kernel
theorem dX7_carryOut_54 : decode cX7_carryOut 54 = .ok (.iload 5, 2) := by decide +kernel
theorem dX7_carryOut_56 : decode cX7_carryOut 56 = .ok (.i2l, 1) := by decide +kernel
theorem dX7_carryOut_57 : decode cX7_carryOut 57 = .ok (.ladd, 1) := by decide +kernel
theorem dX7_carryOut_58 : decode cX7_carryOut 58 = .ok (.lastore, 1) := by decide +kernel
theorem dX7_carryOut_59 : decode cX7_carryOut 59 = .ok (.aload_n 0, 1) := by decide +kernel
theorem dX7_carryOut_60 : decode cX7_carryOut 60 = .ok (.getfield 40, 3) := by decide +kernel
theorem dX7_carryOut_63 : decode cX7_carryOut 63 = .ok (.iload 4, 2) := by decide +kernel
theorem dX7_carryOut_65 : decode cX7_carryOut 65 = .ok (.dup2, 1) := by decide +kernel
theorem dX7_carryOut_66 : decode cX7_carryOut 66 = .ok (.laload, 1) := by decide +kernel
theorem dX7_carryOut_67 : decode cX7_carryOut 67 = .ok (.iload 6, 2) := by decide +kernel
theorem dX7_carryOut_69 : decode cX7_carryOut 69 = .ok (.i2l, 1) := by decide +kernel
theorem dX7_carryOut_70 : decode cX7_carryOut 70 = .ok (.ladd, 1) := by decide +kernel
theorem dX7_carryOut_71 : decode cX7_carryOut 71 = .ok (.lastore, 1) := by decide +kernel
theorem dX7_carryOut_72 : decode cX7_carryOut 72 = .ok (.iinc 4 1, 3) := by decide +kernel
theorem dX7_carryOut_75 : decode cX7_carryOut 75 = .ok (.goto (-72), 3) := by decide +kernel
theorem dX7_carryOut_78 : decode cX7_carryOut 78 = .ok (.aload_n 0, 1) := by decide +kernel
theorem dX7_carryOut_79 : decode cX7_carryOut 79 = .ok (.dup, 1) := by decide +kernel
theorem dX7_carryOut_80 : decode cX7_carryOut 80 = .ok (.getfield 113, 3) := by decide +kernel
theorem dX7_carryOut_83 : decode cX7_carryOut 83 = .ok (.iconst 1, 1) := by decide +kernel
theorem dX7_carryOut_84 : decode cX7_carryOut 84 = .ok (.iadd, 1) := by decide +kernel
theorem dX7_carryOut_85 : decode cX7_carryOut 85 = .ok (.putfield 113, 3) := by decide +kernel
theorem dX7_carryOut_88 : decode cX7_carryOut 88 = .ok (.return_, 1) := by decide +kernel
theorem dX7_single_0 : decode cX7_single 0 = .ok (.aload_n 0, 1) := by decide +kernel
theorem dX7_single_1 : decode cX7_single 1 = .ok (.iload_n 1, 1) := by decide +kernel
theorem dX7_single_2 : decode cX7_single 2 = .ok (.invokevirtual 91, 3) := by decide +kernel
theorem dX7_single_5 : decode cX7_single 5 = .ok (.astore 4, 2) := by decide +kernel
theorem dX7_single_7 : decode cX7_single 7 = .ok (.iload_n 3, 1) := by decide +kernel
theorem dX7_single_8 : decode cX7_single 8 = .ok (.iconst 0, 1) := by decide +kernel
theorem dX7_single_9 : decode cX7_single 9 = .ok (.bipush 8, 2) := by decide +kernel
theorem dX7_single_11 : decode cX7_single 11 = .ok (.invokestatic 81, 3) := by decide +kernel
theorem dX7_single_14 : decode cX7_single 14 = .ok (.aload_n 0, 1) := by decide +kernel
theorem dX7_single_15 : decode cX7_single 15 = .ok (.getfield 25, 3) := by decide +kernel
theorem dX7_single_18 : decode cX7_single 18 = .ok (.invokevirtual 116, 3) := by decide +kernel
theorem dX7_single_21 : decode cX7_single 21 = .ok (.istore 5, 2) := by decide +kernel
theorem dX7_single_23 : decode cX7_single 23 = .ok (.iload 5, 2) := by decide +kernel
theorem dX7_single_25 : decode cX7_single 25 = .ok (.bipush 40, 2) := by decide +kernel
theorem dX7_single_27 : decode cX7_single 27 = .ok (.if_icmp .lt 13, 3) := by decide +kernel
theorem dX7_single_30 : decode cX7_single 30 = .ok (.new 51, 3) := by decide +kernel
theorem dX7_single_33 : decode cX7_single 33 = .ok (.dup, 1) := by decide +kernel
theorem dX7_single_34 : decode cX7_single 34 = .ok (.ldc 117, 2) := by decide +kernel
theorem dX7_single_36 : decode cX7_single 36 = .ok (.invokespecial 55, 3) := by decide +kernel
theorem dX7_single_39 : decode cX7_single 39 = .ok (.athrow, 1) := by decide +kernel
theorem dX7_single_40 : decode cX7_single 40 = .ok (.new 119, 3) := by decide +kernel
theorem dX7_single_43 : decode cX7_single 43 = .ok (.dup, 1) := by decide +kernel
theorem dX7_single_44 : decode cX7_single 44 = .ok (.iload 5, 2) := by decide +kernel
theorem dX7_single_46 : decode cX7_single 46 = .ok (.iload_n 2, 1) := by decide +kernel
theorem dX7_single_47 : decode cX7_single 47 = .ok (.iload_n 3, 1) := by decide +kernel
theorem dX7_single_48 : decode cX7_single 48 = .ok (.invokespecial 121, 3) := by decide +kernel
theorem dX7_single_51 : decode cX7_single 51 = .ok (.astore 6, 2) := by decide +kernel
theorem dX7_single_53 : decode cX7_single 53 = .ok (.aload 6, 2) := by decide +kernel
theorem dX7_single_55 : decode cX7_single 55 = .ok (.aload 4, 2) := by decide +kernel
theorem dX7_single_57 : decode cX7_single 57 = .ok (.aload_n 0, 1) := by decide +kernel
theorem dX7_single_58 : decode cX7_single 58 = .ok (.getfield 124, 3) := by decide +kernel
theorem dX7_single_61 : decode cX7_single 61 = .ok (.invokevirtual 127, 3) := by decide +kernel
theorem dX7_single_64 : decode cX7_single 64 = .ok (.aload_n 0, 1) := by decide +kernel
theorem dX7_single_65 : decode cX7_single 65 = .ok (.getfield 25, 3) := by decide +kernel
theorem dX7_single_68 : decode cX7_single 68 = .ok (.aload 6, 2) := by decide +kernel
theorem dX7_single_70 : decode cX7_single 70 = .ok (.invokevirtual 131, 3) := by decide +kernel
theorem dX7_single_73 : decode cX7_single 73 = .ok (.iload 5, 2) := by decide +kernel
theorem dX7_single_75 : decode cX7_single 75 = .ok (.ireturn, 1) := by decide +kernel
theorem dX7_put_0 : decode cX7_put 0 = .ok (.aload_n 0, 1) := by decide +kernel
theorem dX7_put_1 : decode cX7_put 1 = .ok (.getfield 25, 3) := by decide +kernel
theorem dX7_put_4 : decode cX7_put 4 = .ok (.iload_n 1, 1) := by decide +kernel
theorem dX7_put_5 : decode cX7_put 5 = .ok (.invokevirtual 134, 3) := by decide +kernel
theorem dX7_put_8 : decode cX7_put 8 = .ok (.astore_n 3, 1) := by decide +kernel
theorem dX7_put_9 : decode cX7_put 9 = .ok (.aload_n 0, 1) := by decide +kernel
theorem dX7_put_10 : decode cX7_put 10 = .ok (.getfield 25, 3) := by decide +kernel
theorem dX7_put_13 : decode cX7_put 13 = .ok (.iload_n 2, 1) := by decide +kernel
theorem dX7_put_14 : decode cX7_put 14 = .ok (.invokevirtual 134, 3) := by decide +kernel
theorem dX7_put_17 : decode cX7_put 17 = .ok (.astore 4, 2) := by decide +kernel
theorem dX7_put_19 : decode cX7_put 19 = .ok (.aload_n 0, 1) := by decide +kernel
theorem dX7_put_20 : decode cX7_put 20 = .ok (.getfield 25, 3) := by decide +kernel
theorem dX7_put_23 : decode cX7_put 23 = .ok (.aload_n 3, 1) := by decide +kernel
theorem dX7_put_24 : decode cX7_put 24 = .ok (.aload 4, 2) := by decide +kernel
theorem dX7_put_26 : decode cX7_put 26 = .ok (.invokevirtual 138, 3) := by decide +kernel
theorem dX7_put_29 : decode cX7_put 29 = .ok (.ifCond .ne 5, 3) := by decide +kernel
theorem dX7_put_32 : decode cX7_put 32 = .ok (.iconst 0, 1) := by decide +kernel
theorem dX7_put_33 : decode cX7_put 33 = .ok (.ireturn, 1) := by decide +kernel
theorem dX7_put_34 : decode cX7_put 34 = .ok (.aload_n 3, 1) := by decide +kernel
theorem dX7_put_35 : decode cX7_put 35 = .ok (.aload 4, 2) := by decide +kernel
theorem dX7_put_37 : decode cX7_put 37 = .ok (.putfield 142, 3) := by decide +kernel
theorem dX7_put_40 : decode cX7_put 40 = .ok (.iconst 1, 1) := by decide +kernel
theorem dX7_put_41 : decode cX7_put 41 = .ok (.ireturn, 1) := by decide +kernel
theorem dX7_take_0 : decode cX7_take 0 = .ok (.aload_n 0, 1) := by decide +kernel
theorem dX7_take_1 : decode cX7_take 1 = .ok (.getfield 25, 3) := by decide +kernel
theorem dX7_take_4 : decode cX7_take 4 = .ok (.iload_n 1, 1) := by decide +kernel
theorem dX7_take_5 : decode cX7_take 5 = .ok (.invokevirtual 134, 3) := by decide +kernel
theorem dX7_take_8 : decode cX7_take 8 = .ok (.astore_n 2, 1) := by decide +kernel
theorem dX7_take_9 : decode cX7_take 9 = .ok (.aload_n 2, 1) := by decide +kernel
theorem dX7_take_10 : decode cX7_take 10 = .ok (.getfield 142, 3) := by decide +kernel
theorem dX7_take_13 : decode cX7_take 13 = .ok (.ifnonnull 5, 3) := by decide +kernel
theorem dX7_take_16 : decode cX7_take 16 = .ok (.iconst 0, 1) := by decide +kernel
theorem dX7_take_17 : decode cX7_take 17 = .ok (.ireturn, 1) := by decide +kernel
theorem dX7_take_18 : decode cX7_take 18 = .ok (.aload_n 2, 1) := by decide +kernel
theorem dX7_take_19 : decode cX7_take 19 = .ok (.aconst_null, 1) := by decide +kernel
theorem dX7_take_20 : decode cX7_take 20 = .ok (.putfield 142, 3) := by decide +kernel
theorem dX7_take_23 : decode cX7_take 23 = .ok (.iconst 1, 1) := by decide +kernel
theorem dX7_take_24 : decode cX7_take 24 = .ok (.ireturn, 1) := by decide +kernel
theorem dX7_give_0 : decode cX7_give 0 = .ok (.aload_n 0, 1) := by decide +kernel
theorem dX7_give_1 : decode cX7_give 1 = .ok (.getfield 25, 3) := by decide +kernel
theorem dX7_give_4 : decode cX7_give 4 = .ok (.iload_n 1, 1) := by decide +kernel
theorem dX7_give_5 : decode cX7_give 5 = .ok (.invokevirtual 134, 3) := by decide +kernel
theorem dX7_give_8 : decode cX7_give 8 = .ok (.astore_n 3, 1) := by decide +kernel
theorem dX7_give_9 : decode cX7_give 9 = .ok (.aload_n 0, 1) := by decide +kernel
theorem dX7_give_10 : decode cX7_give 10 = .ok (.iload_n 2, 1) := by decide +kernel
theorem dX7_give_11 : decode cX7_give 11 = .ok (.invokevirtual 91, 3) := by decide +kernel
theorem dX7_give_14 : decode cX7_give 14 = .ok (.astore 4, 2) := by decide +kernel
theorem dX7_give_16 : decode cX7_give 16 = .ok (.aload_n 3, 1) := by decide +kernel
theorem dX7_give_17 : decode cX7_give 17 = .ok (.getfield 146, 3) := by decide +kernel
theorem dX7_give_20 : decode cX7_give 20 = .ok (.aload 4, 2) := by decide +kernel
theorem dX7_give_22 : decode cX7_give 22 = .ok (.if_acmp .eq 14, 3) := by decide +kernel
theorem dX7_give_25 : decode cX7_give 25 = .ok (.aload_n 0, 1) := by decide +kernel
theorem dX7_give_26 : decode cX7_give 26 = .ok (.getfield 25, 3) := by decide +kernel
theorem dX7_give_29 : decode cX7_give 29 = .ok (.aload_n 3, 1) := by decide +kernel
theorem dX7_give_30 : decode cX7_give 30 = .ok (.invokevirtual 150, 3) := by decide +kernel
theorem dX7_give_33 : decode cX7_give 33 = .ok (.ifCond .ne 5, 3) := by decide +kernel
theorem dX7_give_36 : decode cX7_give 36 = .ok (.iconst 0, 1) := by decide +kernel
theorem dX7_give_37 : decode cX7_give 37 = .ok (.ireturn, 1) := by decide +kernel
theorem dX7_give_38 : decode cX7_give 38 = .ok (.aload_n 0, 1) := by decide +kernel
theorem dX7_give_39 : decode cX7_give 39 = .ok (.getfield 25, 3) := by decide +kernel
theorem dX7_give_42 : decode cX7_give 42 = .ok (.aload_n 3, 1) := by decide +kernel
theorem dX7_give_43 : decode cX7_give 43 = .ok (.aload 4, 2) := by decide +kernel
theorem dX7_give_45 : decode cX7_give 45 = .ok (.aload_n 0, 1) := by decide +kernel
theorem dX7_give_46 : decode cX7_give 46 = .ok (.getfield 124, 3) := by decide +kernel
theorem dX7_give_49 : decode cX7_give 49 = .ok (.invokevirtual 154, 3) := by decide +kernel
theorem dX7_give_52 : decode cX7_give 52 = .ok (.iconst 1, 1) := by decide +kernel
theorem dX7_give_53 : decode cX7_give 53 = .ok (.ireturn, 1) := by decide +kernel
theorem dX7_lend_0 : decode cX7_lend 0 = .ok (.aload_n 0, 1) := by decide +kernel
theorem dX7_lend_1 : decode cX7_lend 1 = .ok (.getfield 25, 3) := by decide +kernel
theorem dX7_lend_4 : decode cX7_lend 4 = .ok (.iload_n 1, 1) := by decide +kernel
theorem dX7_lend_5 : decode cX7_lend 5 = .ok (.invokevirtual 134, 3) := by decide +kernel
theorem dX7_lend_8 : decode cX7_lend 8 = .ok (.astore 4, 2) := by decide +kernel
theorem dX7_lend_10 : decode cX7_lend 10 = .ok (.aload_n 0, 1) := by decide +kernel
theorem dX7_lend_11 : decode cX7_lend 11 = .ok (.iload_n 2, 1) := by decide +kernel
theorem dX7_lend_12 : decode cX7_lend 12 = .ok (.invokevirtual 91, 3) := by decide +kernel
theorem dX7_lend_15 : decode cX7_lend 15 = .ok (.astore 5, 2) := by decide +kernel
theorem dX7_lend_17 : decode cX7_lend 17 = .ok (.iload_n 3, 1) := by decide +kernel
theorem dX7_lend_18 : decode cX7_lend 18 = .ok (.aload_n 0, 1) := by decide +kernel
theorem dX7_lend_19 : decode cX7_lend 19 = .ok (.getfield 124, 3) := by decide +kernel
theorem dX7_lend_22 : decode cX7_lend 22 = .ok (.if_icmp .le 25, 3) := by decide +kernel
theorem dX7_lend_25 : decode cX7_lend 25 = .ok (.aload 4, 2) := by decide +kernel
theorem dX7_lend_27 : decode cX7_lend 27 = .ok (.getfield 146, 3) := by decide +kernel
theorem dX7_lend_30 : decode cX7_lend 30 = .ok (.aload 5, 2) := by decide +kernel
theorem dX7_lend_32 : decode cX7_lend 32 = .ok (.if_acmp .eq 15, 3) := by decide +kernel
theorem dX7_lend_35 : decode cX7_lend 35 = .ok (.aload_n 0, 1) := by decide +kernel
theorem dX7_lend_36 : decode cX7_lend 36 = .ok (.getfield 25, 3) := by decide +kernel
theorem dX7_lend_39 : decode cX7_lend 39 = .ok (.aload 4, 2) := by decide +kernel
theorem dX7_lend_41 : decode cX7_lend 41 = .ok (.invokevirtual 150, 3) := by decide +kernel
theorem dX7_lend_44 : decode cX7_lend 44 = .ok (.ifCond .ne 5, 3) := by decide +kernel
theorem dX7_lend_47 : decode cX7_lend 47 = .ok (.iconst 0, 1) := by decide +kernel
theorem dX7_lend_48 : decode cX7_lend 48 = .ok (.ireturn, 1) := by decide +kernel
theorem dX7_lend_49 : decode cX7_lend 49 = .ok (.aload 4, 2) := by decide +kernel
theorem dX7_lend_51 : decode cX7_lend 51 = .ok (.aload 4, 2) := by decide +kernel
theorem dX7_lend_53 : decode cX7_lend 53 = .ok (.getfield 146, 3) := by decide +kernel
theorem dX7_lend_56 : decode cX7_lend 56 = .ok (.putfield 158, 3) := by decide +kernel
theorem dX7_lend_59 : decode cX7_lend 59 = .ok (.aload 4, 2) := by decide +kernel
theorem dX7_lend_61 : decode cX7_lend 61 = .ok (.iload_n 3, 1) := by decide +kernel
theorem dX7_lend_62 : decode cX7_lend 62 = .ok (.putfield 161, 3) := by decide +kernel
theorem dX7_lend_65 : decode cX7_lend 65 = .ok (.aload_n 0, 1) := by decide +kernel
theorem dX7_lend_66 : decode cX7_lend 66 = .ok (.getfield 25, 3) := by decide +kernel
theorem dX7_lend_69 : decode cX7_lend 69 = .ok (.aload 4, 2) := by decide +kernel
theorem dX7_lend_71 : decode cX7_lend 71 = .ok (.aload 5, 2) := by decide +kernel
theorem dX7_lend_73 : decode cX7_lend 73 = .ok (.aload_n 0, 1) := by decide +kernel
theorem dX7_lend_74 : decode cX7_lend 74 = .ok (.getfield 124, 3) := by decide +kernel
theorem dX7_lend_77 : decode cX7_lend 77 = .ok (.invokevirtual 154, 3) := by decide +kernel
theorem dX7_lend_80 : decode cX7_lend 80 = .ok (.iconst 1, 1) := by decide +kernel
theorem dX7_lend_81 : decode cX7_lend 81 = .ok (.ireturn, 1) := by decide +kernel
theorem dX7_wear_0 : decode cX7_wear 0 = .ok (.aload_n 0, 1) := by decide +kernel
theorem dX7_wear_1 : decode cX7_wear 1 = .ok (.getfield 25, 3) := by decide +kernel
theorem dX7_wear_4 : decode cX7_wear 4 = .ok (.iload_n 1, 1) := by decide +kernel
theorem dX7_wear_5 : decode cX7_wear 5 = .ok (.invokevirtual 134, 3) := by decide +kernel
theorem dX7_wear_8 : decode cX7_wear 8 = .ok (.astore_n 3, 1) := by decide +kernel
theorem dX7_wear_9 : decode cX7_wear 9 = .ok (.iload_n 2, 1) := by decide +kernel
theorem dX7_wear_10 : decode cX7_wear 10 = .ok (.iconst 1, 1) := by decide +kernel
theorem dX7_wear_11 : decode cX7_wear 11 = .ok (.bipush 100, 2) := by decide +kernel
theorem dX7_wear_13 : decode cX7_wear 13 = .ok (.invokestatic 81, 3) := by decide +kernel
theorem dX7_wear_16 : decode cX7_wear 16 = .ok (.aload_n 3, 1) := by decide +kernel
theorem dX7_wear_17 : decode cX7_wear 17 = .ok (.invokevirtual 164, 3) := by decide +kernel
theorem dX7_wear_20 : decode cX7_wear 20 = .ok (.ifCond .eq 5, 3) := by decide +kernel
theorem dX7_wear_23 : decode cX7_wear 23 = .ok (.iconst (-1), 1) := by decide +kernel
theorem dX7_wear_24 : decode cX7_wear 24 = .ok (.ireturn, 1) := by decide +kernel
theorem dX7_wear_25 : decode cX7_wear 25 = .ok (.aload_n 3, 1) := by decide +kernel
theorem dX7_wear_26 : decode cX7_wear 26 = .ok (.aload_n 3, 1) := by decide +kernel
theorem dX7_wear_27 : decode cX7_wear 27 = .ok (.getfield 168, 3) := by decide +kernel
theorem dX7_wear_30 : decode cX7_wear 30 = .ok (.iload_n 2, 1) := by decide +kernel
theorem dX7_wear_31 : decode cX7_wear 31 = .ok (.iadd, 1) := by decide +kernel
theorem dX7_wear_32 : decode cX7_wear 32 = .ok (.bipush 100, 2) := by decide +kernel
theorem dX7_wear_34 : decode cX7_wear 34 = .ok (.invokestatic 171, 3) := by decide +kernel
theorem dX7_wear_37 : decode cX7_wear 37 = .ok (.putfield 168, 3) := by decide +kernel
theorem dX7_wear_40 : decode cX7_wear 40 = .ok (.aload_n 3, 1) := by decide +kernel
theorem dX7_wear_41 : decode cX7_wear 41 = .ok (.getfield 168, 3) := by decide +kernel
theorem dX7_wear_44 : decode cX7_wear 44 = .ok (.bipush 100, 2) := by decide +kernel
theorem dX7_wear_46 : decode cX7_wear 46 = .ok (.if_icmp .ne 11, 3) := by decide +kernel
theorem dX7_wear_49 : decode cX7_wear 49 = .ok (.aload_n 0, 1) := by decide +kernel
theorem dX7_wear_50 : decode cX7_wear 50 = .ok (.getfield 25, 3) := by decide +kernel
theorem dX7_wear_53 : decode cX7_wear 53 = .ok (.aload_n 3, 1) := by decide +kernel
theorem dX7_wear_54 : decode cX7_wear 54 = .ok (.invokevirtual 177, 3) := by decide +kernel
theorem dX7_wear_57 : decode cX7_wear 57 = .ok (.aload_n 3, 1) := by decide +kernel
theorem dX7_wear_58 : decode cX7_wear 58 = .ok (.getfield 168, 3) := by decide +kernel
theorem dX7_wear_61 : decode cX7_wear 61 = .ok (.ireturn, 1) := by decide +kernel
theorem dX7_days_0 : decode cX7_days 0 = .ok (.iload_n 1, 1) := by decide +kernel
theorem dX7_days_1 : decode cX7_days 1 = .ok (.iconst 0, 1) := by decide +kernel
theorem dX7_days_2 : decode cX7_days 2 = .ok (.sipush 1000, 3) := by decide +kernel
theorem dX7_days_5 : decode cX7_days 5 = .ok (.invokestatic 81, 3) := by decide +kernel
theorem dX7_days_8 : decode cX7_days 8 = .ok (.aload_n 0, 1) := by decide +kernel
theorem dX7_days_9 : decode cX7_days 9 = .ok (.dup, 1) := by decide +kernel
theorem dX7_days_10 : decode cX7_days 10 = .ok (.getfield 124, 3) := by decide +kernel
theorem dX7_days_13 : decode cX7_days 13 = .ok (.iload_n 1, 1) := by decide +kernel
theorem dX7_days_14 : decode cX7_days 14 = .ok (.iadd, 1) := by decide +kernel
theorem dX7_days_15 : decode cX7_days 15 = .ok (.putfield 124, 3) := by decide +kernel
theorem dX7_days_18 : decode cX7_days 18 = .ok (.aload_n 0, 1) := by decide +kernel
theorem dX7_days_19 : decode cX7_days 19 = .ok (.getfield 25, 3) := by decide +kernel
theorem dX7_days_22 : decode cX7_days 22 = .ok (.aload_n 0, 1) := by decide +kernel
theorem dX7_days_23 : decode cX7_days 23 = .ok (.getfield 124, 3) := by decide +kernel
theorem dX7_days_26 : decode cX7_days 26 = .ok (.invokevirtual 180, 3) := by decide +kernel
theorem dX7_days_29 : decode cX7_days 29 = .ok (.aload_n 0, 1) := by decide +kernel
theorem dX7_days_30 : decode cX7_days 30 = .ok (.getfield 124, 3) := by decide +kernel
theorem dX7_days_33 : decode cX7_days 33 = .ok (.ireturn, 1) := by decide +kernel
theorem dX7_look_0 : decode cX7_look 0 = .ok (.aload_n 0, 1) := by decide +kernel
theorem dX7_look_1 : decode cX7_look 1 = .ok (.getfield 25, 3) := by decide +kernel
theorem dX7_look_4 : decode cX7_look 4 = .ok (.iload_n 1, 1) := by decide +kernel
theorem dX7_look_5 : decode cX7_look 5 = .ok (.invokevirtual 134, 3) := by decide +kernel
theorem dX7_look_8 : decode cX7_look 8 = .ok (.astore_n 3, 1) := by decide +kernel
theorem dX7_look_9 : decode cX7_look 9 = .ok (.iload_n 2, 1) := by decide +kernel
theorem dX7_look_10 : decode cX7_look 10 = .ok (.tableswitch 131 0 8 #[50, 58, 77, 82, 91, 100, 113, 118, 126], 50) := by decide +kernel
theorem dX7_look_60 : decode cX7_look 60 = .ok (.aload_n 3, 1) := by decide +kernel
theorem dX7_look_61 : decode cX7_look 61 = .ok (.getfield 146, 3) := by decide +kernel
theorem dX7_look_64 : decode cX7_look 64 = .ok (.invokestatic 183, 3) := by decide +kernel
theorem dX7_look_67 : decode cX7_look 67 = .ok (.ireturn, 1) := by decide +kernel
theorem dX7_look_68 : decode cX7_look 68 = .ok (.aload_n 3, 1) := by decide +kernel
theorem dX7_look_69 : decode cX7_look 69 = .ok (.getfield 142, 3) := by decide +kernel
theorem dX7_look_72 : decode cX7_look 72 = .ok (.ifnonnull 7, 3) := by decide +kernel
theorem dX7_look_75 : decode cX7_look 75 = .ok (.iconst (-1), 1) := by decide +kernel
theorem dX7_look_76 : decode cX7_look 76 = .ok (.goto 10, 3) := by decide +kernel
theorem dX7_look_79 : decode cX7_look 79 = .ok (.aload_n 3, 1) := by decide +kernel
theorem dX7_look_80 : decode cX7_look 80 = .ok (.getfield 142, 3) := by decide +kernel
theorem dX7_look_83 : decode cX7_look 83 = .ok (.getfield 187, 3) := by decide +kernel
theorem dX7_look_86 : decode cX7_look 86 = .ok (.ireturn, 1) := by decide +kernel
theorem dX7_look_87 : decode cX7_look 87 = .ok (.aload_n 3, 1) := by decide +kernel
theorem dX7_look_88 : decode cX7_look 88 = .ok (.getfield 168, 3) := by decide +kernel
theorem dX7_look_91 : decode cX7_look 91 = .ok (.ireturn, 1) := by decide +kernel
theorem dX7_look_92 : decode cX7_look 92 = .ok (.aload_n 0, 1) := by decide +kernel
theorem dX7_look_93 : decode cX7_look 93 = .ok (.getfield 25, 3) := by decide +kernel
theorem dX7_look_96 : decode cX7_look 96 = .ok (.aload_n 3, 1) := by decide +kernel
theorem dX7_look_97 : decode cX7_look 97 = .ok (.invokevirtual 190, 3) := by decide +kernel
theorem dX7_look_100 : decode cX7_look 100 = .ok (.ireturn, 1) := by decide +kernel
theorem dX7_look_101 : decode cX7_look 101 = .ok (.aload_n 0, 1) := by decide +kernel
theorem dX7_look_102 : decode cX7_look 102 = .ok (.getfield 25, 3) := by decide +kernel
theorem dX7_look_105 : decode cX7_look 105 = .ok (.aload_n 3, 1) := by decide +kernel
theorem dX7_look_106 : decode cX7_look 106 = .ok (.invokevirtual 194, 3) := by decide +kernel
theorem dX7_look_109 : decode cX7_look 109 = .ok (.ireturn, 1) := by decide +kernel
theorem dX7_look_110 : decode cX7_look 110 = .ok (.aload_n 3, 1) := by decide +kernel
theorem dX7_look_111 : decode cX7_look 111 = .ok (.invokevirtual 197, 3) := by decide +kernel
theorem dX7_look_114 : decode cX7_look 114 = .ok (.ifCond .eq 7, 3) := by decide +kernel
theorem dX7_look_117 : decode cX7_look 117 = .ok (.iconst 1, 1) := by decide +kernel
theorem dX7_look_118 : decode cX7_look 118 = .ok (.goto 4, 3) := by decide +kernel
theorem dX7_look_121 : decode cX7_look 121 = .ok (.iconst 0, 1) := by decide +kernel
theorem dX7_look_122 : decode cX7_look 122 = .ok (.ireturn, 1) := by decide +kernel
theorem dX7_look_123 : decode cX7_look 123 = .ok (.aload_n 3, 1) := by decide +kernel
theorem dX7_look_124 : decode cX7_look 124 = .ok (.getfield 161, 3) := by decide +kernel
theorem dX7_look_127 : decode cX7_look 127 = .ok (.ireturn, 1) := by decide +kernel
theorem dX7_look_128 : decode cX7_look 128 = .ok (.aload_n 3, 1) := by decide +kernel
theorem dX7_look_129 : decode cX7_look 129 = .ok (.getfield 158, 3) := by decide +kernel
theorem dX7_look_132 : decode cX7_look 132 = .ok (.invokestatic 183, 3) := by decide +kernel
theorem dX7_look_135 : decode cX7_look 135 = .ok (.ireturn, 1) := by decide +kernel
theorem dX7_look_136 : decode cX7_look 136 = .ok (.aload_n 3, 1) := by decide +kernel
theorem dX7_look_137 : decode cX7_look 137 = .ok (.getfield 200, 3) := by decide +kernel
theorem dX7_look_140 : decode cX7_look 140 = .ok (.ireturn, 1) := by decide +kernel
theorem dX7_look_141 : decode cX7_look 141 = .ok (.new 203, 3) := by decide +kernel
theorem dX7_look_144 : decode cX7_look 144 = .ok (.dup, 1) := by decide +kernel
theorem dX7_look_145 : decode cX7_look 145 = .ok (.ldc 205, 2) := by decide +kernel
theorem dX7_look_147 : decode cX7_look 147 = .ok (.invokespecial 207, 3) := by decide +kernel
theorem dX7_look_150 : decode cX7_look 150 = .ok (.athrow, 1) := by decide +kernel
theorem dX7_line_0 : decode cX7_line 0 = .ok (.aload_n 0, 1) := by decide +kernel
theorem dX7_line_1 : decode cX7_line 1 = .ok (.getfield 25, 3) := by decide +kernel
theorem dX7_line_4 : decode cX7_line 4 = .ok (.iload_n 1, 1) := by decide +kernel
theorem dX7_line_5 : decode cX7_line 5 = .ok (.invokevirtual 134, 3) := by decide +kernel
theorem dX7_line_8 : decode cX7_line 8 = .ok (.astore 4, 2) := by decide +kernel
theorem dX7_line_10 : decode cX7_line 10 = .ok (.iload_n 2, 1) := by decide +kernel
theorem dX7_line_11 : decode cX7_line 11 = .ok (.ifCond .lt 18, 3) := by decide +kernel
theorem dX7_line_14 : decode cX7_line 14 = .ok (.iload_n 2, 1) := by decide +kernel
theorem dX7_line_15 : decode cX7_line 15 = .ok (.aload 4, 2) := by decide +kernel
theorem dX7_line_17 : decode cX7_line 17 = .ok (.getfield 200, 3) := by decide +kernel
theorem dX7_line_20 : decode cX7_line 20 = .ok (.if_icmp .ge 9, 3) := by decide +kernel
theorem dX7_line_23 : decode cX7_line 23 = .ok (.iload_n 2, 1) := by decide +kernel
theorem dX7_line_24 : decode cX7_line 24 = .ok (.bipush 30, 2) := by decide +kernel
theorem dX7_line_26 : decode cX7_line 26 = .ok (.if_icmp .lt 5, 3) := by decide +kernel
theorem dX7_line_29 : decode cX7_line 29 = .ok (.iconst (-1), 1) := by decide +kernel
theorem dX7_line_30 : decode cX7_line 30 = .ok (.ireturn, 1) := by decide +kernel
theorem dX7_line_31 : decode cX7_line 31 = .ok (.iload_n 3, 1) := by decide +kernel
theorem dX7_line_32 : decode cX7_line 32 = .ok (.ifCond .eq 13, 3) := by decide +kernel
theorem dX7_line_35 : decode cX7_line 35 = .ok (.aload 4, 2) := by decide +kernel
theorem dX7_line_37 : decode cX7_line 37 = .ok (.getfield 208, 3) := by decide +kernel
theorem dX7_line_40 : decode cX7_line 40 = .ok (.iload_n 2, 1) := by decide +kernel
theorem dX7_line_41 : decode cX7_line 41 = .ok (.iaload, 1) := by decide +kernel
theorem dX7_line_42 : decode cX7_line 42 = .ok (.goto 10, 3) := by decide +kernel
theorem dX7_line_45 : decode cX7_line 45 = .ok (.aload 4, 2) := by decide +kernel
theorem dX7_line_47 : decode cX7_line 47 = .ok (.getfield 211, 3) := by decide +kernel
theorem dX7_line_50 : decode cX7_line 50 = .ok (.iload_n 2, 1) := by decide +kernel
theorem dX7_line_51 : decode cX7_line 51 = .ok (.iaload, 1) := by decide +kernel
theorem dX7_line_52 : decode cX7_line 52 = .ok (.ireturn, 1) := by decide +kernel
theorem dX7_offer_0 : decode cX7_offer 0 = .ok (.aload_n 0, 1) := by decide +kernel
theorem dX7_offer_1 : decode cX7_offer 1 = .ok (.iload_n 1, 1) := by decide +kernel
theorem dX7_offer_2 : decode cX7_offer 2 = .ok (.iload_n 3, 1) := by decide +kernel
theorem dX7_offer_3 : decode cX7_offer 3 = .ok (.iload 4, 2) := by decide +kernel
theorem dX7_offer_5 : decode cX7_offer 5 = .ok (.iload 5, 2) := by decide +kernel
theorem dX7_offer_7 : decode cX7_offer 7 = .ok (.invokevirtual 214, 3) := by decide +kernel
theorem dX7_offer_10 : decode cX7_offer 10 = .ok (.astore 9, 2) := by decide +kernel
theorem dX7_offer_12 : decode cX7_offer 12 = .ok (.aload_n 0, 1) := by decide +kernel
theorem dX7_offer_13 : decode cX7_offer 13 = .ok (.iload_n 2, 1) := by decide +kernel
theorem dX7_offer_14 : decode cX7_offer 14 = .ok (.iload 6, 2) := by decide +kernel
theorem dX7_offer_16 : decode cX7_offer 16 = .ok (.iload 7, 2) := by decide +kernel
theorem dX7_offer_18 : decode cX7_offer 18 = .ok (.iload 8, 2) := by decide +kernel
theorem dX7_offer_20 : decode cX7_offer 20 = .ok (.invokevirtual 214, 3) := by decide +kernel
theorem dX7_offer_23 : decode cX7_offer 23 = .ok (.astore 10, 2) := by decide +kernel
theorem dX7_offer_25 : decode cX7_offer 25 = .ok (.iload_n 1, 1) := by decide +kernel
theorem dX7_offer_26 : decode cX7_offer 26 = .ok (.iload_n 2, 1) := by decide +kernel
theorem dX7_offer_27 : decode cX7_offer 27 = .ok (.if_icmp .ne 13, 3) := by decide +kernel
theorem dX7_offer_30 : decode cX7_offer 30 = .ok (.new 218, 3) := by decide +kernel
theorem dX7_offer_33 : decode cX7_offer 33 = .ok (.dup, 1) := by decide +kernel
theorem dX7_offer_34 : decode cX7_offer 34 = .ok (.ldc 220, 2) := by decide +kernel
theorem dX7_offer_36 : decode cX7_offer 36 = .ok (.invokespecial 222, 3) := by decide +kernel
theorem dX7_offer_39 : decode cX7_offer 39 = .ok (.athrow, 1) := by decide +kernel
theorem dX7_offer_40 : decode cX7_offer 40 = .ok (.iload_n 3, 1) := by decide +kernel
theorem dX7_offer_41 : decode cX7_offer 41 = .ok (.iconst 0, 1) := by decide +kernel
theorem dX7_offer_42 : decode cX7_offer 42 = .ok (.ldc 223, 2) := by decide +kernel
theorem dX7_offer_44 : decode cX7_offer 44 = .ok (.invokestatic 81, 3) := by decide +kernel
theorem dX7_offer_47 : decode cX7_offer 47 = .ok (.iload 6, 2) := by decide +kernel
theorem dX7_offer_49 : decode cX7_offer 49 = .ok (.iconst 0, 1) := by decide +kernel
theorem dX7_offer_50 : decode cX7_offer 50 = .ok (.ldc 223, 2) := by decide +kernel
theorem dX7_offer_52 : decode cX7_offer 52 = .ok (.invokestatic 81, 3) := by decide +kernel
theorem dX7_offer_55 : decode cX7_offer 55 = .ok (.aload_n 0, 1) := by decide +kernel
theorem dX7_offer_56 : decode cX7_offer 56 = .ok (.getfield 19, 3) := by decide +kernel
theorem dX7_offer_59 : decode cX7_offer 59 = .ok (.invokevirtual 47, 3) := by decide +kernel
theorem dX7_offer_62 : decode cX7_offer 62 = .ok (.istore 11, 2) := by decide +kernel
theorem dX7_offer_64 : decode cX7_offer 64 = .ok (.iload 11, 2) := by decide +kernel
theorem dX7_offer_66 : decode cX7_offer 66 = .ok (.bipush 60, 2) := by decide +kernel
theorem dX7_offer_68 : decode cX7_offer 68 = .ok (.if_icmp .lt 13, 3) := by decide +kernel
theorem dX7_offer_71 : decode cX7_offer 71 = .ok (.new 51, 3) := by decide +kernel
theorem dX7_offer_74 : decode cX7_offer 74 = .ok (.dup, 1) := by decide +kernel
theorem dX7_offer_75 : decode cX7_offer 75 = .ok (.ldc 224, 2) := by decide +kernel
theorem dX7_offer_77 : decode cX7_offer 77 = .ok (.invokespecial 55, 3) := by decide +kernel
theorem dX7_offer_80 : decode cX7_offer 80 = .ok (.athrow, 1) := by decide +kernel
theorem dX7_offer_81 : decode cX7_offer 81 = .ok (.aload_n 0, 1) := by decide +kernel
theorem dX7_offer_82 : decode cX7_offer 82 = .ok (.getfield 19, 3) := by decide +kernel
theorem dX7_offer_85 : decode cX7_offer 85 = .ok (.new 226, 3) := by decide +kernel
theorem dX7_offer_88 : decode cX7_offer 88 = .ok (.dup, 1) := by decide +kernel
theorem dX7_offer_89 : decode cX7_offer 89 = .ok (.aload 9, 2) := by decide +kernel
theorem dX7_offer_91 : decode cX7_offer 91 = .ok (.aload 10, 2) := by decide +kernel
theorem dX7_offer_93 : decode cX7_offer 93 = .ok (.invokespecial 228, 3) := by decide +kernel
theorem dX7_offer_96 : decode cX7_offer 96 = .ok (.invokevirtual 63, 3) := by decide +kernel
theorem dX7_offer_99 : decode cX7_offer 99 = .ok (.pop, 1) := by decide +kernel
theorem dX7_offer_100 : decode cX7_offer 100 = .ok (.iload 11, 2) := by decide +kernel
theorem dX7_offer_102 : decode cX7_offer 102 = .ok (.ireturn, 1) := by decide +kernel
theorem dX7_agree_0 : decode cX7_agree 0 = .ok (.aload_n 0, 1) := by decide +kernel
theorem dX7_agree_1 : decode cX7_agree 1 = .ok (.iload_n 1, 1) := by decide +kernel
theorem dX7_agree_2 : decode cX7_agree 2 = .ok (.invokevirtual 231, 3) := by decide +kernel
theorem dX7_agree_5 : decode cX7_agree 5 = .ok (.astore_n 2, 1) := by decide +kernel
theorem dX7_agree_6 : decode cX7_agree 6 = .ok (.aload_n 0, 1) := by decide +kernel
theorem dX7_agree_7 : decode cX7_agree 7 = .ok (.aload_n 2, 1) := by decide +kernel
theorem dX7_agree_8 : decode cX7_agree 8 = .ok (.invokevirtual 235, 3) := by decide +kernel
theorem dX7_agree_11 : decode cX7_agree 11 = .ok (.istore_n 3, 1) := by decide +kernel
theorem dX7_agree_12 : decode cX7_agree 12 = .ok (.iload_n 3, 1) := by decide +kernel
theorem dX7_agree_13 : decode cX7_agree 13 = .ok (.ifCond .ne 20, 3) := by decide +kernel
theorem dX7_agree_16 : decode cX7_agree 16 = .ok (.aload_n 0, 1) := by decide +kernel
theorem dX7_agree_17 : decode cX7_agree 17 = .ok (.aload_n 2, 1) := by decide +kernel
theorem dX7_agree_18 : decode cX7_agree 18 = .ok (.getfield 238, 3) := by decide +kernel
theorem dX7_agree_21 : decode cX7_agree 21 = .ok (.aload_n 2, 1) := by decide +kernel
theorem dX7_agree_22 : decode cX7_agree 22 = .ok (.getfield 242, 3) := by decide +kernel
theorem dX7_agree_25 : decode cX7_agree 25 = .ok (.invokevirtual 245, 3) := by decide +kernel
theorem dX7_agree_28 : decode cX7_agree 28 = .ok (.aload_n 2, 1) := by decide +kernel
theorem dX7_agree_29 : decode cX7_agree 29 = .ok (.iconst 0, 1) := by decide +kernel
theorem dX7_agree_30 : decode cX7_agree 30 = .ok (.putfield 248, 3) := by decide +kernel
theorem dX7_agree_33 : decode cX7_agree 33 = .ok (.iload_n 3, 1) := by decide +kernel
theorem dX7_agree_34 : decode cX7_agree 34 = .ok (.ireturn, 1) := by decide +kernel
theorem dX7_withdraw_0 : decode cX7_withdraw 0 = .ok (.aload_n 0, 1) := by decide +kernel
theorem dX7_withdraw_1 : decode cX7_withdraw 1 = .ok (.iload_n 1, 1) := by decide +kernel
theorem dX7_withdraw_2 : decode cX7_withdraw 2 = .ok (.invokevirtual 231, 3) := by decide +kernel
theorem dX7_withdraw_5 : decode cX7_withdraw 5 = .ok (.astore_n 2, 1) := by decide +kernel
theorem dX7_withdraw_6 : decode cX7_withdraw 6 = .ok (.aload_n 2, 1) := by decide +kernel
theorem dX7_withdraw_7 : decode cX7_withdraw 7 = .ok (.getfield 248, 3) := by decide +kernel
theorem dX7_withdraw_10 : decode cX7_withdraw 10 = .ok (.istore_n 3, 1) := by decide +kernel
theorem dX7_withdraw_11 : decode cX7_withdraw 11 = .ok (.aload_n 2, 1) := by decide +kernel
theorem dX7_withdraw_12 : decode cX7_withdraw 12 = .ok (.iconst 0, 1) := by decide +kernel
theorem dX7_withdraw_13 : decode cX7_withdraw 13 = .ok (.putfield 248, 3) := by decide +kernel
theorem dX7_withdraw_16 : decode cX7_withdraw 16 = .ok (.iload_n 3, 1) := by decide +kernel
theorem dX7_withdraw_17 : decode cX7_withdraw 17 = .ok (.ireturn, 1) := by decide +kernel
theorem dX7_sideOf_0 : decode cX7_sideOf 0 = .ok (.aload_n 0, 1) := by decide +kernel
theorem dX7_sideOf_1 : decode cX7_sideOf 1 = .ok (.iload_n 1, 1) := by decide +kernel
theorem dX7_sideOf_2 : decode cX7_sideOf 2 = .ok (.invokevirtual 91, 3) := by decide +kernel
theorem dX7_sideOf_5 : decode cX7_sideOf 5 = .ok (.astore 5, 2) := by decide +kernel
theorem dX7_sideOf_7 : decode cX7_sideOf 7 = .ok (.iload_n 3, 1) := by decide +kernel
theorem dX7_sideOf_8 : decode cX7_sideOf 8 = .ok (.invokestatic 78, 3) := by decide +kernel
theorem dX7_sideOf_11 : decode cX7_sideOf 11 = .ok (.iload 4, 2) := by decide +kernel
theorem dX7_sideOf_13 : decode cX7_sideOf 13 = .ok (.iconst (-1), 1) := by decide +kernel
theorem dX7_sideOf_14 : decode cX7_sideOf 14 = .ok (.if_icmp .ne 7, 3) := by decide +kernel
theorem dX7_sideOf_17 : decode cX7_sideOf 17 = .ok (.aconst_null, 1) := by decide +kernel
theorem dX7_sideOf_18 : decode cX7_sideOf 18 = .ok (.goto 12, 3) := by decide +kernel
theorem dX7_sideOf_21 : decode cX7_sideOf 21 = .ok (.aload_n 0, 1) := by decide +kernel
theorem dX7_sideOf_22 : decode cX7_sideOf 22 = .ok (.getfield 25, 3) := by decide +kernel
theorem dX7_sideOf_25 : decode cX7_sideOf 25 = .ok (.iload 4, 2) := by decide +kernel
theorem dX7_sideOf_27 : decode cX7_sideOf 27 = .ok (.invokevirtual 134, 3) := by decide +kernel
theorem dX7_sideOf_30 : decode cX7_sideOf 30 = .ok (.astore 6, 2) := by decide +kernel
theorem dX7_sideOf_32 : decode cX7_sideOf 32 = .ok (.new 252, 3) := by decide +kernel
theorem dX7_sideOf_35 : decode cX7_sideOf 35 = .ok (.dup, 1) := by decide +kernel
theorem dX7_sideOf_36 : decode cX7_sideOf 36 = .ok (.aload 5, 2) := by decide +kernel
theorem dX7_sideOf_38 : decode cX7_sideOf 38 = .ok (.iload_n 2, 1) := by decide +kernel
theorem dX7_sideOf_39 : decode cX7_sideOf 39 = .ok (.iload_n 3, 1) := by decide +kernel
theorem dX7_sideOf_40 : decode cX7_sideOf 40 = .ok (.aload 6, 2) := by decide +kernel
theorem dX7_sideOf_42 : decode cX7_sideOf 42 = .ok (.invokespecial 254, 3) := by decide +kernel
theorem dX7_sideOf_45 : decode cX7_sideOf 45 = .ok (.areturn, 1) := by decide +kernel
theorem dX7_answerTo_0 : decode cX7_answerTo 0 = .ok (.aload_n 1, 1) := by decide +kernel
theorem dX7_answerTo_1 : decode cX7_answerTo 1 = .ok (.getfield 238, 3) := by decide +kernel
theorem dX7_answerTo_4 : decode cX7_answerTo 4 = .ok (.astore_n 2, 1) := by decide +kernel
theorem dX7_answerTo_5 : decode cX7_answerTo 5 = .ok (.aload_n 1, 1) := by decide +kernel
theorem dX7_answerTo_6 : decode cX7_answerTo 6 = .ok (.getfield 242, 3) := by decide +kernel
theorem dX7_answerTo_9 : decode cX7_answerTo 9 = .ok (.astore_n 3, 1) := by decide +kernel
theorem dX7_answerTo_10 : decode cX7_answerTo 10 = .ok (.aload_n 1, 1) := by decide +kernel
theorem dX7_answerTo_11 : decode cX7_answerTo 11 = .ok (.getfield 248, 3) := by decide +kernel
theorem dX7_answerTo_14 : decode cX7_answerTo 14 = .ok (.ifCond .ne 5, 3) := by decide +kernel
theorem dX7_answerTo_17 : decode cX7_answerTo 17 = .ok (.iconst 1, 1) := by decide +kernel
theorem dX7_answerTo_18 : decode cX7_answerTo 18 = .ok (.ireturn, 1) := by decide +kernel
theorem dX7_answerTo_19 : decode cX7_answerTo 19 = .ok (.aload_n 2, 1) := by decide +kernel
theorem dX7_answerTo_20 : decode cX7_answerTo 20 = .ok (.invokevirtual 257, 3) := by decide +kernel
theorem dX7_answerTo_23 : decode cX7_answerTo 23 = .ok (.ifCond .eq 5, 3) := by decide +kernel
theorem dX7_answerTo_26 : decode cX7_answerTo 26 = .ok (.iconst 2, 1) := by decide +kernel
theorem dX7_answerTo_27 : decode cX7_answerTo 27 = .ok (.ireturn, 1) := by decide +kernel
theorem dX7_answerTo_28 : decode cX7_answerTo 28 = .ok (.aload_n 3, 1) := by decide +kernel
theorem dX7_answerTo_29 : decode cX7_answerTo 29 = .ok (.invokevirtual 257, 3) := by decide +kernel
theorem dX7_answerTo_32 : decode cX7_answerTo 32 = .ok (.ifCond .eq 5, 3) := by decide +kernel
theorem dX7_answerTo_35 : decode cX7_answerTo 35 = .ok (.iconst 3, 1) := by decide +kernel
theorem dX7_answerTo_36 : decode cX7_answerTo 36 = .ok (.ireturn, 1) := by decide +kernel
theorem dX7_answerTo_37 : decode cX7_answerTo 37 = .ok (.aload_n 2, 1) := by decide +kernel
theorem dX7_answerTo_38 : decode cX7_answerTo 38 = .ok (.aload_n 3, 1) := by decide +kernel
theorem dX7_answerTo_39 : decode cX7_answerTo 39 = .ok (.invokevirtual 260, 3) := by decide +kernel
theorem dX7_answerTo_42 : decode cX7_answerTo 42 = .ok (.ifCond .eq 5, 3) := by decide +kernel
theorem dX7_answerTo_45 : decode cX7_answerTo 45 = .ok (.iconst 4, 1) := by decide +kernel
theorem dX7_answerTo_46 : decode cX7_answerTo 46 = .ok (.ireturn, 1) := by decide +kernel
theorem dX7_answerTo_47 : decode cX7_answerTo 47 = .ok (.aload_n 3, 1) := by decide +kernel
theorem dX7_answerTo_48 : decode cX7_answerTo 48 = .ok (.aload_n 2, 1) := by decide +kernel
theorem dX7_answerTo_49 : decode cX7_answerTo 49 = .ok (.invokevirtual 260, 3) := by decide +kernel
theorem dX7_answerTo_52 : decode cX7_answerTo 52 = .ok (.ifCond .eq 5, 3) := by decide +kernel
theorem dX7_answerTo_55 : decode cX7_answerTo 55 = .ok (.iconst 5, 1) := by decide +kernel
theorem dX7_answerTo_56 : decode cX7_answerTo 56 = .ok (.ireturn, 1) := by decide +kernel
theorem dX7_answerTo_57 : decode cX7_answerTo 57 = .ok (.aload_n 0, 1) := by decide +kernel
theorem dX7_answerTo_58 : decode cX7_answerTo 58 = .ok (.aload_n 2, 1) := by decide +kernel
theorem dX7_answerTo_59 : decode cX7_answerTo 59 = .ok (.invokevirtual 264, 3) := by decide +kernel
theorem dX7_answerTo_62 : decode cX7_answerTo 62 = .ok (.ifCond .ne 6, 3) := by decide +kernel
theorem dX7_answerTo_65 : decode cX7_answerTo 65 = .ok (.bipush 6, 2) := by decide +kernel
theorem dX7_answerTo_67 : decode cX7_answerTo 67 = .ok (.ireturn, 1) := by decide +kernel
theorem dX7_answerTo_68 : decode cX7_answerTo 68 = .ok (.aload_n 0, 1) := by decide +kernel
theorem dX7_answerTo_69 : decode cX7_answerTo 69 = .ok (.aload_n 3, 1) := by decide +kernel
theorem dX7_answerTo_70 : decode cX7_answerTo 70 = .ok (.invokevirtual 264, 3) := by decide +kernel
theorem dX7_answerTo_73 : decode cX7_answerTo 73 = .ok (.ifCond .ne 6, 3) := by decide +kernel
theorem dX7_answerTo_76 : decode cX7_answerTo 76 = .ok (.bipush 7, 2) := by decide +kernel
theorem dX7_answerTo_78 : decode cX7_answerTo 78 = .ok (.ireturn, 1) := by decide +kernel
theorem dX7_answerTo_79 : decode cX7_answerTo 79 = .ok (.aload_n 2, 1) := by decide +kernel
theorem dX7_answerTo_80 : decode cX7_answerTo 80 = .ok (.invokevirtual 267, 3) := by decide +kernel
theorem dX7_answerTo_83 : decode cX7_answerTo 83 = .ok (.ifCond .ne 10, 3) := by decide +kernel
theorem dX7_answerTo_86 : decode cX7_answerTo 86 = .ok (.aload_n 3, 1) := by decide +kernel
theorem dX7_answerTo_87 : decode cX7_answerTo 87 = .ok (.invokevirtual 267, 3) := by decide +kernel
theorem dX7_answerTo_90 : decode cX7_answerTo 90 = .ok (.ifCond .eq 8, 3) := by decide +kernel
theorem dX7_answerTo_93 : decode cX7_answerTo 93 = .ok (.bipush 8, 2) := by decide +kernel
theorem dX7_answerTo_95 : decode cX7_answerTo 95 = .ok (.goto 4, 3) := by decide +kernel
theorem dX7_answerTo_98 : decode cX7_answerTo 98 = .ok (.iconst 0, 1) := by decide +kernel
theorem dX7_answerTo_99 : decode cX7_answerTo 99 = .ok (.ireturn, 1) := by decide +kernel
theorem dX7_mayHandOver_0 : decode cX7_mayHandOver 0 = .ok (.aload_n 1, 1) := by decide +kernel
theorem dX7_mayHandOver_1 : decode cX7_mayHandOver 1 = .ok (.getfield 270, 3) := by decide +kernel
theorem dX7_mayHandOver_4 : decode cX7_mayHandOver 4 = .ok (.ifnull 31, 3) := by decide +kernel
theorem dX7_mayHandOver_7 : decode cX7_mayHandOver 7 = .ok (.aload_n 1, 1) := by decide +kernel
theorem dX7_mayHandOver_8 : decode cX7_mayHandOver 8 = .ok (.getfield 270, 3) := by decide +kernel
theorem dX7_mayHandOver_11 : decode cX7_mayHandOver 11 = .ok (.getfield 146, 3) := by decide +kernel
theorem dX7_mayHandOver_14 : decode cX7_mayHandOver 14 = .ok (.aload_n 1, 1) := by decide +kernel
theorem dX7_mayHandOver_15 : decode cX7_mayHandOver 15 = .ok (.getfield 273, 3) := by decide +kernel
theorem dX7_mayHandOver_18 : decode cX7_mayHandOver 18 = .ok (.if_acmp .ne 21, 3) := by decide +kernel
theorem dX7_mayHandOver_21 : decode cX7_mayHandOver 21 = .ok (.aload_n 0, 1) := by decide +kernel
theorem dX7_mayHandOver_22 : decode cX7_mayHandOver 22 = .ok (.getfield 25, 3) := by decide +kernel
theorem dX7_mayHandOver_25 : decode cX7_mayHandOver 25 = .ok (.aload_n 1, 1) := by decide +kernel
theorem dX7_mayHandOver_26 : decode cX7_mayHandOver 26 = .ok (.getfield 270, 3) := by decide +kernel
theorem dX7_mayHandOver_29 : decode cX7_mayHandOver 29 = .ok (.invokevirtual 150, 3) := by decide +kernel
theorem dX7_mayHandOver_32 : decode cX7_mayHandOver 32 = .ok (.ifCond .eq 7, 3) := by decide +kernel
theorem dX7_mayHandOver_35 : decode cX7_mayHandOver 35 = .ok (.iconst 1, 1) := by decide +kernel
theorem dX7_mayHandOver_36 : decode cX7_mayHandOver 36 = .ok (.goto 4, 3) := by decide +kernel
theorem dX7_mayHandOver_39 : decode cX7_mayHandOver 39 = .ok (.iconst 0, 1) := by decide +kernel
theorem dX7_mayHandOver_40 : decode cX7_mayHandOver 40 = .ok (.ireturn, 1) := by decide +kernel
theorem dX7_trade_0 : decode cX7_trade 0 = .ok (.aload_n 1, 1) := by decide +kernel
theorem dX7_trade_1 : decode cX7_trade 1 = .ok (.getfield 273, 3) := by decide +kernel
theorem dX7_trade_4 : decode cX7_trade 4 = .ok (.getfield 110, 3) := by decide +kernel
theorem dX7_trade_7 : decode cX7_trade 7 = .ok (.aload_n 1, 1) := by decide +kernel
theorem dX7_trade_8 : decode cX7_trade 8 = .ok (.getfield 276, 3) := by decide +kernel
theorem dX7_trade_11 : decode cX7_trade 11 = .ok (.dup2, 1) := by decide +kernel
theorem dX7_trade_12 : decode cX7_trade 12 = .ok (.iaload, 1) := by decide +kernel
theorem dX7_trade_13 : decode cX7_trade 13 = .ok (.aload_n 1, 1) := by decide +kernel
theorem dX7_trade_14 : decode cX7_trade 14 = .ok (.getfield 279, 3) := by decide +kernel
theorem dX7_trade_17 : decode cX7_trade 17 = .ok (.isub, 1) := by decide +kernel
theorem dX7_trade_18 : decode cX7_trade 18 = .ok (.iastore, 1) := by decide +kernel
theorem dX7_trade_19 : decode cX7_trade 19 = .ok (.aload_n 2, 1) := by decide +kernel
theorem dX7_trade_20 : decode cX7_trade 20 = .ok (.getfield 273, 3) := by decide +kernel
theorem dX7_trade_23 : decode cX7_trade 23 = .ok (.getfield 110, 3) := by decide +kernel
theorem dX7_trade_26 : decode cX7_trade 26 = .ok (.aload_n 2, 1) := by decide +kernel
theorem dX7_trade_27 : decode cX7_trade 27 = .ok (.getfield 276, 3) := by decide +kernel
theorem dX7_trade_30 : decode cX7_trade 30 = .ok (.dup2, 1) := by decide +kernel
theorem dX7_trade_31 : decode cX7_trade 31 = .ok (.iaload, 1) := by decide +kernel
theorem dX7_trade_32 : decode cX7_trade 32 = .ok (.aload_n 2, 1) := by decide +kernel
theorem dX7_trade_33 : decode cX7_trade 33 = .ok (.getfield 279, 3) := by decide +kernel
theorem dX7_trade_36 : decode cX7_trade 36 = .ok (.isub, 1) := by decide +kernel
