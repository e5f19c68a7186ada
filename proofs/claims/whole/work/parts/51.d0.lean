theorem dX0_init_0 : decode cX0_init 0 = .ok (.aload_n 0, 1) := by decide +kernel
theorem dX0_init_1 : decode cX0_init 1 = .ok (.invokespecial 3, 3) := by decide +kernel
theorem dX0_init_4 : decode cX0_init 4 = .ok (.aload_n 0, 1) := by decide +kernel
theorem dX0_init_5 : decode cX0_init 5 = .ok (.bipush 32, 2) := by decide +kernel
theorem dX0_init_7 : decode cX0_init 7 = .ok (.newarray .int, 2) := by decide +kernel
theorem dX0_init_9 : decode cX0_init 9 = .ok (.putfield 9, 3) := by decide +kernel
theorem dX0_init_12 : decode cX0_init 12 = .ok (.aload_n 0, 1) := by decide +kernel
theorem dX0_init_13 : decode cX0_init 13 = .ok (.bipush 16, 2) := by decide +kernel
theorem dX0_init_15 : decode cX0_init 15 = .ok (.newarray .int, 2) := by decide +kernel
theorem dX0_init_17 : decode cX0_init 17 = .ok (.putfield 15, 3) := by decide +kernel
theorem dX0_init_20 : decode cX0_init 20 = .ok (.aload_n 0, 1) := by decide +kernel
theorem dX0_init_21 : decode cX0_init 21 = .ok (.bipush 8, 2) := by decide +kernel
theorem dX0_init_23 : decode cX0_init 23 = .ok (.newarray .int, 2) := by decide +kernel
theorem dX0_init_25 : decode cX0_init 25 = .ok (.putfield 18, 3) := by decide +kernel
theorem dX0_init_28 : decode cX0_init 28 = .ok (.aload_n 0, 1) := by decide +kernel
theorem dX0_init_29 : decode cX0_init 29 = .ok (.bipush 8, 2) := by decide +kernel
theorem dX0_init_31 : decode cX0_init 31 = .ok (.newarray .int, 2) := by decide +kernel
theorem dX0_init_33 : decode cX0_init 33 = .ok (.putfield 21, 3) := by decide +kernel
theorem dX0_init_36 : decode cX0_init 36 = .ok (.return_, 1) := by decide +kernel
theorem dX0_startWith_0 : decode cX0_startWith 0 = .ok (.aload_n 0, 1) := by decide +kernel
theorem dX0_startWith_1 : decode cX0_startWith 1 = .ok (.getfield 9, 3) := by decide +kernel
theorem dX0_startWith_4 : decode cX0_startWith 4 = .ok (.iconst 0, 1) := by decide +kernel
theorem dX0_startWith_5 : decode cX0_startWith 5 = .ok (.invokestatic 24, 3) := by decide +kernel
theorem dX0_startWith_8 : decode cX0_startWith 8 = .ok (.aload_n 1, 1) := by decide +kernel
theorem dX0_startWith_9 : decode cX0_startWith 9 = .ok (.getfield 30, 3) := by decide +kernel
theorem dX0_startWith_12 : decode cX0_startWith 12 = .ok (.iconst 0, 1) := by decide +kernel
theorem dX0_startWith_13 : decode cX0_startWith 13 = .ok (.aload_n 0, 1) := by decide +kernel
theorem dX0_startWith_14 : decode cX0_startWith 14 = .ok (.getfield 9, 3) := by decide +kernel
theorem dX0_startWith_17 : decode cX0_startWith 17 = .ok (.iconst 0, 1) := by decide +kernel
theorem dX0_startWith_18 : decode cX0_startWith 18 = .ok (.aload_n 1, 1) := by decide +kernel
theorem dX0_startWith_19 : decode cX0_startWith 19 = .ok (.getfield 35, 3) := by decide +kernel
theorem dX0_startWith_22 : decode cX0_startWith 22 = .ok (.invokestatic 39, 3) := by decide +kernel
theorem dX0_startWith_25 : decode cX0_startWith 25 = .ok (.aload_n 0, 1) := by decide +kernel
theorem dX0_startWith_26 : decode cX0_startWith 26 = .ok (.getfield 15, 3) := by decide +kernel
theorem dX0_startWith_29 : decode cX0_startWith 29 = .ok (.iconst 0, 1) := by decide +kernel
theorem dX0_startWith_30 : decode cX0_startWith 30 = .ok (.invokestatic 24, 3) := by decide +kernel
theorem dX0_startWith_33 : decode cX0_startWith 33 = .ok (.aload_n 0, 1) := by decide +kernel
theorem dX0_startWith_34 : decode cX0_startWith 34 = .ok (.getfield 18, 3) := by decide +kernel
theorem dX0_startWith_37 : decode cX0_startWith 37 = .ok (.iconst 0, 1) := by decide +kernel
theorem dX0_startWith_38 : decode cX0_startWith 38 = .ok (.invokestatic 24, 3) := by decide +kernel
theorem dX0_startWith_41 : decode cX0_startWith 41 = .ok (.aload_n 0, 1) := by decide +kernel
theorem dX0_startWith_42 : decode cX0_startWith 42 = .ok (.getfield 21, 3) := by decide +kernel
theorem dX0_startWith_45 : decode cX0_startWith 45 = .ok (.iconst 0, 1) := by decide +kernel
theorem dX0_startWith_46 : decode cX0_startWith 46 = .ok (.invokestatic 24, 3) := by decide +kernel
theorem dX0_startWith_49 : decode cX0_startWith 49 = .ok (.aload_n 0, 1) := by decide +kernel
theorem dX0_startWith_50 : decode cX0_startWith 50 = .ok (.aload_n 1, 1) := by decide +kernel
theorem dX0_startWith_51 : decode cX0_startWith 51 = .ok (.getfield 45, 3) := by decide +kernel
theorem dX0_startWith_54 : decode cX0_startWith 54 = .ok (.putfield 48, 3) := by decide +kernel
theorem dX0_startWith_57 : decode cX0_startWith 57 = .ok (.aload_n 0, 1) := by decide +kernel
theorem dX0_startWith_58 : decode cX0_startWith 58 = .ok (.iconst 0, 1) := by decide +kernel
theorem dX0_startWith_59 : decode cX0_startWith 59 = .ok (.putfield 51, 3) := by decide +kernel
theorem dX0_startWith_62 : decode cX0_startWith 62 = .ok (.return_, 1) := by decide +kernel
theorem dX0_turnOn_0 : decode cX0_turnOn 0 = .ok (.aload_n 0, 1) := by decide +kernel
theorem dX0_turnOn_1 : decode cX0_turnOn 1 = .ok (.aload_n 0, 1) := by decide +kernel
theorem dX0_turnOn_2 : decode cX0_turnOn 2 = .ok (.getfield 48, 3) := by decide +kernel
theorem dX0_turnOn_5 : decode cX0_turnOn 5 = .ok (.aload_n 1, 1) := by decide +kernel
theorem dX0_turnOn_6 : decode cX0_turnOn 6 = .ok (.getfield 45, 3) := by decide +kernel
theorem dX0_turnOn_9 : decode cX0_turnOn 9 = .ok (.iconst 1, 1) := by decide +kernel
theorem dX0_turnOn_10 : decode cX0_turnOn 10 = .ok (.isub, 1) := by decide +kernel
theorem dX0_turnOn_11 : decode cX0_turnOn 11 = .ok (.if_icmp .lt 7, 3) := by decide +kernel
theorem dX0_turnOn_14 : decode cX0_turnOn 14 = .ok (.iconst 0, 1) := by decide +kernel
theorem dX0_turnOn_15 : decode cX0_turnOn 15 = .ok (.goto 9, 3) := by decide +kernel
theorem dX0_turnOn_18 : decode cX0_turnOn 18 = .ok (.aload_n 0, 1) := by decide +kernel
theorem dX0_turnOn_19 : decode cX0_turnOn 19 = .ok (.getfield 48, 3) := by decide +kernel
theorem dX0_turnOn_22 : decode cX0_turnOn 22 = .ok (.iconst 1, 1) := by decide +kernel
theorem dX0_turnOn_23 : decode cX0_turnOn 23 = .ok (.iadd, 1) := by decide +kernel
theorem dX0_turnOn_24 : decode cX0_turnOn 24 = .ok (.aload_n 1, 1) := by decide +kernel
theorem dX0_turnOn_25 : decode cX0_turnOn 25 = .ok (.invokevirtual 54, 3) := by decide +kernel
theorem dX0_turnOn_28 : decode cX0_turnOn 28 = .ok (.ireturn, 1) := by decide +kernel
theorem dX0_turnOff_0 : decode cX0_turnOff 0 = .ok (.aload_n 0, 1) := by decide +kernel
theorem dX0_turnOff_1 : decode cX0_turnOff 1 = .ok (.aload_n 0, 1) := by decide +kernel
theorem dX0_turnOff_2 : decode cX0_turnOff 2 = .ok (.getfield 48, 3) := by decide +kernel
theorem dX0_turnOff_5 : decode cX0_turnOff 5 = .ok (.ifCond .gt 12, 3) := by decide +kernel
theorem dX0_turnOff_8 : decode cX0_turnOff 8 = .ok (.aload_n 1, 1) := by decide +kernel
theorem dX0_turnOff_9 : decode cX0_turnOff 9 = .ok (.getfield 45, 3) := by decide +kernel
theorem dX0_turnOff_12 : decode cX0_turnOff 12 = .ok (.iconst 1, 1) := by decide +kernel
theorem dX0_turnOff_13 : decode cX0_turnOff 13 = .ok (.isub, 1) := by decide +kernel
theorem dX0_turnOff_14 : decode cX0_turnOff 14 = .ok (.goto 9, 3) := by decide +kernel
theorem dX0_turnOff_17 : decode cX0_turnOff 17 = .ok (.aload_n 0, 1) := by decide +kernel
theorem dX0_turnOff_18 : decode cX0_turnOff 18 = .ok (.getfield 48, 3) := by decide +kernel
theorem dX0_turnOff_21 : decode cX0_turnOff 21 = .ok (.iconst 1, 1) := by decide +kernel
theorem dX0_turnOff_22 : decode cX0_turnOff 22 = .ok (.isub, 1) := by decide +kernel
theorem dX0_turnOff_23 : decode cX0_turnOff 23 = .ok (.aload_n 1, 1) := by decide +kernel
theorem dX0_turnOff_24 : decode cX0_turnOff 24 = .ok (.invokevirtual 54, 3) := by decide +kernel
theorem dX0_turnOff_27 : decode cX0_turnOff 27 = .ok (.ireturn, 1) := by decide +kernel
theorem dX0_ringRow_0 : decode cX0_ringRow 0 = .ok (.iload_n 1, 1) := by decide +kernel
theorem dX0_ringRow_1 : decode cX0_ringRow 1 = .ok (.ifCond .lt 9, 3) := by decide +kernel
theorem dX0_ringRow_4 : decode cX0_ringRow 4 = .ok (.iload_n 1, 1) := by decide +kernel
theorem dX0_ringRow_5 : decode cX0_ringRow 5 = .ok (.bipush 32, 2) := by decide +kernel
theorem dX0_ringRow_7 : decode cX0_ringRow 7 = .ok (.if_icmp .lt 5, 3) := by decide +kernel
theorem dX0_ringRow_10 : decode cX0_ringRow 10 = .ok (.iconst 0, 1) := by decide +kernel
theorem dX0_ringRow_11 : decode cX0_ringRow 11 = .ok (.ireturn, 1) := by decide +kernel
theorem dX0_ringRow_12 : decode cX0_ringRow 12 = .ok (.aload_n 0, 1) := by decide +kernel
theorem dX0_ringRow_13 : decode cX0_ringRow 13 = .ok (.iload_n 1, 1) := by decide +kernel
theorem dX0_ringRow_14 : decode cX0_ringRow 14 = .ok (.putfield 48, 3) := by decide +kernel
theorem dX0_ringRow_17 : decode cX0_ringRow 17 = .ok (.aload_n 0, 1) := by decide +kernel
theorem dX0_ringRow_18 : decode cX0_ringRow 18 = .ok (.dup, 1) := by decide +kernel
theorem dX0_ringRow_19 : decode cX0_ringRow 19 = .ok (.getfield 51, 3) := by decide +kernel
theorem dX0_ringRow_22 : decode cX0_ringRow 22 = .ok (.iconst 1, 1) := by decide +kernel
theorem dX0_ringRow_23 : decode cX0_ringRow 23 = .ok (.iadd, 1) := by decide +kernel
theorem dX0_ringRow_24 : decode cX0_ringRow 24 = .ok (.putfield 51, 3) := by decide +kernel
theorem dX0_ringRow_27 : decode cX0_ringRow 27 = .ok (.iconst 0, 1) := by decide +kernel
theorem dX0_ringRow_28 : decode cX0_ringRow 28 = .ok (.istore_n 3, 1) := by decide +kernel
theorem dX0_ringRow_29 : decode cX0_ringRow 29 = .ok (.iconst 0, 1) := by decide +kernel
theorem dX0_ringRow_30 : decode cX0_ringRow 30 = .ok (.istore 4, 2) := by decide +kernel
theorem dX0_ringRow_32 : decode cX0_ringRow 32 = .ok (.iload 4, 2) := by decide +kernel
theorem dX0_ringRow_34 : decode cX0_ringRow 34 = .ok (.aload_n 2, 1) := by decide +kernel
theorem dX0_ringRow_35 : decode cX0_ringRow 35 = .ok (.getfield 58, 3) := by decide +kernel
theorem dX0_ringRow_38 : decode cX0_ringRow 38 = .ok (.if_icmp .ge 68, 3) := by decide +kernel
theorem dX0_ringRow_41 : decode cX0_ringRow 41 = .ok (.aload_n 0, 1) := by decide +kernel
theorem dX0_ringRow_42 : decode cX0_ringRow 42 = .ok (.getfield 9, 3) := by decide +kernel
theorem dX0_ringRow_45 : decode cX0_ringRow 45 = .ok (.iload_n 1, 1) := by decide +kernel
theorem dX0_ringRow_46 : decode cX0_ringRow 46 = .ok (.iaload, 1) := by decide +kernel
theorem dX0_ringRow_47 : decode cX0_ringRow 47 = .ok (.iload 4, 2) := by decide +kernel
theorem dX0_ringRow_49 : decode cX0_ringRow 49 = .ok (.ishr, 1) := by decide +kernel
theorem dX0_ringRow_50 : decode cX0_ringRow 50 = .ok (.iconst 1, 1) := by decide +kernel
theorem dX0_ringRow_51 : decode cX0_ringRow 51 = .ok (.iand, 1) := by decide +kernel
theorem dX0_ringRow_52 : decode cX0_ringRow 52 = .ok (.ifCond .ne 6, 3) := by decide +kernel
theorem dX0_ringRow_55 : decode cX0_ringRow 55 = .ok (.goto 45, 3) := by decide +kernel
theorem dX0_ringRow_58 : decode cX0_ringRow 58 = .ok (.aload_n 0, 1) := by decide +kernel
theorem dX0_ringRow_59 : decode cX0_ringRow 59 = .ok (.iload 4, 2) := by decide +kernel
theorem dX0_ringRow_61 : decode cX0_ringRow 61 = .ok (.aload_n 2, 1) := by decide +kernel
theorem dX0_ringRow_62 : decode cX0_ringRow 62 = .ok (.invokevirtual 61, 3) := by decide +kernel
theorem dX0_ringRow_65 : decode cX0_ringRow 65 = .ok (.ifCond .eq 24, 3) := by decide +kernel
theorem dX0_ringRow_68 : decode cX0_ringRow 68 = .ok (.iload_n 3, 1) := by decide +kernel
theorem dX0_ringRow_69 : decode cX0_ringRow 69 = .ok (.iconst 1, 1) := by decide +kernel
theorem dX0_ringRow_70 : decode cX0_ringRow 70 = .ok (.iload 4, 2) := by decide +kernel
theorem dX0_ringRow_72 : decode cX0_ringRow 72 = .ok (.ishl, 1) := by decide +kernel
theorem dX0_ringRow_73 : decode cX0_ringRow 73 = .ok (.ior, 1) := by decide +kernel
theorem dX0_ringRow_74 : decode cX0_ringRow 74 = .ok (.istore_n 3, 1) := by decide +kernel
theorem dX0_ringRow_75 : decode cX0_ringRow 75 = .ok (.aload_n 0, 1) := by decide +kernel
theorem dX0_ringRow_76 : decode cX0_ringRow 76 = .ok (.getfield 18, 3) := by decide +kernel
theorem dX0_ringRow_79 : decode cX0_ringRow 79 = .ok (.iload 4, 2) := by decide +kernel
theorem dX0_ringRow_81 : decode cX0_ringRow 81 = .ok (.dup2, 1) := by decide +kernel
theorem dX0_ringRow_82 : decode cX0_ringRow 82 = .ok (.iaload, 1) := by decide +kernel
theorem dX0_ringRow_83 : decode cX0_ringRow 83 = .ok (.iconst 1, 1) := by decide +kernel
theorem dX0_ringRow_84 : decode cX0_ringRow 84 = .ok (.iadd, 1) := by decide +kernel
theorem dX0_ringRow_85 : decode cX0_ringRow 85 = .ok (.iastore, 1) := by decide +kernel
theorem dX0_ringRow_86 : decode cX0_ringRow 86 = .ok (.goto 14, 3) := by decide +kernel
theorem dX0_ringRow_89 : decode cX0_ringRow 89 = .ok (.aload_n 0, 1) := by decide +kernel
theorem dX0_ringRow_90 : decode cX0_ringRow 90 = .ok (.getfield 21, 3) := by decide +kernel
theorem dX0_ringRow_93 : decode cX0_ringRow 93 = .ok (.iload 4, 2) := by decide +kernel
theorem dX0_ringRow_95 : decode cX0_ringRow 95 = .ok (.dup2, 1) := by decide +kernel
theorem dX0_ringRow_96 : decode cX0_ringRow 96 = .ok (.iaload, 1) := by decide +kernel
theorem dX0_ringRow_97 : decode cX0_ringRow 97 = .ok (.iconst 1, 1) := by decide +kernel
theorem dX0_ringRow_98 : decode cX0_ringRow 98 = .ok (.iadd, 1) := by decide +kernel
theorem dX0_ringRow_99 : decode cX0_ringRow 99 = .ok (.iastore, 1) := by decide +kernel
theorem dX0_ringRow_100 : decode cX0_ringRow 100 = .ok (.iinc 4 1, 3) := by decide +kernel
theorem dX0_ringRow_103 : decode cX0_ringRow 103 = .ok (.goto (-71), 3) := by decide +kernel
theorem dX0_ringRow_106 : decode cX0_ringRow 106 = .ok (.iload_n 3, 1) := by decide +kernel
theorem dX0_ringRow_107 : decode cX0_ringRow 107 = .ok (.ireturn, 1) := by decide +kernel
theorem dX0_strike_0 : decode cX0_strike 0 = .ok (.iload_n 1, 1) := by decide +kernel
theorem dX0_strike_1 : decode cX0_strike 1 = .ok (.iconst 2, 1) := by decide +kernel
theorem dX0_strike_2 : decode cX0_strike 2 = .ok (.imul, 1) := by decide +kernel
theorem dX0_strike_3 : decode cX0_strike 3 = .ok (.istore_n 3, 1) := by decide +kernel
theorem dX0_strike_4 : decode cX0_strike 4 = .ok (.iload_n 3, 1) := by decide +kernel
theorem dX0_strike_5 : decode cX0_strike 5 = .ok (.istore 4, 2) := by decide +kernel
theorem dX0_strike_7 : decode cX0_strike 7 = .ok (.iload 4, 2) := by decide +kernel
theorem dX0_strike_9 : decode cX0_strike 9 = .ok (.iload_n 3, 1) := by decide +kernel
theorem dX0_strike_10 : decode cX0_strike 10 = .ok (.aload_n 2, 1) := by decide +kernel
theorem dX0_strike_11 : decode cX0_strike 11 = .ok (.getfield 65, 3) := by decide +kernel
theorem dX0_strike_14 : decode cX0_strike 14 = .ok (.iload_n 1, 1) := by decide +kernel
theorem dX0_strike_15 : decode cX0_strike 15 = .ok (.iaload, 1) := by decide +kernel
theorem dX0_strike_16 : decode cX0_strike 16 = .ok (.iadd, 1) := by decide +kernel
theorem dX0_strike_17 : decode cX0_strike 17 = .ok (.if_icmp .ge 43, 3) := by decide +kernel
theorem dX0_strike_20 : decode cX0_strike 20 = .ok (.aload_n 0, 1) := by decide +kernel
theorem dX0_strike_21 : decode cX0_strike 21 = .ok (.getfield 15, 3) := by decide +kernel
theorem dX0_strike_24 : decode cX0_strike 24 = .ok (.iload 4, 2) := by decide +kernel
theorem dX0_strike_26 : decode cX0_strike 26 = .ok (.iaload, 1) := by decide +kernel
theorem dX0_strike_27 : decode cX0_strike 27 = .ok (.aload_n 0, 1) := by decide +kernel
theorem dX0_strike_28 : decode cX0_strike 28 = .ok (.getfield 51, 3) := by decide +kernel
theorem dX0_strike_31 : decode cX0_strike 31 = .ok (.if_icmp .gt 23, 3) := by decide +kernel
theorem dX0_strike_34 : decode cX0_strike 34 = .ok (.aload_n 0, 1) := by decide +kernel
theorem dX0_strike_35 : decode cX0_strike 35 = .ok (.getfield 15, 3) := by decide +kernel
theorem dX0_strike_38 : decode cX0_strike 38 = .ok (.iload 4, 2) := by decide +kernel
theorem dX0_strike_40 : decode cX0_strike 40 = .ok (.aload_n 0, 1) := by decide +kernel
theorem dX0_strike_41 : decode cX0_strike 41 = .ok (.getfield 51, 3) := by decide +kernel
theorem dX0_strike_44 : decode cX0_strike 44 = .ok (.aload_n 2, 1) := by decide +kernel
theorem dX0_strike_45 : decode cX0_strike 45 = .ok (.getfield 68, 3) := by decide +kernel
theorem dX0_strike_48 : decode cX0_strike 48 = .ok (.iadd, 1) := by decide +kernel
theorem dX0_strike_49 : decode cX0_strike 49 = .ok (.iconst 1, 1) := by decide +kernel
theorem dX0_strike_50 : decode cX0_strike 50 = .ok (.iadd, 1) := by decide +kernel
theorem dX0_strike_51 : decode cX0_strike 51 = .ok (.iastore, 1) := by decide +kernel
theorem dX0_strike_52 : decode cX0_strike 52 = .ok (.iconst 1, 1) := by decide +kernel
theorem dX0_strike_53 : decode cX0_strike 53 = .ok (.ireturn, 1) := by decide +kernel
theorem dX0_strike_54 : decode cX0_strike 54 = .ok (.iinc 4 1, 3) := by decide +kernel
theorem dX0_strike_57 : decode cX0_strike 57 = .ok (.goto (-50), 3) := by decide +kernel
theorem dX0_strike_60 : decode cX0_strike 60 = .ok (.iconst 0, 1) := by decide +kernel
theorem dX0_strike_61 : decode cX0_strike 61 = .ok (.ireturn, 1) := by decide +kernel
theorem dX0_copy_0 : decode cX0_copy 0 = .ok (.aload_n 1, 1) := by decide +kernel
theorem dX0_copy_1 : decode cX0_copy 1 = .ok (.getfield 9, 3) := by decide +kernel
theorem dX0_copy_4 : decode cX0_copy 4 = .ok (.iconst 0, 1) := by decide +kernel
theorem dX0_copy_5 : decode cX0_copy 5 = .ok (.aload_n 0, 1) := by decide +kernel
theorem dX0_copy_6 : decode cX0_copy 6 = .ok (.getfield 9, 3) := by decide +kernel
theorem dX0_copy_9 : decode cX0_copy 9 = .ok (.iconst 0, 1) := by decide +kernel
theorem dX0_copy_10 : decode cX0_copy 10 = .ok (.aload_n 0, 1) := by decide +kernel
theorem dX0_copy_11 : decode cX0_copy 11 = .ok (.getfield 9, 3) := by decide +kernel
theorem dX0_copy_14 : decode cX0_copy 14 = .ok (.arraylength, 1) := by decide +kernel
theorem dX0_copy_15 : decode cX0_copy 15 = .ok (.invokestatic 39, 3) := by decide +kernel
theorem dX0_copy_18 : decode cX0_copy 18 = .ok (.aload_n 1, 1) := by decide +kernel
theorem dX0_copy_19 : decode cX0_copy 19 = .ok (.getfield 15, 3) := by decide +kernel
theorem dX0_copy_22 : decode cX0_copy 22 = .ok (.iconst 0, 1) := by decide +kernel
theorem dX0_copy_23 : decode cX0_copy 23 = .ok (.aload_n 0, 1) := by decide +kernel
theorem dX0_copy_24 : decode cX0_copy 24 = .ok (.getfield 15, 3) := by decide +kernel
theorem dX0_copy_27 : decode cX0_copy 27 = .ok (.iconst 0, 1) := by decide +kernel
theorem dX0_copy_28 : decode cX0_copy 28 = .ok (.aload_n 0, 1) := by decide +kernel
theorem dX0_copy_29 : decode cX0_copy 29 = .ok (.getfield 15, 3) := by decide +kernel
theorem dX0_copy_32 : decode cX0_copy 32 = .ok (.arraylength, 1) := by decide +kernel
theorem dX0_copy_33 : decode cX0_copy 33 = .ok (.invokestatic 39, 3) := by decide +kernel
theorem dX0_copy_36 : decode cX0_copy 36 = .ok (.aload_n 1, 1) := by decide +kernel
theorem dX0_copy_37 : decode cX0_copy 37 = .ok (.getfield 18, 3) := by decide +kernel
theorem dX0_copy_40 : decode cX0_copy 40 = .ok (.iconst 0, 1) := by decide +kernel
theorem dX0_copy_41 : decode cX0_copy 41 = .ok (.aload_n 0, 1) := by decide +kernel
theorem dX0_copy_42 : decode cX0_copy 42 = .ok (.getfield 18, 3) := by decide +kernel
theorem dX0_copy_45 : decode cX0_copy 45 = .ok (.iconst 0, 1) := by decide +kernel
theorem dX0_copy_46 : decode cX0_copy 46 = .ok (.aload_n 0, 1) := by decide +kernel
theorem dX0_copy_47 : decode cX0_copy 47 = .ok (.getfield 18, 3) := by decide +kernel
theorem dX0_copy_50 : decode cX0_copy 50 = .ok (.arraylength, 1) := by decide +kernel
theorem dX0_copy_51 : decode cX0_copy 51 = .ok (.invokestatic 39, 3) := by decide +kernel
theorem dX0_copy_54 : decode cX0_copy 54 = .ok (.aload_n 1, 1) := by decide +kernel
theorem dX0_copy_55 : decode cX0_copy 55 = .ok (.getfield 21, 3) := by decide +kernel
theorem dX0_copy_58 : decode cX0_copy 58 = .ok (.iconst 0, 1) := by decide +kernel
theorem dX0_copy_59 : decode cX0_copy 59 = .ok (.aload_n 0, 1) := by decide +kernel
theorem dX0_copy_60 : decode cX0_copy 60 = .ok (.getfield 21, 3) := by decide +kernel
theorem dX0_copy_63 : decode cX0_copy 63 = .ok (.iconst 0, 1) := by decide +kernel
theorem dX0_copy_64 : decode cX0_copy 64 = .ok (.aload_n 0, 1) := by decide +kernel
theorem dX0_copy_65 : decode cX0_copy 65 = .ok (.getfield 21, 3) := by decide +kernel
theorem dX0_copy_68 : decode cX0_copy 68 = .ok (.arraylength, 1) := by decide +kernel
theorem dX0_copy_69 : decode cX0_copy 69 = .ok (.invokestatic 39, 3) := by decide +kernel
theorem dX0_copy_72 : decode cX0_copy 72 = .ok (.aload_n 0, 1) := by decide +kernel
theorem dX0_copy_73 : decode cX0_copy 73 = .ok (.aload_n 1, 1) := by decide +kernel
theorem dX0_copy_74 : decode cX0_copy 74 = .ok (.getfield 48, 3) := by decide +kernel
theorem dX0_copy_77 : decode cX0_copy 77 = .ok (.putfield 48, 3) := by decide +kernel
theorem dX0_copy_80 : decode cX0_copy 80 = .ok (.aload_n 0, 1) := by decide +kernel
theorem dX0_copy_81 : decode cX0_copy 81 = .ok (.aload_n 1, 1) := by decide +kernel
theorem dX0_copy_82 : decode cX0_copy 82 = .ok (.getfield 51, 3) := by decide +kernel
theorem dX0_copy_85 : decode cX0_copy 85 = .ok (.putfield 51, 3) := by decide +kernel
theorem dX0_copy_88 : decode cX0_copy 88 = .ok (.return_, 1) := by decide +kernel
theorem dX0_saveTo_0 : decode cX0_saveTo 0 = .ok (.iload_n 2, 1) := by decide +kernel
theorem dX0_saveTo_1 : decode cX0_saveTo 1 = .ok (.ifCond .lt 12, 3) := by decide +kernel
theorem dX0_saveTo_4 : decode cX0_saveTo 4 = .ok (.iload_n 2, 1) := by decide +kernel
theorem dX0_saveTo_5 : decode cX0_saveTo 5 = .ok (.bipush 66, 2) := by decide +kernel
theorem dX0_saveTo_7 : decode cX0_saveTo 7 = .ok (.iadd, 1) := by decide +kernel
theorem dX0_saveTo_8 : decode cX0_saveTo 8 = .ok (.aload_n 1, 1) := by decide +kernel
theorem dX0_saveTo_9 : decode cX0_saveTo 9 = .ok (.arraylength, 1) := by decide +kernel
theorem dX0_saveTo_10 : decode cX0_saveTo 10 = .ok (.if_icmp .le 4, 3) := by decide +kernel
theorem dX0_saveTo_13 : decode cX0_saveTo 13 = .ok (.return_, 1) := by decide +kernel
theorem dX0_saveTo_14 : decode cX0_saveTo 14 = .ok (.iload_n 2, 1) := by decide +kernel
theorem dX0_saveTo_15 : decode cX0_saveTo 15 = .ok (.istore_n 3, 1) := by decide +kernel
theorem dX0_saveTo_16 : decode cX0_saveTo 16 = .ok (.aload_n 1, 1) := by decide +kernel
theorem dX0_saveTo_17 : decode cX0_saveTo 17 = .ok (.iload_n 3, 1) := by decide +kernel
theorem dX0_saveTo_18 : decode cX0_saveTo 18 = .ok (.iinc 3 1, 3) := by decide +kernel
theorem dX0_saveTo_21 : decode cX0_saveTo 21 = .ok (.aload_n 0, 1) := by decide +kernel
theorem dX0_saveTo_22 : decode cX0_saveTo 22 = .ok (.getfield 48, 3) := by decide +kernel
theorem dX0_saveTo_25 : decode cX0_saveTo 25 = .ok (.iastore, 1) := by decide +kernel
theorem dX0_saveTo_26 : decode cX0_saveTo 26 = .ok (.aload_n 1, 1) := by decide +kernel
theorem dX0_saveTo_27 : decode cX0_saveTo 27 = .ok (.iload_n 3, 1) := by decide +kernel
theorem dX0_saveTo_28 : decode cX0_saveTo 28 = .ok (.iinc 3 1, 3) := by decide +kernel
theorem dX0_saveTo_31 : decode cX0_saveTo 31 = .ok (.aload_n 0, 1) := by decide +kernel
theorem dX0_saveTo_32 : decode cX0_saveTo 32 = .ok (.getfield 51, 3) := by decide +kernel
theorem dX0_saveTo_35 : decode cX0_saveTo 35 = .ok (.iastore, 1) := by decide +kernel
theorem dX0_saveTo_36 : decode cX0_saveTo 36 = .ok (.aload_n 0, 1) := by decide +kernel
theorem dX0_saveTo_37 : decode cX0_saveTo 37 = .ok (.getfield 9, 3) := by decide +kernel
theorem dX0_saveTo_40 : decode cX0_saveTo 40 = .ok (.iconst 0, 1) := by decide +kernel
theorem dX0_saveTo_41 : decode cX0_saveTo 41 = .ok (.aload_n 1, 1) := by decide +kernel
theorem dX0_saveTo_42 : decode cX0_saveTo 42 = .ok (.iload_n 3, 1) := by decide +kernel
theorem dX0_saveTo_43 : decode cX0_saveTo 43 = .ok (.aload_n 0, 1) := by decide +kernel
theorem dX0_saveTo_44 : decode cX0_saveTo 44 = .ok (.getfield 9, 3) := by decide +kernel
theorem dX0_saveTo_47 : decode cX0_saveTo 47 = .ok (.arraylength, 1) := by decide +kernel
theorem dX0_saveTo_48 : decode cX0_saveTo 48 = .ok (.invokestatic 39, 3) := by decide +kernel
theorem dX0_saveTo_51 : decode cX0_saveTo 51 = .ok (.iload_n 3, 1) := by decide +kernel
theorem dX0_saveTo_52 : decode cX0_saveTo 52 = .ok (.aload_n 0, 1) := by decide +kernel
theorem dX0_saveTo_53 : decode cX0_saveTo 53 = .ok (.getfield 9, 3) := by decide +kernel
theorem dX0_saveTo_56 : decode cX0_saveTo 56 = .ok (.arraylength, 1) := by decide +kernel
theorem dX0_saveTo_57 : decode cX0_saveTo 57 = .ok (.iadd, 1) := by decide +kernel
theorem dX0_saveTo_58 : decode cX0_saveTo 58 = .ok (.istore_n 3, 1) := by decide +kernel
theorem dX0_saveTo_59 : decode cX0_saveTo 59 = .ok (.aload_n 0, 1) := by decide +kernel
theorem dX0_saveTo_60 : decode cX0_saveTo 60 = .ok (.getfield 15, 3) := by decide +kernel
theorem dX0_saveTo_63 : decode cX0_saveTo 63 = .ok (.iconst 0, 1) := by decide +kernel
theorem dX0_saveTo_64 : decode cX0_saveTo 64 = .ok (.aload_n 1, 1) := by decide +kernel
theorem dX0_saveTo_65 : decode cX0_saveTo 65 = .ok (.iload_n 3, 1) := by decide +kernel
theorem dX0_saveTo_66 : decode cX0_saveTo 66 = .ok (.aload_n 0, 1) := by decide +kernel
theorem dX0_saveTo_67 : decode cX0_saveTo 67 = .ok (.getfield 15, 3) := by decide +kernel
theorem dX0_saveTo_70 : decode cX0_saveTo 70 = .ok (.arraylength, 1) := by decide +kernel
theorem dX0_saveTo_71 : decode cX0_saveTo 71 = .ok (.invokestatic 39, 3) := by decide +kernel
theorem dX0_saveTo_74 : decode cX0_saveTo 74 = .ok (.iload_n 3, 1) := by decide +kernel
theorem dX0_saveTo_75 : decode cX0_saveTo 75 = .ok (.aload_n 0, 1) := by decide +kernel
theorem dX0_saveTo_76 : decode cX0_saveTo 76 = .ok (.getfield 15, 3) := by decide +kernel
theorem dX0_saveTo_79 : decode cX0_saveTo 79 = .ok (.arraylength, 1) := by decide +kernel
theorem dX0_saveTo_80 : decode cX0_saveTo 80 = .ok (.iadd, 1) := by decide +kernel
theorem dX0_saveTo_81 : decode cX0_saveTo 81 = .ok (.istore_n 3, 1) := by decide +kernel
theorem dX0_saveTo_82 : decode cX0_saveTo 82 = .ok (.aload_n 0, 1) := by decide +kernel
theorem dX0_saveTo_83 : decode cX0_saveTo 83 = .ok (.getfield 18, 3) := by decide +kernel
theorem dX0_saveTo_86 : decode cX0_saveTo 86 = .ok (.iconst 0, 1) := by decide +kernel
theorem dX0_saveTo_87 : decode cX0_saveTo 87 = .ok (.aload_n 1, 1) := by decide +kernel
theorem dX0_saveTo_88 : decode cX0_saveTo 88 = .ok (.iload_n 3, 1) := by decide +kernel
theorem dX0_saveTo_89 : decode cX0_saveTo 89 = .ok (.aload_n 0, 1) := by decide +kernel
theorem dX0_saveTo_90 : decode cX0_saveTo 90 = .ok (.getfield 18, 3) := by decide +kernel
theorem dX0_saveTo_93 : decode cX0_saveTo 93 = .ok (.arraylength, 1) := by decide +kernel
theorem dX0_saveTo_94 : decode cX0_saveTo 94 = .ok (.invokestatic 39, 3) := by decide +kernel
theorem dX0_saveTo_97 : decode cX0_saveTo 97 = .ok (.iload_n 3, 1) := by decide +kernel
theorem dX0_saveTo_98 : decode cX0_saveTo 98 = .ok (.aload_n 0, 1) := by decide +kernel
theorem dX0_saveTo_99 : decode cX0_saveTo 99 = .ok (.getfield 18, 3) := by decide +kernel
theorem dX0_saveTo_102 : decode cX0_saveTo 102 = .ok (.arraylength, 1) := by decide +kernel
theorem dX0_saveTo_103 : decode cX0_saveTo 103 = .ok (.iadd, 1) := by decide +kernel
theorem dX0_saveTo_104 : decode cX0_saveTo 104 = .ok (.istore_n 3, 1) := by decide +kernel
theorem dX0_saveTo_105 : decode cX0_saveTo 105 = .ok (.aload_n 0, 1) := by decide +kernel
theorem dX0_saveTo_106 : decode cX0_saveTo 106 = .ok (.getfield 21, 3) := by decide +kernel
theorem dX0_saveTo_109 : decode cX0_saveTo 109 = .ok (.iconst 0, 1) := by decide +kernel
theorem dX0_saveTo_110 : decode cX0_saveTo 110 = .ok (.aload_n 1, 1) := by decide +kernel
theorem dX0_saveTo_111 : decode cX0_saveTo 111 = .ok (.iload_n 3, 1) := by decide +kernel
theorem dX0_saveTo_112 : decode cX0_saveTo 112 = .ok (.aload_n 0, 1) := by decide +kernel
theorem dX0_saveTo_113 : decode cX0_saveTo 113 = .ok (.getfield 21, 3) := by decide +kernel
theorem dX0_saveTo_116 : decode cX0_saveTo 116 = .ok (.arraylength, 1) := by decide +kernel
theorem dX0_saveTo_117 : decode cX0_saveTo 117 = .ok (.invokestatic 39, 3) := by decide +kernel
theorem dX0_saveTo_120 : decode cX0_saveTo 120 = .ok (.return_, 1) := by decide +kernel
theorem dX0_loadFrom_0 : decode cX0_loadFrom 0 = .ok (.iload_n 2, 1) := by decide +kernel
theorem dX0_loadFrom_1 : decode cX0_loadFrom 1 = .ok (.ifCond .lt 12, 3) := by decide +kernel
theorem dX0_loadFrom_4 : decode cX0_loadFrom 4 = .ok (.iload_n 2, 1) := by decide +kernel
theorem dX0_loadFrom_5 : decode cX0_loadFrom 5 = .ok (.bipush 66, 2) := by decide +kernel
theorem dX0_loadFrom_7 : decode cX0_loadFrom 7 = .ok (.iadd, 1) := by decide +kernel
theorem dX0_loadFrom_8 : decode cX0_loadFrom 8 = .ok (.aload_n 1, 1) := by decide +kernel
theorem dX0_loadFrom_9 : decode cX0_loadFrom 9 = .ok (.arraylength, 1) := by decide +kernel
theorem dX0_loadFrom_10 : decode cX0_loadFrom 10 = .ok (.if_icmp .le 4, 3) := by decide +kernel
theorem dX0_loadFrom_13 : decode cX0_loadFrom 13 = .ok (.return_, 1) := by decide +kernel
theorem dX0_loadFrom_14 : decode cX0_loadFrom 14 = .ok (.iload_n 2, 1) := by decide +kernel
theorem dX0_loadFrom_15 : decode cX0_loadFrom 15 = .ok (.istore_n 3, 1) := by decide +kernel
theorem dX0_loadFrom_16 : decode cX0_loadFrom 16 = .ok (.aload_n 0, 1) := by decide +kernel
theorem dX0_loadFrom_17 : decode cX0_loadFrom 17 = .ok (.aload_n 1, 1) := by decide +kernel
theorem dX0_loadFrom_18 : decode cX0_loadFrom 18 = .ok (.iload_n 3, 1) := by decide +kernel
theorem dX0_loadFrom_19 : decode cX0_loadFrom 19 = .ok (.iinc 3 1, 3) := by decide +kernel
theorem dX0_loadFrom_22 : decode cX0_loadFrom 22 = .ok (.iaload, 1) := by decide +kernel
theorem dX0_loadFrom_23 : decode cX0_loadFrom 23 = .ok (.putfield 48, 3) := by decide +kernel
theorem dX0_loadFrom_26 : decode cX0_loadFrom 26 = .ok (.aload_n 0, 1) := by decide +kernel
theorem dX0_loadFrom_27 : decode cX0_loadFrom 27 = .ok (.aload_n 1, 1) := by decide +kernel
theorem dX0_loadFrom_28 : decode cX0_loadFrom 28 = .ok (.iload_n 3, 1) := by decide +kernel
theorem dX0_loadFrom_29 : decode cX0_loadFrom 29 = .ok (.iinc 3 1, 3) := by decide +kernel
theorem dX0_loadFrom_32 : decode cX0_loadFrom 32 = .ok (.iaload, 1) := by decide +kernel
theorem dX0_loadFrom_33 : decode cX0_loadFrom 33 = .ok (.putfield 51, 3) := by decide +kernel
theorem dX0_loadFrom_36 : decode cX0_loadFrom 36 = .ok (.aload_n 1, 1) := by decide +kernel
theorem dX0_loadFrom_37 : decode cX0_loadFrom 37 = .ok (.iload_n 3, 1) := by decide +kernel
theorem dX0_loadFrom_38 : decode cX0_loadFrom 38 = .ok (.aload_n 0, 1) := by decide +kernel
theorem dX0_loadFrom_39 : decode cX0_loadFrom 39 = .ok (.getfield 9, 3) := by decide +kernel
theorem dX0_loadFrom_42 : decode cX0_loadFrom 42 = .ok (.iconst 0, 1) := by decide +kernel
theorem dX0_loadFrom_43 : decode cX0_loadFrom 43 = .ok (.aload_n 0, 1) := by decide +kernel
theorem dX0_loadFrom_44 : decode cX0_loadFrom 44 = .ok (.getfield 9, 3) := by decide +kernel
theorem dX0_loadFrom_47 : decode cX0_loadFrom 47 = .ok (.arraylength, 1) := by decide +kernel
theorem dX0_loadFrom_48 : decode cX0_loadFrom 48 = .ok (.invokestatic 39, 3) := by decide +kernel
theorem dX0_loadFrom_51 : decode cX0_loadFrom 51 = .ok (.iload_n 3, 1) := by decide +kernel
theorem dX0_loadFrom_52 : decode cX0_loadFrom 52 = .ok (.aload_n 0, 1) := by decide +kernel
theorem dX0_loadFrom_53 : decode cX0_loadFrom 53 = .ok (.getfield 9, 3) := by decide +kernel
theorem dX0_loadFrom_56 : decode cX0_loadFrom 56 = .ok (.arraylength, 1) := by decide +kernel
theorem dX0_loadFrom_57 : decode cX0_loadFrom 57 = .ok (.iadd, 1) := by decide +kernel
theorem dX0_loadFrom_58 : decode cX0_loadFrom 58 = .ok (.istore_n 3, 1) := by decide +kernel
theorem dX0_loadFrom_59 : decode cX0_loadFrom 59 = .ok (.aload_n 1, 1) := by decide +kernel
theorem dX0_loadFrom_60 : decode cX0_loadFrom 60 = .ok (.iload_n 3, 1) := by decide +kernel
theorem dX0_loadFrom_61 : decode cX0_loadFrom 61 = .ok (.aload_n 0, 1) := by decide +kernel
theorem dX0_loadFrom_62 : decode cX0_loadFrom 62 = .ok (.getfield 15, 3) := by decide +kernel
theorem dX0_loadFrom_65 : decode cX0_loadFrom 65 = .ok (.iconst 0, 1) := by decide +kernel
theorem dX0_loadFrom_66 : decode cX0_loadFrom 66 = .ok (.aload_n 0, 1) := by decide +kernel
theorem dX0_loadFrom_67 : decode cX0_loadFrom 67 = .ok (.getfield 15, 3) := by decide +kernel
theorem dX0_loadFrom_70 : decode cX0_loadFrom 70 = .ok (.arraylength, 1) := by decide +kernel
theorem dX0_loadFrom_71 : decode cX0_loadFrom 71 = .ok (.invokestatic 39, 3) := by decide +kernel
theorem dX0_loadFrom_74 : decode cX0_loadFrom 74 = .ok (.iload_n 3, 1) := by decide +kernel
theorem dX0_loadFrom_75 : decode cX0_loadFrom 75 = .ok (.aload_n 0, 1) := by decide +kernel
theorem dX0_loadFrom_76 : decode cX0_loadFrom 76 = .ok (.getfield 15, 3) := by decide +kernel
theorem dX0_loadFrom_79 : decode cX0_loadFrom 79 = .ok (.arraylength, 1) := by decide +kernel
theorem dX0_loadFrom_80 : decode cX0_loadFrom 80 = .ok (.iadd, 1) := by decide +kernel
theorem dX0_loadFrom_81 : decode cX0_loadFrom 81 = .ok (.istore_n 3, 1) := by decide +kernel
theorem dX0_loadFrom_82 : decode cX0_loadFrom 82 = .ok (.aload_n 1, 1) := by decide +kernel
theorem dX0_loadFrom_83 : decode cX0_loadFrom 83 = .ok (.iload_n 3, 1) := by decide +kernel
theorem dX0_loadFrom_84 : decode cX0_loadFrom 84 = .ok (.aload_n 0, 1) := by decide +kernel
theorem dX0_loadFrom_85 : decode cX0_loadFrom 85 = .ok (.getfield 18, 3) := by decide +kernel
theorem dX0_loadFrom_88 : decode cX0_loadFrom 88 = .ok (.iconst 0, 1) := by decide +kernel
theorem dX0_loadFrom_89 : decode cX0_loadFrom 89 = .ok (.aload_n 0, 1) := by decide +kernel
theorem dX0_loadFrom_90 : decode cX0_loadFrom 90 = .ok (.getfield 18, 3) := by decide +kernel
theorem dX0_loadFrom_93 : decode cX0_loadFrom 93 = .ok (.arraylength, 1) := by decide +kernel
theorem dX0_loadFrom_94 : decode cX0_loadFrom 94 = .ok (.invokestatic 39, 3) := by decide +kernel
theorem dX0_loadFrom_97 : decode cX0_loadFrom 97 = .ok (.iload_n 3, 1) := by decide +kernel
theorem dX0_loadFrom_98 : decode cX0_loadFrom 98 = .ok (.aload_n 0, 1) := by decide +kernel
theorem dX0_loadFrom_99 : decode cX0_loadFrom 99 = .ok (.getfield 18, 3) := by decide +kernel
theorem dX0_loadFrom_102 : decode cX0_loadFrom 102 = .ok (.arraylength, 1) := by decide +kernel
theorem dX0_loadFrom_103 : decode cX0_loadFrom 103 = .ok (.iadd, 1) := by decide +kernel
theorem dX0_loadFrom_104 : decode cX0_loadFrom 104 = .ok (.istore_n 3, 1) := by decide +kernel
theorem dX0_loadFrom_105 : decode cX0_loadFrom 105 = .ok (.aload_n 1, 1) := by decide +kernel
theorem dX0_loadFrom_106 : decode cX0_loadFrom 106 = .ok (.iload_n 3, 1) := by decide +kernel
theorem dX0_loadFrom_107 : decode cX0_loadFrom 107 = .ok (.aload_n 0, 1) := by decide +kernel
theorem dX0_loadFrom_108 : decode cX0_loadFrom 108 = .ok (.getfield 21, 3) := by decide +kernel
theorem dX0_loadFrom_111 : decode cX0_loadFrom 111 = .ok (.iconst 0, 1) := by decide +kernel
theorem dX0_loadFrom_112 : decode cX0_loadFrom 112 = .ok (.aload_n 0, 1) := by decide +kernel
theorem dX0_loadFrom_113 : decode cX0_loadFrom 113 = .ok (.getfield 21, 3) := by decide +kernel
theorem dX0_loadFrom_116 : decode cX0_loadFrom 116 = .ok (.arraylength, 1) := by decide +kernel
theorem dX0_loadFrom_117 : decode cX0_loadFrom 117 = .ok (.invokestatic 39, 3) := by decide +kernel
theorem dX0_loadFrom_120 : decode cX0_loadFrom 120 = .ok (.return_, 1) := by decide +kernel
theorem dX1_init_0 : decode cX1_init 0 = .ok (.aload_n 0, 1) := by decide +kernel
theorem dX1_init_1 : decode cX1_init 1 = .ok (.invokespecial 3, 3) := by decide +kernel
theorem dX1_init_4 : decode cX1_init 4 = .ok (.aload_n 0, 1) := by decide +kernel
theorem dX1_init_5 : decode cX1_init 5 = .ok (.bipush 8, 2) := by decide +kernel
theorem dX1_init_7 : decode cX1_init 7 = .ok (.newarray .int, 2) := by decide +kernel
theorem dX1_init_9 : decode cX1_init 9 = .ok (.putfield 9, 3) := by decide +kernel
theorem dX1_init_12 : decode cX1_init 12 = .ok (.aload_n 0, 1) := by decide +kernel
theorem dX1_init_13 : decode cX1_init 13 = .ok (.bipush 8, 2) := by decide +kernel
theorem dX1_init_15 : decode cX1_init 15 = .ok (.newarray .int, 2) := by decide +kernel
theorem dX1_init_17 : decode cX1_init 17 = .ok (.putfield 15, 3) := by decide +kernel
theorem dX1_init_20 : decode cX1_init 20 = .ok (.return_, 1) := by decide +kernel
theorem dX1_fewestPeople_0 : decode cX1_fewestPeople 0 = .ok (.aload_n 0, 1) := by decide +kernel
theorem dX1_fewestPeople_1 : decode cX1_fewestPeople 1 = .ok (.aload_n 2, 1) := by decide +kernel
theorem dX1_fewestPeople_2 : decode cX1_fewestPeople 2 = .ok (.getfield 18, 3) := by decide +kernel
theorem dX1_fewestPeople_5 : decode cX1_fewestPeople 5 = .ok (.putfield 24, 3) := by decide +kernel
theorem dX1_fewestPeople_8 : decode cX1_fewestPeople 8 = .ok (.aload_n 0, 1) := by decide +kernel
theorem dX1_fewestPeople_9 : decode cX1_fewestPeople 9 = .ok (.aload_n 0, 1) := by decide +kernel
theorem dX1_fewestPeople_10 : decode cX1_fewestPeople 10 = .ok (.getfield 24, 3) := by decide +kernel
theorem dX1_fewestPeople_13 : decode cX1_fewestPeople 13 = .ok (.putfield 25, 3) := by decide +kernel
theorem dX1_fewestPeople_16 : decode cX1_fewestPeople 16 = .ok (.aload_n 0, 1) := by decide +kernel
theorem dX1_fewestPeople_17 : decode cX1_fewestPeople 17 = .ok (.getfield 9, 3) := by decide +kernel
theorem dX1_fewestPeople_20 : decode cX1_fewestPeople 20 = .ok (.iconst 0, 1) := by decide +kernel
theorem dX1_fewestPeople_21 : decode cX1_fewestPeople 21 = .ok (.invokestatic 28, 3) := by decide +kernel
theorem dX1_fewestPeople_24 : decode cX1_fewestPeople 24 = .ok (.aload_n 0, 1) := by decide +kernel
theorem dX1_fewestPeople_25 : decode cX1_fewestPeople 25 = .ok (.getfield 15, 3) := by decide +kernel
theorem dX1_fewestPeople_28 : decode cX1_fewestPeople 28 = .ok (.iconst 0, 1) := by decide +kernel
theorem dX1_fewestPeople_29 : decode cX1_fewestPeople 29 = .ok (.invokestatic 28, 3) := by decide +kernel
theorem dX1_fewestPeople_32 : decode cX1_fewestPeople 32 = .ok (.iconst 0, 1) := by decide +kernel
theorem dX1_fewestPeople_33 : decode cX1_fewestPeople 33 = .ok (.istore_n 3, 1) := by decide +kernel
theorem dX1_fewestPeople_34 : decode cX1_fewestPeople 34 = .ok (.iload_n 3, 1) := by decide +kernel
theorem dX1_fewestPeople_35 : decode cX1_fewestPeople 35 = .ok (.aload_n 2, 1) := by decide +kernel
theorem dX1_fewestPeople_36 : decode cX1_fewestPeople 36 = .ok (.getfield 34, 3) := by decide +kernel
theorem dX1_fewestPeople_39 : decode cX1_fewestPeople 39 = .ok (.if_icmp .ge 59, 3) := by decide +kernel
theorem dX1_fewestPeople_42 : decode cX1_fewestPeople 42 = .ok (.iconst 0, 1) := by decide +kernel
theorem dX1_fewestPeople_43 : decode cX1_fewestPeople 43 = .ok (.istore 4, 2) := by decide +kernel
theorem dX1_fewestPeople_45 : decode cX1_fewestPeople 45 = .ok (.iload 4, 2) := by decide +kernel
theorem dX1_fewestPeople_47 : decode cX1_fewestPeople 47 = .ok (.aload_n 0, 1) := by decide +kernel
theorem dX1_fewestPeople_48 : decode cX1_fewestPeople 48 = .ok (.getfield 24, 3) := by decide +kernel
theorem dX1_fewestPeople_51 : decode cX1_fewestPeople 51 = .ok (.if_icmp .ge 41, 3) := by decide +kernel
theorem dX1_fewestPeople_54 : decode cX1_fewestPeople 54 = .ok (.aload_n 1, 1) := by decide +kernel
theorem dX1_fewestPeople_55 : decode cX1_fewestPeople 55 = .ok (.iload_n 3, 1) := by decide +kernel
theorem dX1_fewestPeople_56 : decode cX1_fewestPeople 56 = .ok (.iaload, 1) := by decide +kernel
theorem dX1_fewestPeople_57 : decode cX1_fewestPeople 57 = .ok (.iload 4, 2) := by decide +kernel
theorem dX1_fewestPeople_59 : decode cX1_fewestPeople 59 = .ok (.ishr, 1) := by decide +kernel
theorem dX1_fewestPeople_60 : decode cX1_fewestPeople 60 = .ok (.iconst 1, 1) := by decide +kernel
theorem dX1_fewestPeople_61 : decode cX1_fewestPeople 61 = .ok (.iand, 1) := by decide +kernel
theorem dX1_fewestPeople_62 : decode cX1_fewestPeople 62 = .ok (.iconst 1, 1) := by decide +kernel
theorem dX1_fewestPeople_63 : decode cX1_fewestPeople 63 = .ok (.if_icmp .ne 23, 3) := by decide +kernel
theorem dX1_fewestPeople_66 : decode cX1_fewestPeople 66 = .ok (.aload_n 0, 1) := by decide +kernel
theorem dX1_fewestPeople_67 : decode cX1_fewestPeople 67 = .ok (.getfield 9, 3) := by decide +kernel
theorem dX1_fewestPeople_70 : decode cX1_fewestPeople 70 = .ok (.iload 4, 2) := by decide +kernel
theorem dX1_fewestPeople_72 : decode cX1_fewestPeople 72 = .ok (.dup2, 1) := by decide +kernel
theorem dX1_fewestPeople_73 : decode cX1_fewestPeople 73 = .ok (.iaload, 1) := by decide +kernel
theorem dX1_fewestPeople_74 : decode cX1_fewestPeople 74 = .ok (.aload_n 1, 1) := by decide +kernel
theorem dX1_fewestPeople_75 : decode cX1_fewestPeople 75 = .ok (.iload_n 3, 1) := by decide +kernel
theorem dX1_fewestPeople_76 : decode cX1_fewestPeople 76 = .ok (.iaload, 1) := by decide +kernel
theorem dX1_fewestPeople_77 : decode cX1_fewestPeople 77 = .ok (.iconst 1, 1) := by decide +kernel
theorem dX1_fewestPeople_78 : decode cX1_fewestPeople 78 = .ok (.iload 4, 2) := by decide +kernel
theorem dX1_fewestPeople_80 : decode cX1_fewestPeople 80 = .ok (.ishl, 1) := by decide +kernel
theorem dX1_fewestPeople_81 : decode cX1_fewestPeople 81 = .ok (.iconst (-1), 1) := by decide +kernel
theorem dX1_fewestPeople_82 : decode cX1_fewestPeople 82 = .ok (.ixor, 1) := by decide +kernel
theorem dX1_fewestPeople_83 : decode cX1_fewestPeople 83 = .ok (.iand, 1) := by decide +kernel
theorem dX1_fewestPeople_84 : decode cX1_fewestPeople 84 = .ok (.ior, 1) := by decide +kernel
theorem dX1_fewestPeople_85 : decode cX1_fewestPeople 85 = .ok (.iastore, 1) := by decide +kernel
theorem dX1_fewestPeople_86 : decode cX1_fewestPeople 86 = .ok (.iinc 4 1, 3) := by decide +kernel
theorem dX1_fewestPeople_89 : decode cX1_fewestPeople 89 = .ok (.goto (-44), 3) := by decide +kernel
theorem dX1_fewestPeople_92 : decode cX1_fewestPeople 92 = .ok (.iinc 3 1, 3) := by decide +kernel
theorem dX1_fewestPeople_95 : decode cX1_fewestPeople 95 = .ok (.goto (-61), 3) := by decide +kernel
theorem dX1_fewestPeople_98 : decode cX1_fewestPeople 98 = .ok (.aload_n 0, 1) := by decide +kernel
theorem dX1_fewestPeople_99 : decode cX1_fewestPeople 99 = .ok (.iconst 0, 1) := by decide +kernel
theorem dX1_fewestPeople_100 : decode cX1_fewestPeople 100 = .ok (.iconst 0, 1) := by decide +kernel
theorem dX1_fewestPeople_101 : decode cX1_fewestPeople 101 = .ok (.invokevirtual 37, 3) := by decide +kernel
theorem dX1_fewestPeople_104 : decode cX1_fewestPeople 104 = .ok (.aload_n 0, 1) := by decide +kernel
theorem dX1_fewestPeople_105 : decode cX1_fewestPeople 105 = .ok (.getfield 25, 3) := by decide +kernel
theorem dX1_fewestPeople_108 : decode cX1_fewestPeople 108 = .ok (.ireturn, 1) := by decide +kernel
theorem dX1_partFrom_0 : decode cX1_partFrom 0 = .ok (.iload_n 2, 1) := by decide +kernel
theorem dX1_partFrom_1 : decode cX1_partFrom 1 = .ok (.aload_n 0, 1) := by decide +kernel
theorem dX1_partFrom_2 : decode cX1_partFrom 2 = .ok (.getfield 25, 3) := by decide +kernel
theorem dX1_partFrom_5 : decode cX1_partFrom 5 = .ok (.if_icmp .lt 4, 3) := by decide +kernel
theorem dX1_partFrom_8 : decode cX1_partFrom 8 = .ok (.return_, 1) := by decide +kernel
theorem dX1_partFrom_9 : decode cX1_partFrom 9 = .ok (.iload_n 1, 1) := by decide +kernel
theorem dX1_partFrom_10 : decode cX1_partFrom 10 = .ok (.aload_n 0, 1) := by decide +kernel
theorem dX1_partFrom_11 : decode cX1_partFrom 11 = .ok (.getfield 24, 3) := by decide +kernel
theorem dX1_partFrom_14 : decode cX1_partFrom 14 = .ok (.if_icmp .ge 9, 3) := by decide +kernel
theorem dX1_partFrom_17 : decode cX1_partFrom 17 = .ok (.iload_n 1, 1) := by decide +kernel
theorem dX1_partFrom_18 : decode cX1_partFrom 18 = .ok (.bipush 8, 2) := by decide +kernel
theorem dX1_partFrom_20 : decode cX1_partFrom 20 = .ok (.if_icmp .lt 9, 3) := by decide +kernel
theorem dX1_partFrom_23 : decode cX1_partFrom 23 = .ok (.aload_n 0, 1) := by decide +kernel
theorem dX1_partFrom_24 : decode cX1_partFrom 24 = .ok (.iload_n 2, 1) := by decide +kernel
theorem dX1_partFrom_25 : decode cX1_partFrom 25 = .ok (.putfield 25, 3) := by decide +kernel
theorem dX1_partFrom_28 : decode cX1_partFrom 28 = .ok (.return_, 1) := by decide +kernel
theorem dX1_partFrom_29 : decode cX1_partFrom 29 = .ok (.iconst 0, 1) := by decide +kernel
theorem dX1_partFrom_30 : decode cX1_partFrom 30 = .ok (.istore_n 3, 1) := by decide +kernel
theorem dX1_partFrom_31 : decode cX1_partFrom 31 = .ok (.iload_n 3, 1) := by decide +kernel
theorem dX1_partFrom_32 : decode cX1_partFrom 32 = .ok (.iload_n 2, 1) := by decide +kernel
theorem dX1_partFrom_33 : decode cX1_partFrom 33 = .ok (.if_icmp .gt 71, 3) := by decide +kernel
theorem dX1_partFrom_36 : decode cX1_partFrom 36 = .ok (.iload_n 3, 1) := by decide +kernel
theorem dX1_partFrom_37 : decode cX1_partFrom 37 = .ok (.bipush 8, 2) := by decide +kernel
theorem dX1_partFrom_39 : decode cX1_partFrom 39 = .ok (.if_icmp .ge 65, 3) := by decide +kernel
theorem dX1_partFrom_42 : decode cX1_partFrom 42 = .ok (.aload_n 0, 1) := by decide +kernel
theorem dX1_partFrom_43 : decode cX1_partFrom 43 = .ok (.getfield 15, 3) := by decide +kernel
theorem dX1_partFrom_46 : decode cX1_partFrom 46 = .ok (.iload_n 3, 1) := by decide +kernel
theorem dX1_partFrom_47 : decode cX1_partFrom 47 = .ok (.iaload, 1) := by decide +kernel
theorem dX1_partFrom_48 : decode cX1_partFrom 48 = .ok (.aload_n 0, 1) := by decide +kernel
theorem dX1_partFrom_49 : decode cX1_partFrom 49 = .ok (.getfield 9, 3) := by decide +kernel
theorem dX1_partFrom_52 : decode cX1_partFrom 52 = .ok (.iload_n 1, 1) := by decide +kernel
theorem dX1_partFrom_53 : decode cX1_partFrom 53 = .ok (.iaload, 1) := by decide +kernel
theorem dX1_partFrom_54 : decode cX1_partFrom 54 = .ok (.iand, 1) := by decide +kernel
theorem dX1_partFrom_55 : decode cX1_partFrom 55 = .ok (.ifCond .ne 43, 3) := by decide +kernel
theorem dX1_partFrom_58 : decode cX1_partFrom 58 = .ok (.aload_n 0, 1) := by decide +kernel
theorem dX1_partFrom_59 : decode cX1_partFrom 59 = .ok (.getfield 15, 3) := by decide +kernel
theorem dX1_partFrom_62 : decode cX1_partFrom 62 = .ok (.iload_n 3, 1) := by decide +kernel
theorem dX1_partFrom_63 : decode cX1_partFrom 63 = .ok (.dup2, 1) := by decide +kernel
theorem dX1_partFrom_64 : decode cX1_partFrom 64 = .ok (.iaload, 1) := by decide +kernel
theorem dX1_partFrom_65 : decode cX1_partFrom 65 = .ok (.iconst 1, 1) := by decide +kernel
theorem dX1_partFrom_66 : decode cX1_partFrom 66 = .ok (.iload_n 1, 1) := by decide +kernel
theorem dX1_partFrom_67 : decode cX1_partFrom 67 = .ok (.ishl, 1) := by decide +kernel
theorem dX1_partFrom_68 : decode cX1_partFrom 68 = .ok (.ior, 1) := by decide +kernel
theorem dX1_partFrom_69 : decode cX1_partFrom 69 = .ok (.iastore, 1) := by decide +kernel
theorem dX1_partFrom_70 : decode cX1_partFrom 70 = .ok (.aload_n 0, 1) := by decide +kernel
theorem dX1_partFrom_71 : decode cX1_partFrom 71 = .ok (.iload_n 1, 1) := by decide +kernel
theorem dX1_partFrom_72 : decode cX1_partFrom 72 = .ok (.iconst 1, 1) := by decide +kernel
theorem dX1_partFrom_73 : decode cX1_partFrom 73 = .ok (.iadd, 1) := by decide +kernel
theorem dX1_partFrom_74 : decode cX1_partFrom 74 = .ok (.iload_n 2, 1) := by decide +kernel
theorem dX1_partFrom_75 : decode cX1_partFrom 75 = .ok (.iload_n 3, 1) := by decide +kernel
theorem dX1_partFrom_76 : decode cX1_partFrom 76 = .ok (.iconst 1, 1) := by decide +kernel
theorem dX1_partFrom_77 : decode cX1_partFrom 77 = .ok (.iadd, 1) := by decide +kernel
theorem dX1_partFrom_78 : decode cX1_partFrom 78 = .ok (.invokestatic 41, 3) := by decide +kernel
theorem dX1_partFrom_81 : decode cX1_partFrom 81 = .ok (.invokevirtual 37, 3) := by decide +kernel
theorem dX1_partFrom_84 : decode cX1_partFrom 84 = .ok (.aload_n 0, 1) := by decide +kernel
theorem dX1_partFrom_85 : decode cX1_partFrom 85 = .ok (.getfield 15, 3) := by decide +kernel
theorem dX1_partFrom_88 : decode cX1_partFrom 88 = .ok (.iload_n 3, 1) := by decide +kernel
theorem dX1_partFrom_89 : decode cX1_partFrom 89 = .ok (.dup2, 1) := by decide +kernel
theorem dX1_partFrom_90 : decode cX1_partFrom 90 = .ok (.iaload, 1) := by decide +kernel
theorem dX1_partFrom_91 : decode cX1_partFrom 91 = .ok (.iconst 1, 1) := by decide +kernel
theorem dX1_partFrom_92 : decode cX1_partFrom 92 = .ok (.iload_n 1, 1) := by decide +kernel
theorem dX1_partFrom_93 : decode cX1_partFrom 93 = .ok (.ishl, 1) := by decide +kernel
theorem dX1_partFrom_94 : decode cX1_partFrom 94 = .ok (.iconst (-1), 1) := by decide +kernel
theorem dX1_partFrom_95 : decode cX1_partFrom 95 = .ok (.ixor, 1) := by decide +kernel
theorem dX1_partFrom_96 : decode cX1_partFrom 96 = .ok (.iand, 1) := by decide +kernel
theorem dX1_partFrom_97 : decode cX1_partFrom 97 = .ok (.iastore, 1) := by decide +kernel
theorem dX1_partFrom_98 : decode cX1_partFrom 98 = .ok (.iinc 3 1, 3) := by decide +kernel
theorem dX1_partFrom_101 : decode cX1_partFrom 101 = .ok (.goto (-70), 3) := by decide +kernel
theorem dX1_partFrom_104 : decode cX1_partFrom 104 = .ok (.return_, 1) := by decide +kernel
theorem dX2_init_0 : decode cX2_init 0 = .ok (.aload_n 0, 1) := by decide +kernel
theorem dX2_init_1 : decode cX2_init 1 = .ok (.invokespecial 1, 3) := by decide +kernel
theorem dX2_init_4 : decode cX2_init 4 = .ok (.aload_n 0, 1) := by decide +kernel
theorem dX2_init_5 : decode cX2_init 5 = .ok (.iload_n 1, 1) := by decide +kernel
theorem dX2_init_6 : decode cX2_init 6 = .ok (.iconst 1, 1) := by decide +kernel
theorem dX2_init_7 : decode cX2_init 7 = .ok (.invokestatic 7, 3) := by decide +kernel
theorem dX2_init_10 : decode cX2_init 10 = .ok (.putfield 13, 3) := by decide +kernel
theorem dX2_init_13 : decode cX2_init 13 = .ok (.aload_n 0, 1) := by decide +kernel
theorem dX2_init_14 : decode cX2_init 14 = .ok (.aload_n 0, 1) := by decide +kernel
theorem dX2_init_15 : decode cX2_init 15 = .ok (.getfield 13, 3) := by decide +kernel
theorem dX2_init_18 : decode cX2_init 18 = .ok (.bipush 66, 2) := by decide +kernel
theorem dX2_init_20 : decode cX2_init 20 = .ok (.imul, 1) := by decide +kernel
theorem dX2_init_21 : decode cX2_init 21 = .ok (.newarray .int, 2) := by decide +kernel
theorem dX2_init_23 : decode cX2_init 23 = .ok (.putfield 21, 3) := by decide +kernel
theorem dX2_init_26 : decode cX2_init 26 = .ok (.return_, 1) := by decide +kernel
theorem dX2_clear_0 : decode cX2_clear 0 = .ok (.aload_n 0, 1) := by decide +kernel
theorem dX2_clear_1 : decode cX2_clear 1 = .ok (.iconst 0, 1) := by decide +kernel
theorem dX2_clear_2 : decode cX2_clear 2 = .ok (.putfield 25, 3) := by decide +kernel
theorem dX2_clear_5 : decode cX2_clear 5 = .ok (.return_, 1) := by decide +kernel
theorem dX2_put_0 : decode cX2_put 0 = .ok (.aload_n 1, 1) := by decide +kernel
theorem dX2_put_1 : decode cX2_put 1 = .ok (.aload_n 0, 1) := by decide +kernel
theorem dX2_put_2 : decode cX2_put 2 = .ok (.getfield 21, 3) := by decide +kernel
theorem dX2_put_5 : decode cX2_put 5 = .ok (.aload_n 0, 1) := by decide +kernel
theorem dX2_put_6 : decode cX2_put 6 = .ok (.getfield 28, 3) := by decide +kernel
theorem dX2_put_9 : decode cX2_put 9 = .ok (.bipush 66, 2) := by decide +kernel
theorem dX2_put_11 : decode cX2_put 11 = .ok (.imul, 1) := by decide +kernel
theorem dX2_put_12 : decode cX2_put 12 = .ok (.invokevirtual 31, 3) := by decide +kernel
theorem dX2_put_15 : decode cX2_put 15 = .ok (.aload_n 0, 1) := by decide +kernel
theorem dX2_put_16 : decode cX2_put 16 = .ok (.aload_n 0, 1) := by decide +kernel
theorem dX2_put_17 : decode cX2_put 17 = .ok (.getfield 28, 3) := by decide +kernel
theorem dX2_put_20 : decode cX2_put 20 = .ok (.iconst 1, 1) := by decide +kernel
theorem dX2_put_21 : decode cX2_put 21 = .ok (.iadd, 1) := by decide +kernel
theorem dX2_put_22 : decode cX2_put 22 = .ok (.aload_n 0, 1) := by decide +kernel
theorem dX2_put_23 : decode cX2_put 23 = .ok (.getfield 13, 3) := by decide +kernel
theorem dX2_put_26 : decode cX2_put 26 = .ok (.if_icmp .ge 12, 3) := by decide +kernel
theorem dX2_put_29 : decode cX2_put 29 = .ok (.aload_n 0, 1) := by decide +kernel
theorem dX2_put_30 : decode cX2_put 30 = .ok (.getfield 28, 3) := by decide +kernel
theorem dX2_put_33 : decode cX2_put 33 = .ok (.iconst 1, 1) := by decide +kernel
theorem dX2_put_34 : decode cX2_put 34 = .ok (.iadd, 1) := by decide +kernel
theorem dX2_put_35 : decode cX2_put 35 = .ok (.goto 4, 3) := by decide +kernel
theorem dX2_put_38 : decode cX2_put 38 = .ok (.iconst 0, 1) := by decide +kernel
theorem dX2_put_39 : decode cX2_put 39 = .ok (.putfield 28, 3) := by decide +kernel
theorem dX2_put_42 : decode cX2_put 42 = .ok (.aload_n 0, 1) := by decide +kernel
theorem dX2_put_43 : decode cX2_put 43 = .ok (.aload_n 0, 1) := by decide +kernel
theorem dX2_put_44 : decode cX2_put 44 = .ok (.getfield 25, 3) := by decide +kernel
theorem dX2_put_47 : decode cX2_put 47 = .ok (.iconst 1, 1) := by decide +kernel
theorem dX2_put_48 : decode cX2_put 48 = .ok (.iadd, 1) := by decide +kernel
theorem dX2_put_49 : decode cX2_put 49 = .ok (.aload_n 0, 1) := by decide +kernel
theorem dX2_put_50 : decode cX2_put 50 = .ok (.getfield 13, 3) := by decide +kernel
theorem dX2_put_53 : decode cX2_put 53 = .ok (.invokestatic 35, 3) := by decide +kernel
theorem dX2_put_56 : decode cX2_put 56 = .ok (.putfield 25, 3) := by decide +kernel
theorem dX2_put_59 : decode cX2_put 59 = .ok (.return_, 1) := by decide +kernel
theorem dX2_takeInto_0 : decode cX2_takeInto 0 = .ok (.aload_n 0, 1) := by decide +kernel
theorem dX2_takeInto_1 : decode cX2_takeInto 1 = .ok (.getfield 25, 3) := by decide +kernel
theorem dX2_takeInto_4 : decode cX2_takeInto 4 = .ok (.iconst 1, 1) := by decide +kernel
theorem dX2_takeInto_5 : decode cX2_takeInto 5 = .ok (.if_icmp .ge 5, 3) := by decide +kernel
theorem dX2_takeInto_8 : decode cX2_takeInto 8 = .ok (.iconst 0, 1) := by decide +kernel
theorem dX2_takeInto_9 : decode cX2_takeInto 9 = .ok (.ireturn, 1) := by decide +kernel
theorem dX2_takeInto_10 : decode cX2_takeInto 10 = .ok (.aload_n 0, 1) := by decide +kernel
theorem dX2_takeInto_11 : decode cX2_takeInto 11 = .ok (.dup, 1) := by decide +kernel
theorem dX2_takeInto_12 : decode cX2_takeInto 12 = .ok (.getfield 25, 3) := by decide +kernel
theorem dX2_takeInto_15 : decode cX2_takeInto 15 = .ok (.iconst 1, 1) := by decide +kernel
theorem dX2_takeInto_16 : decode cX2_takeInto 16 = .ok (.isub, 1) := by decide +kernel
theorem dX2_takeInto_17 : decode cX2_takeInto 17 = .ok (.putfield 25, 3) := by decide +kernel
theorem dX2_takeInto_20 : decode cX2_takeInto 20 = .ok (.aload_n 0, 1) := by decide +kernel
theorem dX2_takeInto_21 : decode cX2_takeInto 21 = .ok (.aload_n 0, 1) := by decide +kernel
theorem dX2_takeInto_22 : decode cX2_takeInto 22 = .ok (.getfield 28, 3) := by decide +kernel
theorem dX2_takeInto_25 : decode cX2_takeInto 25 = .ok (.ifCond .le 12, 3) := by decide +kernel
theorem dX2_takeInto_28 : decode cX2_takeInto 28 = .ok (.aload_n 0, 1) := by decide +kernel
theorem dX2_takeInto_29 : decode cX2_takeInto 29 = .ok (.getfield 28, 3) := by decide +kernel
theorem dX2_takeInto_32 : decode cX2_takeInto 32 = .ok (.iconst 1, 1) := by decide +kernel
theorem dX2_takeInto_33 : decode cX2_takeInto 33 = .ok (.isub, 1) := by decide +kernel
theorem dX2_takeInto_34 : decode cX2_takeInto 34 = .ok (.goto 9, 3) := by decide +kernel
theorem dX2_takeInto_37 : decode cX2_takeInto 37 = .ok (.aload_n 0, 1) := by decide +kernel
theorem dX2_takeInto_38 : decode cX2_takeInto 38 = .ok (.getfield 13, 3) := by decide +kernel
theorem dX2_takeInto_41 : decode cX2_takeInto 41 = .ok (.iconst 1, 1) := by decide +kernel
theorem dX2_takeInto_42 : decode cX2_takeInto 42 = .ok (.isub, 1) := by decide +kernel
theorem dX2_takeInto_43 : decode cX2_takeInto 43 = .ok (.putfield 28, 3) := by decide +kernel
theorem dX2_takeInto_46 : decode cX2_takeInto 46 = .ok (.aload_n 1, 1) := by decide +kernel
theorem dX2_takeInto_47 : decode cX2_takeInto 47 = .ok (.aload_n 0, 1) := by decide +kernel
theorem dX2_takeInto_48 : decode cX2_takeInto 48 = .ok (.getfield 21, 3) := by decide +kernel
theorem dX2_takeInto_51 : decode cX2_takeInto 51 = .ok (.aload_n 0, 1) := by decide +kernel
theorem dX2_takeInto_52 : decode cX2_takeInto 52 = .ok (.getfield 28, 3) := by decide +kernel
theorem dX2_takeInto_55 : decode cX2_takeInto 55 = .ok (.bipush 66, 2) := by decide +kernel
theorem dX2_takeInto_57 : decode cX2_takeInto 57 = .ok (.imul, 1) := by decide +kernel
theorem dX2_takeInto_58 : decode cX2_takeInto 58 = .ok (.invokevirtual 38, 3) := by decide +kernel
theorem dX2_takeInto_61 : decode cX2_takeInto 61 = .ok (.iconst 1, 1) := by decide +kernel
theorem dX2_takeInto_62 : decode cX2_takeInto 62 = .ok (.ireturn, 1) := by decide +kernel
theorem dX3_init_0 : decode cX3_init 0 = .ok (.aload_n 0, 1) := by decide +kernel
theorem dX3_init_1 : decode cX3_init 1 = .ok (.invokespecial 3, 3) := by decide +kernel
theorem dX3_init_4 : decode cX3_init 4 = .ok (.aload_n 0, 1) := by decide +kernel
theorem dX3_init_5 : decode cX3_init 5 = .ok (.iconst 4, 1) := by decide +kernel
theorem dX3_init_6 : decode cX3_init 6 = .ok (.sipush 1089, 3) := by decide +kernel
theorem dX3_init_9 : decode cX3_init 9 = .ok (.multianewarray 11 2, 4) := by decide +kernel
theorem dX3_init_13 : decode cX3_init 13 = .ok (.putfield 13, 3) := by decide +kernel
theorem dX3_init_16 : decode cX3_init 16 = .ok (.return_, 1) := by decide +kernel
theorem dX3_fewestLetters_0 : decode cX3_fewestLetters 0 = .ok (.iload_n 2, 1) := by decide +kernel
theorem dX3_fewestLetters_1 : decode cX3_fewestLetters 1 = .ok (.ifCond .lt 15, 3) := by decide +kernel
theorem dX3_fewestLetters_4 : decode cX3_fewestLetters 4 = .ok (.iload_n 2, 1) := by decide +kernel
theorem dX3_fewestLetters_5 : decode cX3_fewestLetters 5 = .ok (.bipush 32, 2) := by decide +kernel
theorem dX3_fewestLetters_7 : decode cX3_fewestLetters 7 = .ok (.if_icmp .gt 9, 3) := by decide +kernel
theorem dX3_fewestLetters_10 : decode cX3_fewestLetters 10 = .ok (.iload_n 2, 1) := by decide +kernel
theorem dX3_fewestLetters_11 : decode cX3_fewestLetters 11 = .ok (.aload_n 1, 1) := by decide +kernel
theorem dX3_fewestLetters_12 : decode cX3_fewestLetters 12 = .ok (.arraylength, 1) := by decide +kernel
theorem dX3_fewestLetters_13 : decode cX3_fewestLetters 13 = .ok (.if_icmp .le 5, 3) := by decide +kernel
theorem dX3_fewestLetters_16 : decode cX3_fewestLetters 16 = .ok (.iconst 0, 1) := by decide +kernel
theorem dX3_fewestLetters_17 : decode cX3_fewestLetters 17 = .ok (.ireturn, 1) := by decide +kernel
theorem dX3_fewestLetters_18 : decode cX3_fewestLetters 18 = .ok (.iconst 0, 1) := by decide +kernel
theorem dX3_fewestLetters_19 : decode cX3_fewestLetters 19 = .ok (.istore_n 3, 1) := by decide +kernel
theorem dX3_fewestLetters_20 : decode cX3_fewestLetters 20 = .ok (.iload_n 3, 1) := by decide +kernel
theorem dX3_fewestLetters_21 : decode cX3_fewestLetters 21 = .ok (.iconst 3, 1) := by decide +kernel
theorem dX3_fewestLetters_22 : decode cX3_fewestLetters 22 = .ok (.if_icmp .gt 32, 3) := by decide +kernel
theorem dX3_fewestLetters_25 : decode cX3_fewestLetters 25 = .ok (.iload_n 2, 1) := by decide +kernel
theorem dX3_fewestLetters_26 : decode cX3_fewestLetters 26 = .ok (.istore 4, 2) := by decide +kernel
theorem dX3_fewestLetters_28 : decode cX3_fewestLetters 28 = .ok (.iload 4, 2) := by decide +kernel
theorem dX3_fewestLetters_30 : decode cX3_fewestLetters 30 = .ok (.ifCond .lt 18, 3) := by decide +kernel
theorem dX3_fewestLetters_33 : decode cX3_fewestLetters 33 = .ok (.aload_n 0, 1) := by decide +kernel
theorem dX3_fewestLetters_34 : decode cX3_fewestLetters 34 = .ok (.iload_n 3, 1) := by decide +kernel
theorem dX3_fewestLetters_35 : decode cX3_fewestLetters 35 = .ok (.iload 4, 2) := by decide +kernel
theorem dX3_fewestLetters_37 : decode cX3_fewestLetters 37 = .ok (.aload_n 1, 1) := by decide +kernel
theorem dX3_fewestLetters_38 : decode cX3_fewestLetters 38 = .ok (.iload_n 2, 1) := by decide +kernel
theorem dX3_fewestLetters_39 : decode cX3_fewestLetters 39 = .ok (.invokevirtual 16, 3) := by decide +kernel
theorem dX3_fewestLetters_42 : decode cX3_fewestLetters 42 = .ok (.iinc 4 (-1), 3) := by decide +kernel
theorem dX3_fewestLetters_45 : decode cX3_fewestLetters 45 = .ok (.goto (-17), 3) := by decide +kernel
theorem dX3_fewestLetters_48 : decode cX3_fewestLetters 48 = .ok (.iinc 3 1, 3) := by decide +kernel
theorem dX3_fewestLetters_51 : decode cX3_fewestLetters 51 = .ok (.goto (-31), 3) := by decide +kernel
theorem dX3_fewestLetters_54 : decode cX3_fewestLetters 54 = .ok (.aload_n 0, 1) := by decide +kernel
theorem dX3_fewestLetters_55 : decode cX3_fewestLetters 55 = .ok (.getfield 13, 3) := by decide +kernel
theorem dX3_fewestLetters_58 : decode cX3_fewestLetters 58 = .ok (.iconst 3, 1) := by decide +kernel
theorem dX3_fewestLetters_59 : decode cX3_fewestLetters 59 = .ok (.aaload, 1) := by decide +kernel
theorem dX3_fewestLetters_60 : decode cX3_fewestLetters 60 = .ok (.iload_n 2, 1) := by decide +kernel
theorem dX3_fewestLetters_61 : decode cX3_fewestLetters 61 = .ok (.iaload, 1) := by decide +kernel
theorem dX3_fewestLetters_62 : decode cX3_fewestLetters 62 = .ok (.ireturn, 1) := by decide +kernel
theorem dX3_fillFrom_0 : decode cX3_fillFrom 0 = .ok (.aload_n 0, 1) := by decide +kernel
theorem dX3_fillFrom_1 : decode cX3_fillFrom 1 = .ok (.getfield 13, 3) := by decide +kernel
theorem dX3_fillFrom_4 : decode cX3_fillFrom 4 = .ok (.iload_n 1, 1) := by decide +kernel
theorem dX3_fillFrom_5 : decode cX3_fillFrom 5 = .ok (.aaload, 1) := by decide +kernel
theorem dX3_fillFrom_6 : decode cX3_fillFrom 6 = .ok (.astore 5, 2) := by decide +kernel
theorem dX3_fillFrom_8 : decode cX3_fillFrom 8 = .ok (.aload 5, 2) := by decide +kernel
theorem dX3_fillFrom_10 : decode cX3_fillFrom 10 = .ok (.iload_n 2, 1) := by decide +kernel
theorem dX3_fillFrom_11 : decode cX3_fillFrom 11 = .ok (.bipush 33, 2) := by decide +kernel
theorem dX3_fillFrom_13 : decode cX3_fillFrom 13 = .ok (.imul, 1) := by decide +kernel
theorem dX3_fillFrom_14 : decode cX3_fillFrom 14 = .ok (.iload_n 2, 1) := by decide +kernel
theorem dX3_fillFrom_15 : decode cX3_fillFrom 15 = .ok (.iadd, 1) := by decide +kernel
theorem dX3_fillFrom_16 : decode cX3_fillFrom 16 = .ok (.iconst 0, 1) := by decide +kernel
theorem dX3_fillFrom_17 : decode cX3_fillFrom 17 = .ok (.iastore, 1) := by decide +kernel
theorem dX3_fillFrom_18 : decode cX3_fillFrom 18 = .ok (.iload_n 2, 1) := by decide +kernel
theorem dX3_fillFrom_19 : decode cX3_fillFrom 19 = .ok (.iload 4, 2) := by decide +kernel
theorem dX3_fillFrom_21 : decode cX3_fillFrom 21 = .ok (.if_icmp .lt 4, 3) := by decide +kernel
theorem dX3_fillFrom_24 : decode cX3_fillFrom 24 = .ok (.return_, 1) := by decide +kernel
theorem dX3_fillFrom_25 : decode cX3_fillFrom 25 = .ok (.aload_n 3, 1) := by decide +kernel
theorem dX3_fillFrom_26 : decode cX3_fillFrom 26 = .ok (.iload_n 2, 1) := by decide +kernel
theorem dX3_fillFrom_27 : decode cX3_fillFrom 27 = .ok (.iaload, 1) := by decide +kernel
theorem dX3_fillFrom_28 : decode cX3_fillFrom 28 = .ok (.invokestatic 20, 3) := by decide +kernel
theorem dX3_fillFrom_31 : decode cX3_fillFrom 31 = .ok (.istore 6, 2) := by decide +kernel
theorem dX3_fillFrom_33 : decode cX3_fillFrom 33 = .ok (.iload_n 2, 1) := by decide +kernel
theorem dX3_fillFrom_34 : decode cX3_fillFrom 34 = .ok (.iconst 1, 1) := by decide +kernel
theorem dX3_fillFrom_35 : decode cX3_fillFrom 35 = .ok (.iadd, 1) := by decide +kernel
theorem dX3_fillFrom_36 : decode cX3_fillFrom 36 = .ok (.istore 7, 2) := by decide +kernel
theorem dX3_fillFrom_38 : decode cX3_fillFrom 38 = .ok (.iload 7, 2) := by decide +kernel
theorem dX3_fillFrom_40 : decode cX3_fillFrom 40 = .ok (.iload 4, 2) := by decide +kernel
theorem dX3_fillFrom_42 : decode cX3_fillFrom 42 = .ok (.if_icmp .gt 34, 3) := by decide +kernel
theorem dX3_fillFrom_45 : decode cX3_fillFrom 45 = .ok (.aload 5, 2) := by decide +kernel
theorem dX3_fillFrom_47 : decode cX3_fillFrom 47 = .ok (.iload_n 2, 1) := by decide +kernel
theorem dX3_fillFrom_48 : decode cX3_fillFrom 48 = .ok (.bipush 33, 2) := by decide +kernel
theorem dX3_fillFrom_50 : decode cX3_fillFrom 50 = .ok (.imul, 1) := by decide +kernel
theorem dX3_fillFrom_51 : decode cX3_fillFrom 51 = .ok (.iload 7, 2) := by decide +kernel
theorem dX3_fillFrom_53 : decode cX3_fillFrom 53 = .ok (.iadd, 1) := by decide +kernel
theorem dX3_fillFrom_54 : decode cX3_fillFrom 54 = .ok (.iload 6, 2) := by decide +kernel
theorem dX3_fillFrom_56 : decode cX3_fillFrom 56 = .ok (.aload 5, 2) := by decide +kernel
theorem dX3_fillFrom_58 : decode cX3_fillFrom 58 = .ok (.iload_n 2, 1) := by decide +kernel
theorem dX3_fillFrom_59 : decode cX3_fillFrom 59 = .ok (.iconst 1, 1) := by decide +kernel
theorem dX3_fillFrom_60 : decode cX3_fillFrom 60 = .ok (.iadd, 1) := by decide +kernel
theorem dX3_fillFrom_61 : decode cX3_fillFrom 61 = .ok (.bipush 33, 2) := by decide +kernel
theorem dX3_fillFrom_63 : decode cX3_fillFrom 63 = .ok (.imul, 1) := by decide +kernel
theorem dX3_fillFrom_64 : decode cX3_fillFrom 64 = .ok (.iload 7, 2) := by decide +kernel
theorem dX3_fillFrom_66 : decode cX3_fillFrom 66 = .ok (.iadd, 1) := by decide +kernel
theorem dX3_fillFrom_67 : decode cX3_fillFrom 67 = .ok (.iaload, 1) := by decide +kernel
theorem dX3_fillFrom_68 : decode cX3_fillFrom 68 = .ok (.iadd, 1) := by decide +kernel
theorem dX3_fillFrom_69 : decode cX3_fillFrom 69 = .ok (.iastore, 1) := by decide +kernel
theorem dX3_fillFrom_70 : decode cX3_fillFrom 70 = .ok (.iinc 7 1, 3) := by decide +kernel
theorem dX3_fillFrom_73 : decode cX3_fillFrom 73 = .ok (.goto (-35), 3) := by decide +kernel
theorem dX3_fillFrom_76 : decode cX3_fillFrom 76 = .ok (.iconst 1, 1) := by decide +kernel
theorem dX3_fillFrom_77 : decode cX3_fillFrom 77 = .ok (.istore 7, 2) := by decide +kernel
theorem dX3_fillFrom_79 : decode cX3_fillFrom 79 = .ok (.iload_n 1, 1) := by decide +kernel
theorem dX3_fillFrom_80 : decode cX3_fillFrom 80 = .ok (.ifCond .le 97, 3) := by decide +kernel
theorem dX3_fillFrom_83 : decode cX3_fillFrom 83 = .ok (.iload_n 2, 1) := by decide +kernel
theorem dX3_fillFrom_84 : decode cX3_fillFrom 84 = .ok (.iconst 2, 1) := by decide +kernel
theorem dX3_fillFrom_85 : decode cX3_fillFrom 85 = .ok (.iload 7, 2) := by decide +kernel
theorem dX3_fillFrom_87 : decode cX3_fillFrom 87 = .ok (.imul, 1) := by decide +kernel
theorem dX3_fillFrom_88 : decode cX3_fillFrom 88 = .ok (.iadd, 1) := by decide +kernel
theorem dX3_fillFrom_89 : decode cX3_fillFrom 89 = .ok (.iload 4, 2) := by decide +kernel
theorem dX3_fillFrom_91 : decode cX3_fillFrom 91 = .ok (.if_icmp .gt 86, 3) := by decide +kernel
theorem dX3_fillFrom_94 : decode cX3_fillFrom 94 = .ok (.iconst 3, 1) := by decide +kernel
theorem dX3_fillFrom_95 : decode cX3_fillFrom 95 = .ok (.aload_n 0, 1) := by decide +kernel
theorem dX3_fillFrom_96 : decode cX3_fillFrom 96 = .ok (.getfield 13, 3) := by decide +kernel
theorem dX3_fillFrom_99 : decode cX3_fillFrom 99 = .ok (.iload_n 1, 1) := by decide +kernel
theorem dX3_fillFrom_100 : decode cX3_fillFrom 100 = .ok (.iconst 1, 1) := by decide +kernel
theorem dX3_fillFrom_101 : decode cX3_fillFrom 101 = .ok (.isub, 1) := by decide +kernel
theorem dX3_fillFrom_102 : decode cX3_fillFrom 102 = .ok (.aaload, 1) := by decide +kernel
theorem dX3_fillFrom_103 : decode cX3_fillFrom 103 = .ok (.iload_n 2, 1) := by decide +kernel
theorem dX3_fillFrom_104 : decode cX3_fillFrom 104 = .ok (.bipush 33, 2) := by decide +kernel
theorem dX3_fillFrom_106 : decode cX3_fillFrom 106 = .ok (.imul, 1) := by decide +kernel
theorem dX3_fillFrom_107 : decode cX3_fillFrom 107 = .ok (.iload_n 2, 1) := by decide +kernel
theorem dX3_fillFrom_108 : decode cX3_fillFrom 108 = .ok (.iadd, 1) := by decide +kernel
theorem dX3_fillFrom_109 : decode cX3_fillFrom 109 = .ok (.iload 7, 2) := by decide +kernel
theorem dX3_fillFrom_111 : decode cX3_fillFrom 111 = .ok (.iadd, 1) := by decide +kernel
theorem dX3_fillFrom_112 : decode cX3_fillFrom 112 = .ok (.iaload, 1) := by decide +kernel
theorem dX3_fillFrom_113 : decode cX3_fillFrom 113 = .ok (.iadd, 1) := by decide +kernel
theorem dX3_fillFrom_114 : decode cX3_fillFrom 114 = .ok (.istore 8, 2) := by decide +kernel
theorem dX3_fillFrom_116 : decode cX3_fillFrom 116 = .ok (.aload_n 0, 1) := by decide +kernel
theorem dX3_fillFrom_117 : decode cX3_fillFrom 117 = .ok (.iload_n 2, 1) := by decide +kernel
theorem dX3_fillFrom_118 : decode cX3_fillFrom 118 = .ok (.iload 7, 2) := by decide +kernel
theorem dX3_fillFrom_120 : decode cX3_fillFrom 120 = .ok (.aload_n 3, 1) := by decide +kernel
theorem dX3_fillFrom_121 : decode cX3_fillFrom 121 = .ok (.iload 4, 2) := by decide +kernel
theorem dX3_fillFrom_123 : decode cX3_fillFrom 123 = .ok (.invokevirtual 24, 3) := by decide +kernel
theorem dX3_fillFrom_126 : decode cX3_fillFrom 126 = .ok (.istore 9, 2) := by decide +kernel
theorem dX3_fillFrom_128 : decode cX3_fillFrom 128 = .ok (.iload_n 2, 1) := by decide +kernel
theorem dX3_fillFrom_129 : decode cX3_fillFrom 129 = .ok (.iconst 2, 1) := by decide +kernel
theorem dX3_fillFrom_130 : decode cX3_fillFrom 130 = .ok (.iload 7, 2) := by decide +kernel
theorem dX3_fillFrom_132 : decode cX3_fillFrom 132 = .ok (.imul, 1) := by decide +kernel
theorem dX3_fillFrom_133 : decode cX3_fillFrom 133 = .ok (.iadd, 1) := by decide +kernel
theorem dX3_fillFrom_134 : decode cX3_fillFrom 134 = .ok (.istore 10, 2) := by decide +kernel
theorem dX3_fillFrom_136 : decode cX3_fillFrom 136 = .ok (.iload 10, 2) := by decide +kernel
theorem dX3_fillFrom_138 : decode cX3_fillFrom 138 = .ok (.iload_n 2, 1) := by decide +kernel
theorem dX3_fillFrom_139 : decode cX3_fillFrom 139 = .ok (.iload 9, 2) := by decide +kernel
theorem dX3_fillFrom_141 : decode cX3_fillFrom 141 = .ok (.iload 7, 2) := by decide +kernel
theorem dX3_fillFrom_143 : decode cX3_fillFrom 143 = .ok (.imul, 1) := by decide +kernel
theorem dX3_fillFrom_144 : decode cX3_fillFrom 144 = .ok (.iadd, 1) := by decide +kernel
theorem dX3_fillFrom_145 : decode cX3_fillFrom 145 = .ok (.if_icmp .gt 26, 3) := by decide +kernel
theorem dX3_fillFrom_148 : decode cX3_fillFrom 148 = .ok (.aload_n 0, 1) := by decide +kernel
theorem dX3_fillFrom_149 : decode cX3_fillFrom 149 = .ok (.aload 5, 2) := by decide +kernel
theorem dX3_fillFrom_151 : decode cX3_fillFrom 151 = .ok (.iload_n 2, 1) := by decide +kernel
theorem dX3_fillFrom_152 : decode cX3_fillFrom 152 = .ok (.iload 10, 2) := by decide +kernel
theorem dX3_fillFrom_154 : decode cX3_fillFrom 154 = .ok (.iload 8, 2) := by decide +kernel
theorem dX3_fillFrom_156 : decode cX3_fillFrom 156 = .ok (.iload 4, 2) := by decide +kernel
theorem dX3_fillFrom_158 : decode cX3_fillFrom 158 = .ok (.invokevirtual 28, 3) := by decide +kernel
theorem dX3_fillFrom_161 : decode cX3_fillFrom 161 = .ok (.iload 10, 2) := by decide +kernel
theorem dX3_fillFrom_163 : decode cX3_fillFrom 163 = .ok (.iload 7, 2) := by decide +kernel
theorem dX3_fillFrom_165 : decode cX3_fillFrom 165 = .ok (.iadd, 1) := by decide +kernel
theorem dX3_fillFrom_166 : decode cX3_fillFrom 166 = .ok (.istore 10, 2) := by decide +kernel
theorem dX3_fillFrom_168 : decode cX3_fillFrom 168 = .ok (.goto (-32), 3) := by decide +kernel
theorem dX3_fillFrom_171 : decode cX3_fillFrom 171 = .ok (.iinc 7 1, 3) := by decide +kernel
theorem dX3_fillFrom_174 : decode cX3_fillFrom 174 = .ok (.goto (-95), 3) := by decide +kernel
theorem dX3_fillFrom_177 : decode cX3_fillFrom 177 = .ok (.return_, 1) := by decide +kernel
theorem dX3_beginWithPart_0 : decode cX3_beginWithPart 0 = .ok (.iload_n 3, 1) := by decide +kernel
theorem dX3_beginWithPart_1 : decode cX3_beginWithPart 1 = .ok (.istore 6, 2) := by decide +kernel
theorem dX3_beginWithPart_3 : decode cX3_beginWithPart 3 = .ok (.iload 6, 2) := by decide +kernel
theorem dX3_beginWithPart_5 : decode cX3_beginWithPart 5 = .ok (.iload 5, 2) := by decide +kernel
theorem dX3_beginWithPart_7 : decode cX3_beginWithPart 7 = .ok (.if_icmp .gt 48, 3) := by decide +kernel
theorem dX3_beginWithPart_10 : decode cX3_beginWithPart 10 = .ok (.iload 4, 2) := by decide +kernel
theorem dX3_beginWithPart_12 : decode cX3_beginWithPart 12 = .ok (.aload_n 1, 1) := by decide +kernel
theorem dX3_beginWithPart_13 : decode cX3_beginWithPart 13 = .ok (.iload_n 3, 1) := by decide +kernel
theorem dX3_beginWithPart_14 : decode cX3_beginWithPart 14 = .ok (.bipush 33, 2) := by decide +kernel
theorem dX3_beginWithPart_16 : decode cX3_beginWithPart 16 = .ok (.imul, 1) := by decide +kernel
theorem dX3_beginWithPart_17 : decode cX3_beginWithPart 17 = .ok (.iload 6, 2) := by decide +kernel
theorem dX3_beginWithPart_19 : decode cX3_beginWithPart 19 = .ok (.iadd, 1) := by decide +kernel
theorem dX3_beginWithPart_20 : decode cX3_beginWithPart 20 = .ok (.iaload, 1) := by decide +kernel
theorem dX3_beginWithPart_21 : decode cX3_beginWithPart 21 = .ok (.iadd, 1) := by decide +kernel
theorem dX3_beginWithPart_22 : decode cX3_beginWithPart 22 = .ok (.istore 7, 2) := by decide +kernel
theorem dX3_beginWithPart_24 : decode cX3_beginWithPart 24 = .ok (.iload 7, 2) := by decide +kernel
theorem dX3_beginWithPart_26 : decode cX3_beginWithPart 26 = .ok (.aload_n 1, 1) := by decide +kernel
theorem dX3_beginWithPart_27 : decode cX3_beginWithPart 27 = .ok (.iload_n 2, 1) := by decide +kernel
theorem dX3_beginWithPart_28 : decode cX3_beginWithPart 28 = .ok (.bipush 33, 2) := by decide +kernel
theorem dX3_beginWithPart_30 : decode cX3_beginWithPart 30 = .ok (.imul, 1) := by decide +kernel
theorem dX3_beginWithPart_31 : decode cX3_beginWithPart 31 = .ok (.iload 6, 2) := by decide +kernel
theorem dX3_beginWithPart_33 : decode cX3_beginWithPart 33 = .ok (.iadd, 1) := by decide +kernel
theorem dX3_beginWithPart_34 : decode cX3_beginWithPart 34 = .ok (.iaload, 1) := by decide +kernel
theorem dX3_beginWithPart_35 : decode cX3_beginWithPart 35 = .ok (.if_icmp .ge 14, 3) := by decide +kernel
theorem dX3_beginWithPart_38 : decode cX3_beginWithPart 38 = .ok (.aload_n 1, 1) := by decide +kernel
theorem dX3_beginWithPart_39 : decode cX3_beginWithPart 39 = .ok (.iload_n 2, 1) := by decide +kernel
theorem dX3_beginWithPart_40 : decode cX3_beginWithPart 40 = .ok (.bipush 33, 2) := by decide +kernel
theorem dX3_beginWithPart_42 : decode cX3_beginWithPart 42 = .ok (.imul, 1) := by decide +kernel
theorem dX3_beginWithPart_43 : decode cX3_beginWithPart 43 = .ok (.iload 6, 2) := by decide +kernel
theorem dX3_beginWithPart_45 : decode cX3_beginWithPart 45 = .ok (.iadd, 1) := by decide +kernel
theorem dX3_beginWithPart_46 : decode cX3_beginWithPart 46 = .ok (.iload 7, 2) := by decide +kernel
theorem dX3_beginWithPart_48 : decode cX3_beginWithPart 48 = .ok (.iastore, 1) := by decide +kernel
theorem dX3_beginWithPart_49 : decode cX3_beginWithPart 49 = .ok (.iinc 6 1, 3) := by decide +kernel
theorem dX3_beginWithPart_52 : decode cX3_beginWithPart 52 = .ok (.goto (-49), 3) := by decide +kernel
theorem dX3_beginWithPart_55 : decode cX3_beginWithPart 55 = .ok (.return_, 1) := by decide +kernel
theorem dX3_timesTold_0 : decode cX3_timesTold 0 = .ok (.iconst 0, 1) := by decide +kernel
theorem dX3_timesTold_1 : decode cX3_timesTold 1 = .ok (.istore 5, 2) := by decide +kernel
theorem dX3_timesTold_3 : decode cX3_timesTold 3 = .ok (.iload 4, 2) := by decide +kernel
theorem dX3_timesTold_5 : decode cX3_timesTold 5 = .ok (.iload_n 1, 1) := by decide +kernel
theorem dX3_timesTold_6 : decode cX3_timesTold 6 = .ok (.isub, 1) := by decide +kernel
theorem dX3_timesTold_7 : decode cX3_timesTold 7 = .ok (.iload_n 2, 1) := by decide +kernel
theorem dX3_timesTold_8 : decode cX3_timesTold 8 = .ok (.isub, 1) := by decide +kernel
theorem dX3_timesTold_9 : decode cX3_timesTold 9 = .ok (.bipush 8, 2) := by decide +kernel
theorem dX3_timesTold_11 : decode cX3_timesTold 11 = .ok (.iload_n 2, 1) := by decide +kernel
theorem dX3_timesTold_12 : decode cX3_timesTold 12 = .ok (.imul, 1) := by decide +kernel
theorem dX3_timesTold_13 : decode cX3_timesTold 13 = .ok (.invokestatic 32, 3) := by decide +kernel
theorem dX3_timesTold_16 : decode cX3_timesTold 16 = .ok (.istore 6, 2) := by decide +kernel
theorem dX3_timesTold_18 : decode cX3_timesTold 18 = .ok (.iload 5, 2) := by decide +kernel
theorem dX3_timesTold_20 : decode cX3_timesTold 20 = .ok (.iload 6, 2) := by decide +kernel
theorem dX3_timesTold_22 : decode cX3_timesTold 22 = .ok (.if_icmp .ge 26, 3) := by decide +kernel
theorem dX3_timesTold_25 : decode cX3_timesTold 25 = .ok (.aload_n 3, 1) := by decide +kernel
theorem dX3_timesTold_26 : decode cX3_timesTold 26 = .ok (.iload_n 1, 1) := by decide +kernel
theorem dX3_timesTold_27 : decode cX3_timesTold 27 = .ok (.iload 5, 2) := by decide +kernel
theorem dX3_timesTold_29 : decode cX3_timesTold 29 = .ok (.iadd, 1) := by decide +kernel
theorem dX3_timesTold_30 : decode cX3_timesTold 30 = .ok (.iaload, 1) := by decide +kernel
theorem dX3_timesTold_31 : decode cX3_timesTold 31 = .ok (.aload_n 3, 1) := by decide +kernel
theorem dX3_timesTold_32 : decode cX3_timesTold 32 = .ok (.iload_n 1, 1) := by decide +kernel
theorem dX3_timesTold_33 : decode cX3_timesTold 33 = .ok (.iload 5, 2) := by decide +kernel
theorem dX3_timesTold_35 : decode cX3_timesTold 35 = .ok (.iadd, 1) := by decide +kernel
theorem dX3_timesTold_36 : decode cX3_timesTold 36 = .ok (.iload_n 2, 1) := by decide +kernel
theorem dX3_timesTold_37 : decode cX3_timesTold 37 = .ok (.iadd, 1) := by decide +kernel
theorem dX3_timesTold_38 : decode cX3_timesTold 38 = .ok (.iaload, 1) := by decide +kernel
theorem dX3_timesTold_39 : decode cX3_timesTold 39 = .ok (.if_icmp .ne 9, 3) := by decide +kernel
theorem dX3_timesTold_42 : decode cX3_timesTold 42 = .ok (.iinc 5 1, 3) := by decide +kernel
theorem dX3_timesTold_45 : decode cX3_timesTold 45 = .ok (.goto (-27), 3) := by decide +kernel
theorem dX3_timesTold_48 : decode cX3_timesTold 48 = .ok (.iload_n 2, 1) := by decide +kernel
theorem dX3_timesTold_49 : decode cX3_timesTold 49 = .ok (.ifCond .le 12, 3) := by decide +kernel
theorem dX3_timesTold_52 : decode cX3_timesTold 52 = .ok (.iconst 1, 1) := by decide +kernel
theorem dX3_timesTold_53 : decode cX3_timesTold 53 = .ok (.iload 5, 2) := by decide +kernel
theorem dX3_timesTold_55 : decode cX3_timesTold 55 = .ok (.iload_n 2, 1) := by decide +kernel
theorem dX3_timesTold_56 : decode cX3_timesTold 56 = .ok (.idiv, 1) := by decide +kernel
theorem dX3_timesTold_57 : decode cX3_timesTold 57 = .ok (.iadd, 1) := by decide +kernel
theorem dX3_timesTold_58 : decode cX3_timesTold 58 = .ok (.goto 4, 3) := by decide +kernel
theorem dX3_timesTold_61 : decode cX3_timesTold 61 = .ok (.iconst 1, 1) := by decide +kernel
theorem dX3_timesTold_62 : decode cX3_timesTold 62 = .ok (.ireturn, 1) := by decide +kernel
theorem dX3_lettersOf_0 : decode cX3_lettersOf 0 = .ok (.iload_n 0, 1) := by decide +kernel
theorem dX3_lettersOf_1 : decode cX3_lettersOf 1 = .ok (.invokestatic 38, 3) := by decide +kernel
theorem dX3_lettersOf_4 : decode cX3_lettersOf 4 = .ok (.istore_n 1, 1) := by decide +kernel
theorem dX3_lettersOf_5 : decode cX3_lettersOf 5 = .ok (.iload_n 1, 1) := by decide +kernel
theorem dX3_lettersOf_6 : decode cX3_lettersOf 6 = .ok (.iconst 2, 1) := by decide +kernel
theorem dX3_lettersOf_7 : decode cX3_lettersOf 7 = .ok (.if_icmp .ge 7, 3) := by decide +kernel
theorem dX3_lettersOf_10 : decode cX3_lettersOf 10 = .ok (.iconst 1, 1) := by decide +kernel
theorem dX3_lettersOf_11 : decode cX3_lettersOf 11 = .ok (.goto 6, 3) := by decide +kernel
theorem dX3_lettersOf_14 : decode cX3_lettersOf 14 = .ok (.iload_n 1, 1) := by decide +kernel
theorem dX3_lettersOf_15 : decode cX3_lettersOf 15 = .ok (.iconst 2, 1) := by decide +kernel
theorem dX3_lettersOf_16 : decode cX3_lettersOf 16 = .ok (.iadd, 1) := by decide +kernel
theorem dX3_lettersOf_17 : decode cX3_lettersOf 17 = .ok (.ireturn, 1) := by decide +kernel
theorem dX4_init_0 : decode cX4_init 0 = .ok (.aload_n 0, 1) := by decide +kernel
theorem dX4_init_1 : decode cX4_init 1 = .ok (.invokespecial 3, 3) := by decide +kernel
theorem dX4_init_4 : decode cX4_init 4 = .ok (.aload_n 0, 1) := by decide +kernel
theorem dX4_init_5 : decode cX4_init 5 = .ok (.sipush 200, 3) := by decide +kernel
theorem dX4_init_8 : decode cX4_init 8 = .ok (.newarray .int, 2) := by decide +kernel
theorem dX4_init_10 : decode cX4_init 10 = .ok (.putfield 9, 3) := by decide +kernel
theorem dX4_init_13 : decode cX4_init 13 = .ok (.aload_n 0, 1) := by decide +kernel
theorem dX4_init_14 : decode cX4_init 14 = .ok (.iconst 3, 1) := by decide +kernel
theorem dX4_init_15 : decode cX4_init 15 = .ok (.newarray .int, 2) := by decide +kernel
theorem dX4_init_17 : decode cX4_init 17 = .ok (.putfield 15, 3) := by decide +kernel
theorem dX4_init_20 : decode cX4_init 20 = .ok (.return_, 1) := by decide +kernel
theorem dX4_append_0 : decode cX4_append 0 = .ok (.aload_n 0, 1) := by decide +kernel
theorem dX4_append_1 : decode cX4_append 1 = .ok (.getfield 18, 3) := by decide +kernel
theorem dX4_append_4 : decode cX4_append 4 = .ok (.sipush 200, 3) := by decide +kernel
theorem dX4_append_7 : decode cX4_append 7 = .ok (.if_icmp .lt 5, 3) := by decide +kernel
theorem dX4_append_10 : decode cX4_append 10 = .ok (.iconst 0, 1) := by decide +kernel
theorem dX4_append_11 : decode cX4_append 11 = .ok (.ireturn, 1) := by decide +kernel
theorem dX4_append_12 : decode cX4_append 12 = .ok (.aload_n 0, 1) := by decide +kernel
theorem dX4_append_13 : decode cX4_append 13 = .ok (.getfield 9, 3) := by decide +kernel
theorem dX4_append_16 : decode cX4_append 16 = .ok (.aload_n 0, 1) := by decide +kernel
theorem dX4_append_17 : decode cX4_append 17 = .ok (.getfield 18, 3) := by decide +kernel
theorem dX4_append_20 : decode cX4_append 20 = .ok (.iload_n 1, 1) := by decide +kernel
theorem dX4_append_21 : decode cX4_append 21 = .ok (.iastore, 1) := by decide +kernel
theorem dX4_append_22 : decode cX4_append 22 = .ok (.aload_n 0, 1) := by decide +kernel
theorem dX4_append_23 : decode cX4_append 23 = .ok (.dup, 1) := by decide +kernel
theorem dX4_append_24 : decode cX4_append 24 = .ok (.getfield 18, 3) := by decide +kernel
theorem dX4_append_27 : decode cX4_append 27 = .ok (.iconst 1, 1) := by decide +kernel
theorem dX4_append_28 : decode cX4_append 28 = .ok (.iadd, 1) := by decide +kernel
theorem dX4_append_29 : decode cX4_append 29 = .ok (.putfield 18, 3) := by decide +kernel
theorem dX4_append_32 : decode cX4_append 32 = .ok (.iconst 1, 1) := by decide +kernel
theorem dX4_append_33 : decode cX4_append 33 = .ok (.ireturn, 1) := by decide +kernel
theorem dX4_clear_0 : decode cX4_clear 0 = .ok (.aload_n 0, 1) := by decide +kernel
theorem dX4_clear_1 : decode cX4_clear 1 = .ok (.iconst 0, 1) := by decide +kernel
theorem dX4_clear_2 : decode cX4_clear 2 = .ok (.putfield 18, 3) := by decide +kernel
theorem dX4_clear_5 : decode cX4_clear 5 = .ok (.return_, 1) := by decide +kernel
theorem dX4_readInto_0 : decode cX4_readInto 0 = .ok (.aload_n 1, 1) := by decide +kernel
theorem dX4_readInto_1 : decode cX4_readInto 1 = .ok (.invokevirtual 22, 3) := by decide +kernel
theorem dX4_readInto_4 : decode cX4_readInto 4 = .ok (.aload_n 0, 1) := by decide +kernel
theorem dX4_readInto_5 : decode cX4_readInto 5 = .ok (.iconst 0, 1) := by decide +kernel
theorem dX4_readInto_6 : decode cX4_readInto 6 = .ok (.putfield 27, 3) := by decide +kernel
theorem dX4_readInto_9 : decode cX4_readInto 9 = .ok (.iconst 0, 1) := by decide +kernel
theorem dX4_readInto_10 : decode cX4_readInto 10 = .ok (.istore_n 2, 1) := by decide +kernel
theorem dX4_readInto_11 : decode cX4_readInto 11 = .ok (.iload_n 2, 1) := by decide +kernel
theorem dX4_readInto_12 : decode cX4_readInto 12 = .ok (.sipush 200, 3) := by decide +kernel
theorem dX4_readInto_15 : decode cX4_readInto 15 = .ok (.if_icmp .ge 44, 3) := by decide +kernel
theorem dX4_readInto_18 : decode cX4_readInto 18 = .ok (.aload_n 0, 1) := by decide +kernel
theorem dX4_readInto_19 : decode cX4_readInto 19 = .ok (.getfield 27, 3) := by decide +kernel
theorem dX4_readInto_22 : decode cX4_readInto 22 = .ok (.aload_n 0, 1) := by decide +kernel
theorem dX4_readInto_23 : decode cX4_readInto 23 = .ok (.getfield 18, 3) := by decide +kernel
theorem dX4_readInto_26 : decode cX4_readInto 26 = .ok (.if_icmp .ge 33, 3) := by decide +kernel
theorem dX4_readInto_29 : decode cX4_readInto 29 = .ok (.aload_n 0, 1) := by decide +kernel
theorem dX4_readInto_30 : decode cX4_readInto 30 = .ok (.getfield 27, 3) := by decide +kernel
theorem dX4_readInto_33 : decode cX4_readInto 33 = .ok (.istore_n 3, 1) := by decide +kernel
theorem dX4_readInto_34 : decode cX4_readInto 34 = .ok (.aload_n 0, 1) := by decide +kernel
theorem dX4_readInto_35 : decode cX4_readInto 35 = .ok (.aload_n 1, 1) := by decide +kernel
theorem dX4_readInto_36 : decode cX4_readInto 36 = .ok (.invokevirtual 30, 3) := by decide +kernel
theorem dX4_readInto_39 : decode cX4_readInto 39 = .ok (.ifCond .eq 12, 3) := by decide +kernel
theorem dX4_readInto_42 : decode cX4_readInto 42 = .ok (.aload_n 0, 1) := by decide +kernel
theorem dX4_readInto_43 : decode cX4_readInto 43 = .ok (.bipush 59, 2) := by decide +kernel
theorem dX4_readInto_45 : decode cX4_readInto 45 = .ok (.invokevirtual 34, 3) := by decide +kernel
theorem dX4_readInto_48 : decode cX4_readInto 48 = .ok (.ifCond .ne 5, 3) := by decide +kernel
theorem dX4_readInto_51 : decode cX4_readInto 51 = .ok (.iload_n 3, 1) := by decide +kernel
theorem dX4_readInto_52 : decode cX4_readInto 52 = .ok (.ireturn, 1) := by decide +kernel
theorem dX4_readInto_53 : decode cX4_readInto 53 = .ok (.iinc 2 1, 3) := by decide +kernel
theorem dX4_readInto_56 : decode cX4_readInto 56 = .ok (.goto (-45), 3) := by decide +kernel
theorem dX4_readInto_59 : decode cX4_readInto 59 = .ok (.bipush (-4), 2) := by decide +kernel
theorem dX4_readInto_61 : decode cX4_readInto 61 = .ok (.ireturn, 1) := by decide +kernel
theorem dX4_readItem_0 : decode cX4_readItem 0 = .ok (.aload_n 0, 1) := by decide +kernel
theorem dX4_readItem_1 : decode cX4_readItem 1 = .ok (.invokevirtual 38, 3) := by decide +kernel
theorem dX4_readItem_4 : decode cX4_readItem 4 = .ok (.istore_n 2, 1) := by decide +kernel
theorem dX4_readItem_5 : decode cX4_readItem 5 = .ok (.aload_n 0, 1) := by decide +kernel
theorem dX4_readItem_6 : decode cX4_readItem 6 = .ok (.dup, 1) := by decide +kernel
theorem dX4_readItem_7 : decode cX4_readItem 7 = .ok (.getfield 27, 3) := by decide +kernel
theorem dX4_readItem_10 : decode cX4_readItem 10 = .ok (.iconst 1, 1) := by decide +kernel
theorem dX4_readItem_11 : decode cX4_readItem 11 = .ok (.iadd, 1) := by decide +kernel
theorem dX4_readItem_12 : decode cX4_readItem 12 = .ok (.putfield 27, 3) := by decide +kernel
theorem dX4_readItem_15 : decode cX4_readItem 15 = .ok (.iload_n 2, 1) := by decide +kernel
theorem dX4_readItem_16 : decode cX4_readItem 16 = .ok (.lookupswitch 74 #[(98, 44), (110, 50), (114, 59), (116, 68)], 44) := by decide +kernel
theorem dX4_readItem_60 : decode cX4_readItem 60 = .ok (.aload_n 0, 1) := by decide +kernel
theorem dX4_readItem_61 : decode cX4_readItem 61 = .ok (.aload_n 1, 1) := by decide +kernel
theorem dX4_readItem_62 : decode cX4_readItem 62 = .ok (.invokevirtual 42, 3) := by decide +kernel
theorem dX4_readItem_65 : decode cX4_readItem 65 = .ok (.ireturn, 1) := by decide +kernel
theorem dX4_readItem_66 : decode cX4_readItem 66 = .ok (.aload_n 1, 1) := by decide +kernel
theorem dX4_readItem_67 : decode cX4_readItem 67 = .ok (.aload_n 0, 1) := by decide +kernel
theorem dX4_readItem_68 : decode cX4_readItem 68 = .ok (.invokevirtual 45, 3) := by decide +kernel
theorem dX4_readItem_71 : decode cX4_readItem 71 = .ok (.invokevirtual 48, 3) := by decide +kernel
theorem dX4_readItem_74 : decode cX4_readItem 74 = .ok (.ireturn, 1) := by decide +kernel
theorem dX4_readItem_75 : decode cX4_readItem 75 = .ok (.aload_n 1, 1) := by decide +kernel
theorem dX4_readItem_76 : decode cX4_readItem 76 = .ok (.aload_n 0, 1) := by decide +kernel
theorem dX4_readItem_77 : decode cX4_readItem 77 = .ok (.invokevirtual 45, 3) := by decide +kernel
theorem dX4_readItem_80 : decode cX4_readItem 80 = .ok (.invokevirtual 51, 3) := by decide +kernel
theorem dX4_readItem_83 : decode cX4_readItem 83 = .ok (.ireturn, 1) := by decide +kernel
theorem dX4_readItem_84 : decode cX4_readItem 84 = .ok (.aload_n 0, 1) := by decide +kernel
theorem dX4_readItem_85 : decode cX4_readItem 85 = .ok (.aload_n 1, 1) := by decide +kernel
theorem dX4_readItem_86 : decode cX4_readItem 86 = .ok (.invokevirtual 54, 3) := by decide +kernel
theorem dX4_readItem_89 : decode cX4_readItem 89 = .ok (.ireturn, 1) := by decide +kernel
theorem dX4_readItem_90 : decode cX4_readItem 90 = .ok (.iconst 0, 1) := by decide +kernel
theorem dX4_readItem_91 : decode cX4_readItem 91 = .ok (.ireturn, 1) := by decide +kernel
theorem dX4_readBell_0 : decode cX4_readBell 0 = .ok (.aload_n 0, 1) := by decide +kernel
theorem dX4_readBell_1 : decode cX4_readBell 1 = .ok (.invokevirtual 45, 3) := by decide +kernel
theorem dX4_readBell_4 : decode cX4_readBell 4 = .ok (.istore_n 2, 1) := by decide +kernel
theorem dX4_readBell_5 : decode cX4_readBell 5 = .ok (.aload_n 0, 1) := by decide +kernel
theorem dX4_readBell_6 : decode cX4_readBell 6 = .ok (.bipush 44, 2) := by decide +kernel
theorem dX4_readBell_8 : decode cX4_readBell 8 = .ok (.invokevirtual 34, 3) := by decide +kernel
theorem dX4_readBell_11 : decode cX4_readBell 11 = .ok (.ifCond .eq 19, 3) := by decide +kernel
theorem dX4_readBell_14 : decode cX4_readBell 14 = .ok (.aload_n 1, 1) := by decide +kernel
theorem dX4_readBell_15 : decode cX4_readBell 15 = .ok (.iload_n 2, 1) := by decide +kernel
theorem dX4_readBell_16 : decode cX4_readBell 16 = .ok (.aload_n 0, 1) := by decide +kernel
theorem dX4_readBell_17 : decode cX4_readBell 17 = .ok (.invokevirtual 45, 3) := by decide +kernel
theorem dX4_readBell_20 : decode cX4_readBell 20 = .ok (.invokevirtual 57, 3) := by decide +kernel
theorem dX4_readBell_23 : decode cX4_readBell 23 = .ok (.ifCond .eq 7, 3) := by decide +kernel
theorem dX4_readBell_26 : decode cX4_readBell 26 = .ok (.iconst 1, 1) := by decide +kernel
theorem dX4_readBell_27 : decode cX4_readBell 27 = .ok (.goto 4, 3) := by decide +kernel
theorem dX4_readBell_30 : decode cX4_readBell 30 = .ok (.iconst 0, 1) := by decide +kernel
theorem dX4_readBell_31 : decode cX4_readBell 31 = .ok (.ireturn, 1) := by decide +kernel
theorem dX4_readTune_0 : decode cX4_readTune 0 = .ok (.aload_n 1, 1) := by decide +kernel
theorem dX4_readTune_1 : decode cX4_readTune 1 = .ok (.getfield 61, 3) := by decide +kernel
theorem dX4_readTune_4 : decode cX4_readTune 4 = .ok (.ifCond .eq 5, 3) := by decide +kernel
theorem dX4_readTune_7 : decode cX4_readTune 7 = .ok (.iconst 0, 1) := by decide +kernel
theorem dX4_readTune_8 : decode cX4_readTune 8 = .ok (.ireturn, 1) := by decide +kernel
theorem dX4_readTune_9 : decode cX4_readTune 9 = .ok (.aload_n 1, 1) := by decide +kernel
theorem dX4_readTune_10 : decode cX4_readTune 10 = .ok (.iconst 1, 1) := by decide +kernel
theorem dX4_readTune_11 : decode cX4_readTune 11 = .ok (.putfield 61, 3) := by decide +kernel
theorem dX4_readTune_14 : decode cX4_readTune 14 = .ok (.iconst 0, 1) := by decide +kernel
theorem dX4_readTune_15 : decode cX4_readTune 15 = .ok (.istore_n 2, 1) := by decide +kernel
theorem dX4_readTune_16 : decode cX4_readTune 16 = .ok (.iconst 0, 1) := by decide +kernel
theorem dX4_readTune_17 : decode cX4_readTune 17 = .ok (.istore_n 3, 1) := by decide +kernel
theorem dX4_readTune_18 : decode cX4_readTune 18 = .ok (.iload_n 3, 1) := by decide +kernel
theorem dX4_readTune_19 : decode cX4_readTune 19 = .ok (.sipush 200, 3) := by decide +kernel
theorem dX4_readTune_22 : decode cX4_readTune 22 = .ok (.if_icmp .ge 127, 3) := by decide +kernel
theorem dX4_readTune_25 : decode cX4_readTune 25 = .ok (.aload_n 0, 1) := by decide +kernel
theorem dX4_readTune_26 : decode cX4_readTune 26 = .ok (.invokevirtual 38, 3) := by decide +kernel
theorem dX4_readTune_29 : decode cX4_readTune 29 = .ok (.bipush 59, 2) := by decide +kernel
theorem dX4_readTune_31 : decode cX4_readTune 31 = .ok (.if_icmp .eq 118, 3) := by decide +kernel
theorem dX4_readTune_34 : decode cX4_readTune 34 = .ok (.aload_n 0, 1) := by decide +kernel
theorem dX4_readTune_35 : decode cX4_readTune 35 = .ok (.bipush 40, 2) := by decide +kernel
theorem dX4_readTune_37 : decode cX4_readTune 37 = .ok (.invokevirtual 34, 3) := by decide +kernel
theorem dX4_readTune_40 : decode cX4_readTune 40 = .ok (.ifCond .eq 26, 3) := by decide +kernel
theorem dX4_readTune_43 : decode cX4_readTune 43 = .ok (.iload_n 2, 1) := by decide +kernel
theorem dX4_readTune_44 : decode cX4_readTune 44 = .ok (.iconst 3, 1) := by decide +kernel
theorem dX4_readTune_45 : decode cX4_readTune 45 = .ok (.if_icmp .lt 5, 3) := by decide +kernel
theorem dX4_readTune_48 : decode cX4_readTune 48 = .ok (.iconst 0, 1) := by decide +kernel
theorem dX4_readTune_49 : decode cX4_readTune 49 = .ok (.ireturn, 1) := by decide +kernel
theorem dX4_readTune_50 : decode cX4_readTune 50 = .ok (.aload_n 0, 1) := by decide +kernel
theorem dX4_readTune_51 : decode cX4_readTune 51 = .ok (.getfield 15, 3) := by decide +kernel
theorem dX4_readTune_54 : decode cX4_readTune 54 = .ok (.iload_n 2, 1) := by decide +kernel
theorem dX4_readTune_55 : decode cX4_readTune 55 = .ok (.aload_n 1, 1) := by decide +kernel
theorem dX4_readTune_56 : decode cX4_readTune 56 = .ok (.getfield 65, 3) := by decide +kernel
theorem dX4_readTune_59 : decode cX4_readTune 59 = .ok (.iastore, 1) := by decide +kernel
theorem dX4_readTune_60 : decode cX4_readTune 60 = .ok (.iinc 2 1, 3) := by decide +kernel
theorem dX4_readTune_63 : decode cX4_readTune 63 = .ok (.goto 80, 3) := by decide +kernel
theorem dX4_readTune_66 : decode cX4_readTune 66 = .ok (.aload_n 0, 1) := by decide +kernel
theorem dX4_readTune_67 : decode cX4_readTune 67 = .ok (.bipush 41, 2) := by decide +kernel
theorem dX4_readTune_69 : decode cX4_readTune 69 = .ok (.invokevirtual 34, 3) := by decide +kernel
theorem dX4_readTune_72 : decode cX4_readTune 72 = .ok (.ifCond .eq 45, 3) := by decide +kernel
theorem dX4_readTune_75 : decode cX4_readTune 75 = .ok (.aload_n 0, 1) := by decide +kernel
theorem dX4_readTune_76 : decode cX4_readTune 76 = .ok (.invokevirtual 68, 3) := by decide +kernel
theorem dX4_readTune_79 : decode cX4_readTune 79 = .ok (.istore 4, 2) := by decide +kernel
theorem dX4_readTune_81 : decode cX4_readTune 81 = .ok (.iload_n 2, 1) := by decide +kernel
theorem dX4_readTune_82 : decode cX4_readTune 82 = .ok (.iconst 1, 1) := by decide +kernel
theorem dX4_readTune_83 : decode cX4_readTune 83 = .ok (.if_icmp .lt 26, 3) := by decide +kernel
theorem dX4_readTune_86 : decode cX4_readTune 86 = .ok (.iload 4, 2) := by decide +kernel
theorem dX4_readTune_88 : decode cX4_readTune 88 = .ok (.iconst 2, 1) := by decide +kernel
theorem dX4_readTune_89 : decode cX4_readTune 89 = .ok (.if_icmp .lt 20, 3) := by decide +kernel
theorem dX4_readTune_92 : decode cX4_readTune 92 = .ok (.aload_n 1, 1) := by decide +kernel
theorem dX4_readTune_93 : decode cX4_readTune 93 = .ok (.aload_n 0, 1) := by decide +kernel
theorem dX4_readTune_94 : decode cX4_readTune 94 = .ok (.getfield 15, 3) := by decide +kernel
theorem dX4_readTune_97 : decode cX4_readTune 97 = .ok (.iload_n 2, 1) := by decide +kernel
theorem dX4_readTune_98 : decode cX4_readTune 98 = .ok (.iconst 1, 1) := by decide +kernel
theorem dX4_readTune_99 : decode cX4_readTune 99 = .ok (.isub, 1) := by decide +kernel
theorem dX4_readTune_100 : decode cX4_readTune 100 = .ok (.iaload, 1) := by decide +kernel
theorem dX4_readTune_101 : decode cX4_readTune 101 = .ok (.iload 4, 2) := by decide +kernel
theorem dX4_readTune_103 : decode cX4_readTune 103 = .ok (.invokevirtual 71, 3) := by decide +kernel
theorem dX4_readTune_106 : decode cX4_readTune 106 = .ok (.ifCond .ne 5, 3) := by decide +kernel
theorem dX4_readTune_109 : decode cX4_readTune 109 = .ok (.iconst 0, 1) := by decide +kernel
theorem dX4_readTune_110 : decode cX4_readTune 110 = .ok (.ireturn, 1) := by decide +kernel
theorem dX4_readTune_111 : decode cX4_readTune 111 = .ok (.iinc 2 (-1), 3) := by decide +kernel
theorem dX4_readTune_114 : decode cX4_readTune 114 = .ok (.goto 29, 3) := by decide +kernel
theorem dX4_readTune_117 : decode cX4_readTune 117 = .ok (.aload_n 0, 1) := by decide +kernel
theorem dX4_readTune_118 : decode cX4_readTune 118 = .ok (.aload_n 1, 1) := by decide +kernel
theorem dX4_readTune_119 : decode cX4_readTune 119 = .ok (.getfield 74, 3) := by decide +kernel
theorem dX4_readTune_122 : decode cX4_readTune 122 = .ok (.invokevirtual 77, 3) := by decide +kernel
theorem dX4_readTune_125 : decode cX4_readTune 125 = .ok (.istore 4, 2) := by decide +kernel
theorem dX4_readTune_127 : decode cX4_readTune 127 = .ok (.iload 4, 2) := by decide +kernel
theorem dX4_readTune_129 : decode cX4_readTune 129 = .ok (.ifCond .lt 12, 3) := by decide +kernel
theorem dX4_readTune_132 : decode cX4_readTune 132 = .ok (.aload_n 1, 1) := by decide +kernel
theorem dX4_readTune_133 : decode cX4_readTune 133 = .ok (.iload 4, 2) := by decide +kernel
theorem dX4_readTune_135 : decode cX4_readTune 135 = .ok (.invokevirtual 81, 3) := by decide +kernel
theorem dX4_readTune_138 : decode cX4_readTune 138 = .ok (.ifCond .ne 5, 3) := by decide +kernel
theorem dX4_readTune_141 : decode cX4_readTune 141 = .ok (.iconst 0, 1) := by decide +kernel
theorem dX4_readTune_142 : decode cX4_readTune 142 = .ok (.ireturn, 1) := by decide +kernel
theorem dX4_readTune_143 : decode cX4_readTune 143 = .ok (.iinc 3 1, 3) := by decide +kernel
theorem dX4_readTune_146 : decode cX4_readTune 146 = .ok (.goto (-128), 3) := by decide +kernel
theorem dX4_readTune_149 : decode cX4_readTune 149 = .ok (.iload_n 2, 1) := by decide +kernel
theorem dX4_readTune_150 : decode cX4_readTune 150 = .ok (.ifCond .ne 14, 3) := by decide +kernel
theorem dX4_readTune_153 : decode cX4_readTune 153 = .ok (.aload_n 1, 1) := by decide +kernel
theorem dX4_readTune_154 : decode cX4_readTune 154 = .ok (.getfield 65, 3) := by decide +kernel
theorem dX4_readTune_157 : decode cX4_readTune 157 = .ok (.ifCond .le 7, 3) := by decide +kernel
theorem dX4_readTune_160 : decode cX4_readTune 160 = .ok (.iconst 1, 1) := by decide +kernel
theorem dX4_readTune_161 : decode cX4_readTune 161 = .ok (.goto 4, 3) := by decide +kernel
theorem dX4_readTune_164 : decode cX4_readTune 164 = .ok (.iconst 0, 1) := by decide +kernel
theorem dX4_readTune_165 : decode cX4_readTune 165 = .ok (.ireturn, 1) := by decide +kernel
theorem dX4_readSet_0 : decode cX4_readSet 0 = .ok (.aload_n 0, 1) := by decide +kernel
theorem dX4_readSet_1 : decode cX4_readSet 1 = .ok (.bipush 46, 2) := by decide +kernel
theorem dX4_readSet_3 : decode cX4_readSet 3 = .ok (.invokevirtual 34, 3) := by decide +kernel
theorem dX4_readSet_6 : decode cX4_readSet 6 = .ok (.ifCond .eq 5, 3) := by decide +kernel
theorem dX4_readSet_9 : decode cX4_readSet 9 = .ok (.iconst 0, 1) := by decide +kernel
theorem dX4_readSet_10 : decode cX4_readSet 10 = .ok (.ireturn, 1) := by decide +kernel
theorem dX4_readSet_11 : decode cX4_readSet 11 = .ok (.aload_n 0, 1) := by decide +kernel
theorem dX4_readSet_12 : decode cX4_readSet 12 = .ok (.bipush 91, 2) := by decide +kernel
theorem dX4_readSet_14 : decode cX4_readSet 14 = .ok (.invokevirtual 34, 3) := by decide +kernel
theorem dX4_readSet_17 : decode cX4_readSet 17 = .ok (.ifCond .ne 21, 3) := by decide +kernel
theorem dX4_readSet_20 : decode cX4_readSet 20 = .ok (.aload_n 0, 1) := by decide +kernel
theorem dX4_readSet_21 : decode cX4_readSet 21 = .ok (.iload_n 1, 1) := by decide +kernel
theorem dX4_readSet_22 : decode cX4_readSet 22 = .ok (.invokevirtual 84, 3) := by decide +kernel
theorem dX4_readSet_25 : decode cX4_readSet 25 = .ok (.istore_n 2, 1) := by decide +kernel
theorem dX4_readSet_26 : decode cX4_readSet 26 = .ok (.iload_n 2, 1) := by decide +kernel
theorem dX4_readSet_27 : decode cX4_readSet 27 = .ok (.ifCond .ge 7, 3) := by decide +kernel
theorem dX4_readSet_30 : decode cX4_readSet 30 = .ok (.iconst (-1), 1) := by decide +kernel
theorem dX4_readSet_31 : decode cX4_readSet 31 = .ok (.goto 6, 3) := by decide +kernel
theorem dX4_readSet_34 : decode cX4_readSet 34 = .ok (.iconst 1, 1) := by decide +kernel
theorem dX4_readSet_35 : decode cX4_readSet 35 = .ok (.iload_n 2, 1) := by decide +kernel
theorem dX4_readSet_36 : decode cX4_readSet 36 = .ok (.ishl, 1) := by decide +kernel
theorem dX4_readSet_37 : decode cX4_readSet 37 = .ok (.ireturn, 1) := by decide +kernel
theorem dX4_readSet_38 : decode cX4_readSet 38 = .ok (.iconst 0, 1) := by decide +kernel
theorem dX4_readSet_39 : decode cX4_readSet 39 = .ok (.istore_n 2, 1) := by decide +kernel
theorem dX4_readSet_40 : decode cX4_readSet 40 = .ok (.iconst 0, 1) := by decide +kernel
theorem dX4_readSet_41 : decode cX4_readSet 41 = .ok (.istore_n 3, 1) := by decide +kernel
theorem dX4_readSet_42 : decode cX4_readSet 42 = .ok (.iload_n 3, 1) := by decide +kernel
theorem dX4_readSet_43 : decode cX4_readSet 43 = .ok (.bipush 8, 2) := by decide +kernel
theorem dX4_readSet_45 : decode cX4_readSet 45 = .ok (.if_icmp .ge 46, 3) := by decide +kernel
theorem dX4_readSet_48 : decode cX4_readSet 48 = .ok (.aload_n 0, 1) := by decide +kernel
theorem dX4_readSet_49 : decode cX4_readSet 49 = .ok (.invokevirtual 38, 3) := by decide +kernel
theorem dX4_readSet_52 : decode cX4_readSet 52 = .ok (.bipush 93, 2) := by decide +kernel
theorem dX4_readSet_54 : decode cX4_readSet 54 = .ok (.if_icmp .eq 37, 3) := by decide +kernel
theorem dX4_readSet_57 : decode cX4_readSet 57 = .ok (.aload_n 0, 1) := by decide +kernel
theorem dX4_readSet_58 : decode cX4_readSet 58 = .ok (.iload_n 1, 1) := by decide +kernel
theorem dX4_readSet_59 : decode cX4_readSet 59 = .ok (.invokevirtual 84, 3) := by decide +kernel
theorem dX4_readSet_62 : decode cX4_readSet 62 = .ok (.istore 4, 2) := by decide +kernel
theorem dX4_readSet_64 : decode cX4_readSet 64 = .ok (.iload 4, 2) := by decide +kernel
theorem dX4_readSet_66 : decode cX4_readSet 66 = .ok (.ifCond .lt 10, 3) := by decide +kernel
theorem dX4_readSet_69 : decode cX4_readSet 69 = .ok (.iload_n 2, 1) := by decide +kernel
theorem dX4_readSet_70 : decode cX4_readSet 70 = .ok (.iload 4, 2) := by decide +kernel
theorem dX4_readSet_72 : decode cX4_readSet 72 = .ok (.ishr, 1) := by decide +kernel
theorem dX4_readSet_73 : decode cX4_readSet 73 = .ok (.ifCond .eq 5, 3) := by decide +kernel
theorem dX4_readSet_76 : decode cX4_readSet 76 = .ok (.iconst (-1), 1) := by decide +kernel
theorem dX4_readSet_77 : decode cX4_readSet 77 = .ok (.ireturn, 1) := by decide +kernel
theorem dX4_readSet_78 : decode cX4_readSet 78 = .ok (.iload_n 2, 1) := by decide +kernel
theorem dX4_readSet_79 : decode cX4_readSet 79 = .ok (.iconst 1, 1) := by decide +kernel
theorem dX4_readSet_80 : decode cX4_readSet 80 = .ok (.iload 4, 2) := by decide +kernel
theorem dX4_readSet_82 : decode cX4_readSet 82 = .ok (.ishl, 1) := by decide +kernel
theorem dX4_readSet_83 : decode cX4_readSet 83 = .ok (.ior, 1) := by decide +kernel
theorem dX4_readSet_84 : decode cX4_readSet 84 = .ok (.istore_n 2, 1) := by decide +kernel
theorem dX4_readSet_85 : decode cX4_readSet 85 = .ok (.iinc 3 1, 3) := by decide +kernel
theorem dX4_readSet_88 : decode cX4_readSet 88 = .ok (.goto (-46), 3) := by decide +kernel
theorem dX4_readSet_91 : decode cX4_readSet 91 = .ok (.aload_n 0, 1) := by decide +kernel
theorem dX4_readSet_92 : decode cX4_readSet 92 = .ok (.bipush 93, 2) := by decide +kernel
theorem dX4_readSet_94 : decode cX4_readSet 94 = .ok (.invokevirtual 34, 3) := by decide +kernel
theorem dX4_readSet_97 : decode cX4_readSet 97 = .ok (.ifCond .eq 15, 3) := by decide +kernel
theorem dX4_readSet_100 : decode cX4_readSet 100 = .ok (.iload_n 2, 1) := by decide +kernel
theorem dX4_readSet_101 : decode cX4_readSet 101 = .ok (.invokestatic 87, 3) := by decide +kernel
theorem dX4_readSet_104 : decode cX4_readSet 104 = .ok (.iconst 2, 1) := by decide +kernel
theorem dX4_readSet_105 : decode cX4_readSet 105 = .ok (.if_icmp .lt 7, 3) := by decide +kernel
theorem dX4_readSet_108 : decode cX4_readSet 108 = .ok (.iload_n 2, 1) := by decide +kernel
theorem dX4_readSet_109 : decode cX4_readSet 109 = .ok (.goto 4, 3) := by decide +kernel
theorem dX4_readSet_112 : decode cX4_readSet 112 = .ok (.iconst (-1), 1) := by decide +kernel
theorem dX4_readSet_113 : decode cX4_readSet 113 = .ok (.ireturn, 1) := by decide +kernel
theorem dX4_readBellLetter_0 : decode cX4_readBellLetter 0 = .ok (.aload_n 0, 1) := by decide +kernel
theorem dX4_readBellLetter_1 : decode cX4_readBellLetter 1 = .ok (.invokevirtual 38, 3) := by decide +kernel
theorem dX4_readBellLetter_4 : decode cX4_readBellLetter 4 = .ok (.bipush 97, 2) := by decide +kernel
theorem dX4_readBellLetter_6 : decode cX4_readBellLetter 6 = .ok (.isub, 1) := by decide +kernel
theorem dX4_readBellLetter_7 : decode cX4_readBellLetter 7 = .ok (.istore_n 2, 1) := by decide +kernel
theorem dX4_readBellLetter_8 : decode cX4_readBellLetter 8 = .ok (.aload_n 0, 1) := by decide +kernel
theorem dX4_readBellLetter_9 : decode cX4_readBellLetter 9 = .ok (.dup, 1) := by decide +kernel
theorem dX4_readBellLetter_10 : decode cX4_readBellLetter 10 = .ok (.getfield 27, 3) := by decide +kernel
theorem dX4_readBellLetter_13 : decode cX4_readBellLetter 13 = .ok (.iconst 1, 1) := by decide +kernel
theorem dX4_readBellLetter_14 : decode cX4_readBellLetter 14 = .ok (.iadd, 1) := by decide +kernel
theorem dX4_readBellLetter_15 : decode cX4_readBellLetter 15 = .ok (.putfield 27, 3) := by decide +kernel
theorem dX4_readBellLetter_18 : decode cX4_readBellLetter 18 = .ok (.iload_n 2, 1) := by decide +kernel
theorem dX4_readBellLetter_19 : decode cX4_readBellLetter 19 = .ok (.ifCond .lt 12, 3) := by decide +kernel
theorem dX4_readBellLetter_22 : decode cX4_readBellLetter 22 = .ok (.iload_n 2, 1) := by decide +kernel
theorem dX4_readBellLetter_23 : decode cX4_readBellLetter 23 = .ok (.iload_n 1, 1) := by decide +kernel
theorem dX4_readBellLetter_24 : decode cX4_readBellLetter 24 = .ok (.if_icmp .ge 7, 3) := by decide +kernel
theorem dX4_readBellLetter_27 : decode cX4_readBellLetter 27 = .ok (.iload_n 2, 1) := by decide +kernel
theorem dX4_readBellLetter_28 : decode cX4_readBellLetter 28 = .ok (.goto 4, 3) := by decide +kernel
theorem dX4_readBellLetter_31 : decode cX4_readBellLetter 31 = .ok (.iconst (-1), 1) := by decide +kernel
theorem dX4_readBellLetter_32 : decode cX4_readBellLetter 32 = .ok (.ireturn, 1) := by decide +kernel
theorem dX4_readNumber_0 : decode cX4_readNumber 0 = .ok (.aload_n 0, 1) := by decide +kernel
theorem dX4_readNumber_1 : decode cX4_readNumber 1 = .ok (.invokevirtual 68, 3) := by decide +kernel
theorem dX4_readNumber_4 : decode cX4_readNumber 4 = .ok (.istore_n 1, 1) := by decide +kernel
theorem dX4_readNumber_5 : decode cX4_readNumber 5 = .ok (.iload_n 1, 1) := by decide +kernel
theorem dX4_readNumber_6 : decode cX4_readNumber 6 = .ok (.ifCond .ge 5, 3) := by decide +kernel
theorem dX4_readNumber_9 : decode cX4_readNumber 9 = .ok (.iconst (-1), 1) := by decide +kernel
theorem dX4_readNumber_10 : decode cX4_readNumber 10 = .ok (.ireturn, 1) := by decide +kernel
theorem dX4_readNumber_11 : decode cX4_readNumber 11 = .ok (.aload_n 0, 1) := by decide +kernel
theorem dX4_readNumber_12 : decode cX4_readNumber 12 = .ok (.invokevirtual 68, 3) := by decide +kernel
theorem dX4_readNumber_15 : decode cX4_readNumber 15 = .ok (.istore_n 2, 1) := by decide +kernel
theorem dX4_readNumber_16 : decode cX4_readNumber 16 = .ok (.iload_n 2, 1) := by decide +kernel
theorem dX4_readNumber_17 : decode cX4_readNumber 17 = .ok (.ifCond .ge 7, 3) := by decide +kernel
theorem dX4_readNumber_20 : decode cX4_readNumber 20 = .ok (.iload_n 1, 1) := by decide +kernel
theorem dX4_readNumber_21 : decode cX4_readNumber 21 = .ok (.goto 9, 3) := by decide +kernel
theorem dX4_readNumber_24 : decode cX4_readNumber 24 = .ok (.iload_n 1, 1) := by decide +kernel
theorem dX4_readNumber_25 : decode cX4_readNumber 25 = .ok (.bipush 10, 2) := by decide +kernel
theorem dX4_readNumber_27 : decode cX4_readNumber 27 = .ok (.imul, 1) := by decide +kernel
theorem dX4_readNumber_28 : decode cX4_readNumber 28 = .ok (.iload_n 2, 1) := by decide +kernel
theorem dX4_readNumber_29 : decode cX4_readNumber 29 = .ok (.iadd, 1) := by decide +kernel
theorem dX4_readNumber_30 : decode cX4_readNumber 30 = .ok (.ireturn, 1) := by decide +kernel
theorem dX4_readFigure_0 : decode cX4_readFigure 0 = .ok (.aload_n 0, 1) := by decide +kernel
theorem dX4_readFigure_1 : decode cX4_readFigure 1 = .ok (.invokevirtual 38, 3) := by decide +kernel
theorem dX4_readFigure_4 : decode cX4_readFigure 4 = .ok (.bipush 48, 2) := by decide +kernel
theorem dX4_readFigure_6 : decode cX4_readFigure 6 = .ok (.isub, 1) := by decide +kernel
theorem dX4_readFigure_7 : decode cX4_readFigure 7 = .ok (.istore_n 1, 1) := by decide +kernel
theorem dX4_readFigure_8 : decode cX4_readFigure 8 = .ok (.iload_n 1, 1) := by decide +kernel
theorem dX4_readFigure_9 : decode cX4_readFigure 9 = .ok (.ifCond .lt 9, 3) := by decide +kernel
theorem dX4_readFigure_12 : decode cX4_readFigure 12 = .ok (.iload_n 1, 1) := by decide +kernel
theorem dX4_readFigure_13 : decode cX4_readFigure 13 = .ok (.bipush 9, 2) := by decide +kernel
theorem dX4_readFigure_15 : decode cX4_readFigure 15 = .ok (.if_icmp .le 5, 3) := by decide +kernel
theorem dX4_readFigure_18 : decode cX4_readFigure 18 = .ok (.iconst (-1), 1) := by decide +kernel
theorem dX4_readFigure_19 : decode cX4_readFigure 19 = .ok (.ireturn, 1) := by decide +kernel
theorem dX4_readFigure_20 : decode cX4_readFigure 20 = .ok (.aload_n 0, 1) := by decide +kernel
theorem dX4_readFigure_21 : decode cX4_readFigure 21 = .ok (.dup, 1) := by decide +kernel
theorem dX4_readFigure_22 : decode cX4_readFigure 22 = .ok (.getfield 27, 3) := by decide +kernel
theorem dX4_readFigure_25 : decode cX4_readFigure 25 = .ok (.iconst 1, 1) := by decide +kernel
theorem dX4_readFigure_26 : decode cX4_readFigure 26 = .ok (.iadd, 1) := by decide +kernel
theorem dX4_readFigure_27 : decode cX4_readFigure 27 = .ok (.putfield 27, 3) := by decide +kernel
theorem dX4_readFigure_30 : decode cX4_readFigure 30 = .ok (.iload_n 1, 1) := by decide +kernel
theorem dX4_readFigure_31 : decode cX4_readFigure 31 = .ok (.ireturn, 1) := by decide +kernel
theorem dX4_accept_0 : decode cX4_accept 0 = .ok (.aload_n 0, 1) := by decide +kernel
theorem dX4_accept_1 : decode cX4_accept 1 = .ok (.invokevirtual 38, 3) := by decide +kernel
theorem dX4_accept_4 : decode cX4_accept 4 = .ok (.iload_n 1, 1) := by decide +kernel
theorem dX4_accept_5 : decode cX4_accept 5 = .ok (.if_icmp .eq 5, 3) := by decide +kernel
theorem dX4_accept_8 : decode cX4_accept 8 = .ok (.iconst 0, 1) := by decide +kernel
theorem dX4_accept_9 : decode cX4_accept 9 = .ok (.ireturn, 1) := by decide +kernel
theorem dX4_accept_10 : decode cX4_accept 10 = .ok (.aload_n 0, 1) := by decide +kernel
theorem dX4_accept_11 : decode cX4_accept 11 = .ok (.dup, 1) := by decide +kernel
theorem dX4_accept_12 : decode cX4_accept 12 = .ok (.getfield 27, 3) := by decide +kernel
theorem dX4_accept_15 : decode cX4_accept 15 = .ok (.iconst 1, 1) := by decide +kernel
theorem dX4_accept_16 : decode cX4_accept 16 = .ok (.iadd, 1) := by decide +kernel
theorem dX4_accept_17 : decode cX4_accept 17 = .ok (.putfield 27, 3) := by decide +kernel
theorem dX4_accept_20 : decode cX4_accept 20 = .ok (.iconst 1, 1) := by decide +kernel
theorem dX4_accept_21 : decode cX4_accept 21 = .ok (.ireturn, 1) := by decide +kernel
theorem dX4_peek_0 : decode cX4_peek 0 = .ok (.aload_n 0, 1) := by decide +kernel
theorem dX4_peek_1 : decode cX4_peek 1 = .ok (.getfield 27, 3) := by decide +kernel
theorem dX4_peek_4 : decode cX4_peek 4 = .ok (.ifCond .lt 26, 3) := by decide +kernel
theorem dX4_peek_7 : decode cX4_peek 7 = .ok (.aload_n 0, 1) := by decide +kernel
theorem dX4_peek_8 : decode cX4_peek 8 = .ok (.getfield 27, 3) := by decide +kernel
theorem dX4_peek_11 : decode cX4_peek 11 = .ok (.aload_n 0, 1) := by decide +kernel
theorem dX4_peek_12 : decode cX4_peek 12 = .ok (.getfield 18, 3) := by decide +kernel
theorem dX4_peek_15 : decode cX4_peek 15 = .ok (.if_icmp .ge 15, 3) := by decide +kernel
theorem dX4_peek_18 : decode cX4_peek 18 = .ok (.aload_n 0, 1) := by decide +kernel
theorem dX4_peek_19 : decode cX4_peek 19 = .ok (.getfield 9, 3) := by decide +kernel
theorem dX4_peek_22 : decode cX4_peek 22 = .ok (.aload_n 0, 1) := by decide +kernel
theorem dX4_peek_23 : decode cX4_peek 23 = .ok (.getfield 27, 3) := by decide +kernel
theorem dX4_peek_26 : decode cX4_peek 26 = .ok (.iaload, 1) := by decide +kernel
theorem dX4_peek_27 : decode cX4_peek 27 = .ok (.goto 4, 3) := by decide +kernel
theorem dX4_peek_30 : decode cX4_peek 30 = .ok (.iconst 0, 1) := by decide +kernel
theorem dX4_peek_31 : decode cX4_peek 31 = .ok (.ireturn, 1) := by decide +kernel
theorem dX5_init_0 : decode cX5_init 0 = .ok (.aload_n 0, 1) := by decide +kernel
theorem dX5_init_1 : decode cX5_init 1 = .ok (.invokespecial 3, 3) := by decide +kernel
theorem dX5_init_4 : decode cX5_init 4 = .ok (.aload_n 0, 1) := by decide +kernel
theorem dX5_init_5 : decode cX5_init 5 = .ok (.bipush 8, 2) := by decide +kernel
theorem dX5_init_7 : decode cX5_init 7 = .ok (.newarray .int, 2) := by decide +kernel
theorem dX5_init_9 : decode cX5_init 9 = .ok (.putfield 9, 3) := by decide +kernel
theorem dX5_init_12 : decode cX5_init 12 = .ok (.aload_n 0, 1) := by decide +kernel
theorem dX5_init_13 : decode cX5_init 13 = .ok (.bipush 8, 2) := by decide +kernel
theorem dX5_init_15 : decode cX5_init 15 = .ok (.newarray .int, 2) := by decide +kernel
theorem dX5_init_17 : decode cX5_init 17 = .ok (.putfield 15, 3) := by decide +kernel
theorem dX5_init_20 : decode cX5_init 20 = .ok (.aload_n 0, 1) := by decide +kernel
theorem dX5_init_21 : decode cX5_init 21 = .ok (.bipush 8, 2) := by decide +kernel
theorem dX5_init_23 : decode cX5_init 23 = .ok (.newarray .int, 2) := by decide +kernel
theorem dX5_init_25 : decode cX5_init 25 = .ok (.putfield 18, 3) := by decide +kernel
theorem dX5_init_28 : decode cX5_init 28 = .ok (.aload_n 0, 1) := by decide +kernel
theorem dX5_init_29 : decode cX5_init 29 = .ok (.bipush 16, 2) := by decide +kernel
theorem dX5_init_31 : decode cX5_init 31 = .ok (.putfield 21, 3) := by decide +kernel
theorem dX5_init_34 : decode cX5_init 34 = .ok (.aload_n 0, 1) := by decide +kernel
theorem dX5_init_35 : decode cX5_init 35 = .ok (.iconst 1, 1) := by decide +kernel
theorem dX5_init_36 : decode cX5_init 36 = .ok (.putfield 25, 3) := by decide +kernel
theorem dX5_init_39 : decode cX5_init 39 = .ok (.aload_n 0, 1) := by decide +kernel
theorem dX5_init_40 : decode cX5_init 40 = .ok (.bipush 32, 2) := by decide +kernel
theorem dX5_init_42 : decode cX5_init 42 = .ok (.newarray .int, 2) := by decide +kernel
theorem dX5_init_44 : decode cX5_init 44 = .ok (.putfield 28, 3) := by decide +kernel
theorem dX5_init_47 : decode cX5_init 47 = .ok (.return_, 1) := by decide +kernel
theorem dX5_clear_0 : decode cX5_clear 0 = .ok (.aload_n 0, 1) := by decide +kernel
theorem dX5_clear_1 : decode cX5_clear 1 = .ok (.iconst 0, 1) := by decide +kernel
theorem dX5_clear_2 : decode cX5_clear 2 = .ok (.putfield 31, 3) := by decide +kernel
theorem dX5_clear_5 : decode cX5_clear 5 = .ok (.aload_n 0, 1) := by decide +kernel
theorem dX5_clear_6 : decode cX5_clear 6 = .ok (.bipush 16, 2) := by decide +kernel
theorem dX5_clear_8 : decode cX5_clear 8 = .ok (.putfield 21, 3) := by decide +kernel
theorem dX5_clear_11 : decode cX5_clear 11 = .ok (.aload_n 0, 1) := by decide +kernel
theorem dX5_clear_12 : decode cX5_clear 12 = .ok (.iconst 1, 1) := by decide +kernel
theorem dX5_clear_13 : decode cX5_clear 13 = .ok (.putfield 25, 3) := by decide +kernel
theorem dX5_clear_16 : decode cX5_clear 16 = .ok (.aload_n 0, 1) := by decide +kernel
theorem dX5_clear_17 : decode cX5_clear 17 = .ok (.iconst 0, 1) := by decide +kernel
theorem dX5_clear_18 : decode cX5_clear 18 = .ok (.putfield 34, 3) := by decide +kernel
theorem dX5_clear_21 : decode cX5_clear 21 = .ok (.aload_n 0, 1) := by decide +kernel
theorem dX5_clear_22 : decode cX5_clear 22 = .ok (.iconst 0, 1) := by decide +kernel
theorem dX5_clear_23 : decode cX5_clear 23 = .ok (.putfield 38, 3) := by decide +kernel
theorem dX5_clear_26 : decode cX5_clear 26 = .ok (.return_, 1) := by decide +kernel
theorem dX5_addBell_0 : decode cX5_addBell 0 = .ok (.aload_n 0, 1) := by decide +kernel
theorem dX5_addBell_1 : decode cX5_addBell 1 = .ok (.getfield 31, 3) := by decide +kernel
theorem dX5_addBell_4 : decode cX5_addBell 4 = .ok (.bipush 8, 2) := by decide +kernel
theorem dX5_addBell_6 : decode cX5_addBell 6 = .ok (.if_icmp .ge 23, 3) := by decide +kernel
theorem dX5_addBell_9 : decode cX5_addBell 9 = .ok (.iload_n 1, 1) := by decide +kernel
theorem dX5_addBell_10 : decode cX5_addBell 10 = .ok (.ifCond .lt 19, 3) := by decide +kernel
theorem dX5_addBell_13 : decode cX5_addBell 13 = .ok (.iload_n 1, 1) := by decide +kernel
theorem dX5_addBell_14 : decode cX5_addBell 14 = .ok (.bipush 40, 2) := by decide +kernel
theorem dX5_addBell_16 : decode cX5_addBell 16 = .ok (.if_icmp .gt 13, 3) := by decide +kernel
theorem dX5_addBell_19 : decode cX5_addBell 19 = .ok (.iload_n 2, 1) := by decide +kernel
theorem dX5_addBell_20 : decode cX5_addBell 20 = .ok (.iconst 1, 1) := by decide +kernel
theorem dX5_addBell_21 : decode cX5_addBell 21 = .ok (.if_icmp .lt 8, 3) := by decide +kernel
theorem dX5_addBell_24 : decode cX5_addBell 24 = .ok (.iload_n 2, 1) := by decide +kernel
theorem dX5_addBell_25 : decode cX5_addBell 25 = .ok (.iconst 2, 1) := by decide +kernel
theorem dX5_addBell_26 : decode cX5_addBell 26 = .ok (.if_icmp .le 5, 3) := by decide +kernel
theorem dX5_addBell_29 : decode cX5_addBell 29 = .ok (.iconst 0, 1) := by decide +kernel
theorem dX5_addBell_30 : decode cX5_addBell 30 = .ok (.ireturn, 1) := by decide +kernel
theorem dX5_addBell_31 : decode cX5_addBell 31 = .ok (.aload_n 0, 1) := by decide +kernel
theorem dX5_addBell_32 : decode cX5_addBell 32 = .ok (.getfield 9, 3) := by decide +kernel
theorem dX5_addBell_35 : decode cX5_addBell 35 = .ok (.aload_n 0, 1) := by decide +kernel
theorem dX5_addBell_36 : decode cX5_addBell 36 = .ok (.getfield 31, 3) := by decide +kernel
theorem dX5_addBell_39 : decode cX5_addBell 39 = .ok (.iload_n 1, 1) := by decide +kernel
theorem dX5_addBell_40 : decode cX5_addBell 40 = .ok (.iastore, 1) := by decide +kernel
theorem dX5_addBell_41 : decode cX5_addBell 41 = .ok (.aload_n 0, 1) := by decide +kernel
theorem dX5_addBell_42 : decode cX5_addBell 42 = .ok (.getfield 15, 3) := by decide +kernel
theorem dX5_addBell_45 : decode cX5_addBell 45 = .ok (.aload_n 0, 1) := by decide +kernel
theorem dX5_addBell_46 : decode cX5_addBell 46 = .ok (.getfield 31, 3) := by decide +kernel
theorem dX5_addBell_49 : decode cX5_addBell 49 = .ok (.iload_n 2, 1) := by decide +kernel
theorem dX5_addBell_50 : decode cX5_addBell 50 = .ok (.iastore, 1) := by decide +kernel
theorem dX5_addBell_51 : decode cX5_addBell 51 = .ok (.aload_n 0, 1) := by decide +kernel
theorem dX5_addBell_52 : decode cX5_addBell 52 = .ok (.getfield 18, 3) := by decide +kernel
theorem dX5_addBell_55 : decode cX5_addBell 55 = .ok (.aload_n 0, 1) := by decide +kernel
theorem dX5_addBell_56 : decode cX5_addBell 56 = .ok (.getfield 31, 3) := by decide +kernel
theorem dX5_addBell_59 : decode cX5_addBell 59 = .ok (.iconst 0, 1) := by decide +kernel
theorem dX5_addBell_60 : decode cX5_addBell 60 = .ok (.iastore, 1) := by decide +kernel
theorem dX5_addBell_61 : decode cX5_addBell 61 = .ok (.iconst 0, 1) := by decide +kernel
theorem dX5_addBell_62 : decode cX5_addBell 62 = .ok (.istore_n 3, 1) := by decide +kernel
theorem dX5_addBell_63 : decode cX5_addBell 63 = .ok (.iload_n 3, 1) := by decide +kernel
theorem dX5_addBell_64 : decode cX5_addBell 64 = .ok (.aload_n 0, 1) := by decide +kernel
theorem dX5_addBell_65 : decode cX5_addBell 65 = .ok (.getfield 31, 3) := by decide +kernel
theorem dX5_addBell_68 : decode cX5_addBell 68 = .ok (.if_icmp .ge 63, 3) := by decide +kernel
theorem dX5_addBell_71 : decode cX5_addBell 71 = .ok (.sipush 3142, 3) := by decide +kernel
theorem dX5_addBell_74 : decode cX5_addBell 74 = .ok (.aload_n 0, 1) := by decide +kernel
theorem dX5_addBell_75 : decode cX5_addBell 75 = .ok (.getfield 9, 3) := by decide +kernel
theorem dX5_addBell_78 : decode cX5_addBell 78 = .ok (.iload_n 3, 1) := by decide +kernel
theorem dX5_addBell_79 : decode cX5_addBell 79 = .ok (.iaload, 1) := by decide +kernel
theorem dX5_addBell_80 : decode cX5_addBell 80 = .ok (.iload_n 1, 1) := by decide +kernel
theorem dX5_addBell_81 : decode cX5_addBell 81 = .ok (.isub, 1) := by decide +kernel
theorem dX5_addBell_82 : decode cX5_addBell 82 = .ok (.invokestatic 41, 3) := by decide +kernel
theorem dX5_addBell_85 : decode cX5_addBell 85 = .ok (.bipush 12, 2) := by decide +kernel
theorem dX5_addBell_87 : decode cX5_addBell 87 = .ok (.irem, 1) := by decide +kernel
theorem dX5_addBell_88 : decode cX5_addBell 88 = .ok (.ishr, 1) := by decide +kernel
theorem dX5_addBell_89 : decode cX5_addBell 89 = .ok (.iconst 1, 1) := by decide +kernel
theorem dX5_addBell_90 : decode cX5_addBell 90 = .ok (.iand, 1) := by decide +kernel
theorem dX5_addBell_91 : decode cX5_addBell 91 = .ok (.iconst 1, 1) := by decide +kernel
theorem dX5_addBell_92 : decode cX5_addBell 92 = .ok (.if_icmp .ne 33, 3) := by decide +kernel
theorem dX5_addBell_95 : decode cX5_addBell 95 = .ok (.aload_n 0, 1) := by decide +kernel
theorem dX5_addBell_96 : decode cX5_addBell 96 = .ok (.getfield 18, 3) := by decide +kernel
theorem dX5_addBell_99 : decode cX5_addBell 99 = .ok (.iload_n 3, 1) := by decide +kernel
theorem dX5_addBell_100 : decode cX5_addBell 100 = .ok (.dup2, 1) := by decide +kernel
theorem dX5_addBell_101 : decode cX5_addBell 101 = .ok (.iaload, 1) := by decide +kernel
theorem dX5_addBell_102 : decode cX5_addBell 102 = .ok (.iconst 1, 1) := by decide +kernel
theorem dX5_addBell_103 : decode cX5_addBell 103 = .ok (.aload_n 0, 1) := by decide +kernel
theorem dX5_addBell_104 : decode cX5_addBell 104 = .ok (.getfield 31, 3) := by decide +kernel
theorem dX5_addBell_107 : decode cX5_addBell 107 = .ok (.ishl, 1) := by decide +kernel
theorem dX5_addBell_108 : decode cX5_addBell 108 = .ok (.ior, 1) := by decide +kernel
theorem dX5_addBell_109 : decode cX5_addBell 109 = .ok (.iastore, 1) := by decide +kernel
theorem dX5_addBell_110 : decode cX5_addBell 110 = .ok (.aload_n 0, 1) := by decide +kernel
theorem dX5_addBell_111 : decode cX5_addBell 111 = .ok (.getfield 18, 3) := by decide +kernel
theorem dX5_addBell_114 : decode cX5_addBell 114 = .ok (.aload_n 0, 1) := by decide +kernel
theorem dX5_addBell_115 : decode cX5_addBell 115 = .ok (.getfield 31, 3) := by decide +kernel
theorem dX5_addBell_118 : decode cX5_addBell 118 = .ok (.dup2, 1) := by decide +kernel
theorem dX5_addBell_119 : decode cX5_addBell 119 = .ok (.iaload, 1) := by decide +kernel
theorem dX5_addBell_120 : decode cX5_addBell 120 = .ok (.iconst 1, 1) := by decide +kernel
theorem dX5_addBell_121 : decode cX5_addBell 121 = .ok (.iload_n 3, 1) := by decide +kernel
theorem dX5_addBell_122 : decode cX5_addBell 122 = .ok (.ishl, 1) := by decide +kernel
theorem dX5_addBell_123 : decode cX5_addBell 123 = .ok (.ior, 1) := by decide +kernel
theorem dX5_addBell_124 : decode cX5_addBell 124 = .ok (.iastore, 1) := by decide +kernel
theorem dX5_addBell_125 : decode cX5_addBell 125 = .ok (.iinc 3 1, 3) := by decide +kernel
theorem dX5_addBell_128 : decode cX5_addBell 128 = .ok (.goto (-65), 3) := by decide +kernel
theorem dX5_addBell_131 : decode cX5_addBell 131 = .ok (.aload_n 0, 1) := by decide +kernel
theorem dX5_addBell_132 : decode cX5_addBell 132 = .ok (.dup, 1) := by decide +kernel
theorem dX5_addBell_133 : decode cX5_addBell 133 = .ok (.getfield 31, 3) := by decide +kernel
theorem dX5_addBell_136 : decode cX5_addBell 136 = .ok (.iconst 1, 1) := by decide +kernel
theorem dX5_addBell_137 : decode cX5_addBell 137 = .ok (.iadd, 1) := by decide +kernel
theorem dX5_addBell_138 : decode cX5_addBell 138 = .ok (.putfield 31, 3) := by decide +kernel
theorem dX5_addBell_141 : decode cX5_addBell 141 = .ok (.iconst 1, 1) := by decide +kernel
theorem dX5_addBell_142 : decode cX5_addBell 142 = .ok (.ireturn, 1) := by decide +kernel
theorem dX5_tellRows_0 : decode cX5_tellRows 0 = .ok (.iload_n 1, 1) := by decide +kernel
theorem dX5_tellRows_1 : decode cX5_tellRows 1 = .ok (.iconst 2, 1) := by decide +kernel
theorem dX5_tellRows_2 : decode cX5_tellRows 2 = .ok (.if_icmp .lt 9, 3) := by decide +kernel
theorem dX5_tellRows_5 : decode cX5_tellRows 5 = .ok (.iload_n 1, 1) := by decide +kernel
theorem dX5_tellRows_6 : decode cX5_tellRows 6 = .ok (.bipush 32, 2) := by decide +kernel
theorem dX5_tellRows_8 : decode cX5_tellRows 8 = .ok (.if_icmp .le 5, 3) := by decide +kernel
theorem dX5_tellRows_11 : decode cX5_tellRows 11 = .ok (.iconst 0, 1) := by decide +kernel
theorem dX5_tellRows_12 : decode cX5_tellRows 12 = .ok (.ireturn, 1) := by decide +kernel
theorem dX5_tellRows_13 : decode cX5_tellRows 13 = .ok (.aload_n 0, 1) := by decide +kernel
theorem dX5_tellRows_14 : decode cX5_tellRows 14 = .ok (.iload_n 1, 1) := by decide +kernel
theorem dX5_tellRows_15 : decode cX5_tellRows 15 = .ok (.putfield 21, 3) := by decide +kernel
theorem dX5_tellRows_18 : decode cX5_tellRows 18 = .ok (.iconst 1, 1) := by decide +kernel
theorem dX5_tellRows_19 : decode cX5_tellRows 19 = .ok (.ireturn, 1) := by decide +kernel
theorem dX5_tellRest_0 : decode cX5_tellRest 0 = .ok (.iload_n 1, 1) := by decide +kernel
theorem dX5_tellRest_1 : decode cX5_tellRest 1 = .ok (.ifCond .lt 9, 3) := by decide +kernel
theorem dX5_tellRest_4 : decode cX5_tellRest 4 = .ok (.iload_n 1, 1) := by decide +kernel
theorem dX5_tellRest_5 : decode cX5_tellRest 5 = .ok (.bipush 6, 2) := by decide +kernel
theorem dX5_tellRest_7 : decode cX5_tellRest 7 = .ok (.if_icmp .le 5, 3) := by decide +kernel
theorem dX5_tellRest_10 : decode cX5_tellRest 10 = .ok (.iconst 0, 1) := by decide +kernel
theorem dX5_tellRest_11 : decode cX5_tellRest 11 = .ok (.ireturn, 1) := by decide +kernel
theorem dX5_tellRest_12 : decode cX5_tellRest 12 = .ok (.aload_n 0, 1) := by decide +kernel
theorem dX5_tellRest_13 : decode cX5_tellRest 13 = .ok (.iload_n 1, 1) := by decide +kernel
theorem dX5_tellRest_14 : decode cX5_tellRest 14 = .ok (.putfield 25, 3) := by decide +kernel
theorem dX5_tellRest_17 : decode cX5_tellRest 17 = .ok (.iconst 1, 1) := by decide +kernel
theorem dX5_tellRest_18 : decode cX5_tellRest 18 = .ok (.ireturn, 1) := by decide +kernel
theorem dX5_addRow_0 : decode cX5_addRow 0 = .ok (.aload_n 0, 1) := by decide +kernel
theorem dX5_addRow_1 : decode cX5_addRow 1 = .ok (.getfield 38, 3) := by decide +kernel
theorem dX5_addRow_4 : decode cX5_addRow 4 = .ok (.bipush 32, 2) := by decide +kernel
theorem dX5_addRow_6 : decode cX5_addRow 6 = .ok (.if_icmp .lt 5, 3) := by decide +kernel
theorem dX5_addRow_9 : decode cX5_addRow 9 = .ok (.iconst 0, 1) := by decide +kernel
theorem dX5_addRow_10 : decode cX5_addRow 10 = .ok (.ireturn, 1) := by decide +kernel
theorem dX5_addRow_11 : decode cX5_addRow 11 = .ok (.aload_n 0, 1) := by decide +kernel
theorem dX5_addRow_12 : decode cX5_addRow 12 = .ok (.getfield 28, 3) := by decide +kernel
theorem dX5_addRow_15 : decode cX5_addRow 15 = .ok (.aload_n 0, 1) := by decide +kernel
theorem dX5_addRow_16 : decode cX5_addRow 16 = .ok (.getfield 38, 3) := by decide +kernel
theorem dX5_addRow_19 : decode cX5_addRow 19 = .ok (.iload_n 1, 1) := by decide +kernel
theorem dX5_addRow_20 : decode cX5_addRow 20 = .ok (.iastore, 1) := by decide +kernel
theorem dX5_addRow_21 : decode cX5_addRow 21 = .ok (.aload_n 0, 1) := by decide +kernel
theorem dX5_addRow_22 : decode cX5_addRow 22 = .ok (.dup, 1) := by decide +kernel
theorem dX5_addRow_23 : decode cX5_addRow 23 = .ok (.getfield 38, 3) := by decide +kernel
theorem dX5_addRow_26 : decode cX5_addRow 26 = .ok (.iconst 1, 1) := by decide +kernel
theorem dX5_addRow_27 : decode cX5_addRow 27 = .ok (.iadd, 1) := by decide +kernel
theorem dX5_addRow_28 : decode cX5_addRow 28 = .ok (.putfield 38, 3) := by decide +kernel
theorem dX5_addRow_31 : decode cX5_addRow 31 = .ok (.iconst 1, 1) := by decide +kernel
theorem dX5_addRow_32 : decode cX5_addRow 32 = .ok (.ireturn, 1) := by decide +kernel
theorem dX5_tellAgain_0 : decode cX5_tellAgain 0 = .ok (.aload_n 0, 1) := by decide +kernel
theorem dX5_tellAgain_1 : decode cX5_tellAgain 1 = .ok (.getfield 38, 3) := by decide +kernel
theorem dX5_tellAgain_4 : decode cX5_tellAgain 4 = .ok (.iload_n 1, 1) := by decide +kernel
theorem dX5_tellAgain_5 : decode cX5_tellAgain 5 = .ok (.isub, 1) := by decide +kernel
theorem dX5_tellAgain_6 : decode cX5_tellAgain 6 = .ok (.istore_n 3, 1) := by decide +kernel
theorem dX5_tellAgain_7 : decode cX5_tellAgain 7 = .ok (.iload_n 1, 1) := by decide +kernel
theorem dX5_tellAgain_8 : decode cX5_tellAgain 8 = .ok (.ifCond .lt 18, 3) := by decide +kernel
theorem dX5_tellAgain_11 : decode cX5_tellAgain 11 = .ok (.iload_n 3, 1) := by decide +kernel
theorem dX5_tellAgain_12 : decode cX5_tellAgain 12 = .ok (.iconst 1, 1) := by decide +kernel
theorem dX5_tellAgain_13 : decode cX5_tellAgain 13 = .ok (.if_icmp .lt 13, 3) := by decide +kernel
theorem dX5_tellAgain_16 : decode cX5_tellAgain 16 = .ok (.iload_n 1, 1) := by decide +kernel
theorem dX5_tellAgain_17 : decode cX5_tellAgain 17 = .ok (.iload_n 3, 1) := by decide +kernel
theorem dX5_tellAgain_18 : decode cX5_tellAgain 18 = .ok (.iload_n 2, 1) := by decide +kernel
theorem dX5_tellAgain_19 : decode cX5_tellAgain 19 = .ok (.imul, 1) := by decide +kernel
theorem dX5_tellAgain_20 : decode cX5_tellAgain 20 = .ok (.iadd, 1) := by decide +kernel
theorem dX5_tellAgain_21 : decode cX5_tellAgain 21 = .ok (.bipush 32, 2) := by decide +kernel
theorem dX5_tellAgain_23 : decode cX5_tellAgain 23 = .ok (.if_icmp .le 5, 3) := by decide +kernel
theorem dX5_tellAgain_26 : decode cX5_tellAgain 26 = .ok (.iconst 0, 1) := by decide +kernel
theorem dX5_tellAgain_27 : decode cX5_tellAgain 27 = .ok (.ireturn, 1) := by decide +kernel
theorem dX5_tellAgain_28 : decode cX5_tellAgain 28 = .ok (.iconst 0, 1) := by decide +kernel
theorem dX5_tellAgain_29 : decode cX5_tellAgain 29 = .ok (.istore 4, 2) := by decide +kernel
theorem dX5_tellAgain_31 : decode cX5_tellAgain 31 = .ok (.iload 4, 2) := by decide +kernel
theorem dX5_tellAgain_33 : decode cX5_tellAgain 33 = .ok (.iload_n 3, 1) := by decide +kernel
theorem dX5_tellAgain_34 : decode cX5_tellAgain 34 = .ok (.iload_n 2, 1) := by decide +kernel
theorem dX5_tellAgain_35 : decode cX5_tellAgain 35 = .ok (.iconst 1, 1) := by decide +kernel
theorem dX5_tellAgain_36 : decode cX5_tellAgain 36 = .ok (.isub, 1) := by decide +kernel
theorem dX5_tellAgain_37 : decode cX5_tellAgain 37 = .ok (.imul, 1) := by decide +kernel
theorem dX5_tellAgain_38 : decode cX5_tellAgain 38 = .ok (.if_icmp .ge 23, 3) := by decide +kernel
theorem dX5_tellAgain_41 : decode cX5_tellAgain 41 = .ok (.aload_n 0, 1) := by decide +kernel
theorem dX5_tellAgain_42 : decode cX5_tellAgain 42 = .ok (.aload_n 0, 1) := by decide +kernel
theorem dX5_tellAgain_43 : decode cX5_tellAgain 43 = .ok (.getfield 28, 3) := by decide +kernel
theorem dX5_tellAgain_46 : decode cX5_tellAgain 46 = .ok (.iload_n 1, 1) := by decide +kernel
theorem dX5_tellAgain_47 : decode cX5_tellAgain 47 = .ok (.iload 4, 2) := by decide +kernel
theorem dX5_tellAgain_49 : decode cX5_tellAgain 49 = .ok (.iadd, 1) := by decide +kernel
theorem dX5_tellAgain_50 : decode cX5_tellAgain 50 = .ok (.iaload, 1) := by decide +kernel
theorem dX5_tellAgain_51 : decode cX5_tellAgain 51 = .ok (.invokevirtual 47, 3) := by decide +kernel
theorem dX5_tellAgain_54 : decode cX5_tellAgain 54 = .ok (.pop, 1) := by decide +kernel
theorem dX5_tellAgain_55 : decode cX5_tellAgain 55 = .ok (.iinc 4 1, 3) := by decide +kernel
theorem dX5_tellAgain_58 : decode cX5_tellAgain 58 = .ok (.goto (-27), 3) := by decide +kernel
theorem dX5_tellAgain_61 : decode cX5_tellAgain 61 = .ok (.iconst 1, 1) := by decide +kernel
theorem dX5_tellAgain_62 : decode cX5_tellAgain 62 = .ok (.ireturn, 1) := by decide +kernel
theorem dX5_canBeLaid_0 : decode cX5_canBeLaid 0 = .ok (.aload_n 0, 1) := by decide +kernel
theorem dX5_canBeLaid_1 : decode cX5_canBeLaid 1 = .ok (.getfield 31, 3) := by decide +kernel
theorem dX5_canBeLaid_4 : decode cX5_canBeLaid 4 = .ok (.ifCond .le 18, 3) := by decide +kernel
theorem dX5_canBeLaid_7 : decode cX5_canBeLaid 7 = .ok (.aload_n 0, 1) := by decide +kernel
theorem dX5_canBeLaid_8 : decode cX5_canBeLaid 8 = .ok (.getfield 38, 3) := by decide +kernel
theorem dX5_canBeLaid_11 : decode cX5_canBeLaid 11 = .ok (.aload_n 0, 1) := by decide +kernel
theorem dX5_canBeLaid_12 : decode cX5_canBeLaid 12 = .ok (.getfield 21, 3) := by decide +kernel
theorem dX5_canBeLaid_15 : decode cX5_canBeLaid 15 = .ok (.if_icmp .gt 7, 3) := by decide +kernel
theorem dX5_canBeLaid_18 : decode cX5_canBeLaid 18 = .ok (.iconst 1, 1) := by decide +kernel
theorem dX5_canBeLaid_19 : decode cX5_canBeLaid 19 = .ok (.goto 4, 3) := by decide +kernel
theorem dX5_canBeLaid_22 : decode cX5_canBeLaid 22 = .ok (.iconst 0, 1) := by decide +kernel
theorem dX5_canBeLaid_23 : decode cX5_canBeLaid 23 = .ok (.ireturn, 1) := by decide +kernel
theorem dX5_everyBell_0 : decode cX5_everyBell 0 = .ok (.iconst 1, 1) := by decide +kernel
theorem dX5_everyBell_1 : decode cX5_everyBell 1 = .ok (.aload_n 0, 1) := by decide +kernel
theorem dX5_everyBell_2 : decode cX5_everyBell 2 = .ok (.getfield 31, 3) := by decide +kernel
theorem dX5_everyBell_5 : decode cX5_everyBell 5 = .ok (.ishl, 1) := by decide +kernel
theorem dX5_everyBell_6 : decode cX5_everyBell 6 = .ok (.iconst 1, 1) := by decide +kernel
theorem dX5_everyBell_7 : decode cX5_everyBell 7 = .ok (.isub, 1) := by decide +kernel
theorem dX5_everyBell_8 : decode cX5_everyBell 8 = .ok (.ireturn, 1) := by decide +kernel
theorem dX5_rowBehind_0 : decode cX5_rowBehind 0 = .ok (.aload_n 0, 1) := by decide +kernel
theorem dX5_rowBehind_1 : decode cX5_rowBehind 1 = .ok (.getfield 21, 3) := by decide +kernel
theorem dX5_rowBehind_4 : decode cX5_rowBehind 4 = .ok (.ifCond .le 16, 3) := by decide +kernel
theorem dX5_rowBehind_7 : decode cX5_rowBehind 7 = .ok (.iload_n 1, 1) := by decide +kernel
theorem dX5_rowBehind_8 : decode cX5_rowBehind 8 = .ok (.iload_n 2, 1) := by decide +kernel
theorem dX5_rowBehind_9 : decode cX5_rowBehind 9 = .ok (.iadd, 1) := by decide +kernel
theorem dX5_rowBehind_10 : decode cX5_rowBehind 10 = .ok (.aload_n 0, 1) := by decide +kernel
theorem dX5_rowBehind_11 : decode cX5_rowBehind 11 = .ok (.getfield 21, 3) := by decide +kernel
theorem dX5_rowBehind_14 : decode cX5_rowBehind 14 = .ok (.invokestatic 51, 3) := by decide +kernel
theorem dX5_rowBehind_17 : decode cX5_rowBehind 17 = .ok (.goto 4, 3) := by decide +kernel
theorem dX5_rowBehind_20 : decode cX5_rowBehind 20 = .ok (.iconst 0, 1) := by decide +kernel
theorem dX5_rowBehind_21 : decode cX5_rowBehind 21 = .ok (.ireturn, 1) := by decide +kernel
theorem dX5_highestTone_0 : decode cX5_highestTone 0 = .ok (.bipush (-4), 2) := by decide +kernel
theorem dX5_highestTone_2 : decode cX5_highestTone 2 = .ok (.istore_n 2, 1) := by decide +kernel
theorem dX5_highestTone_3 : decode cX5_highestTone 3 = .ok (.iconst 0, 1) := by decide +kernel
theorem dX5_highestTone_4 : decode cX5_highestTone 4 = .ok (.istore_n 3, 1) := by decide +kernel
theorem dX5_highestTone_5 : decode cX5_highestTone 5 = .ok (.iload_n 3, 1) := by decide +kernel
theorem dX5_highestTone_6 : decode cX5_highestTone 6 = .ok (.aload_n 0, 1) := by decide +kernel
theorem dX5_highestTone_7 : decode cX5_highestTone 7 = .ok (.getfield 31, 3) := by decide +kernel
theorem dX5_highestTone_10 : decode cX5_highestTone 10 = .ok (.if_icmp .ge 29, 3) := by decide +kernel
theorem dX5_highestTone_13 : decode cX5_highestTone 13 = .ok (.iload_n 1, 1) := by decide +kernel
theorem dX5_highestTone_14 : decode cX5_highestTone 14 = .ok (.iload_n 3, 1) := by decide +kernel
theorem dX5_highestTone_15 : decode cX5_highestTone 15 = .ok (.ishr, 1) := by decide +kernel
theorem dX5_highestTone_16 : decode cX5_highestTone 16 = .ok (.iconst 1, 1) := by decide +kernel
theorem dX5_highestTone_17 : decode cX5_highestTone 17 = .ok (.iand, 1) := by decide +kernel
theorem dX5_highestTone_18 : decode cX5_highestTone 18 = .ok (.iconst 1, 1) := by decide +kernel
theorem dX5_highestTone_19 : decode cX5_highestTone 19 = .ok (.if_icmp .ne 14, 3) := by decide +kernel
theorem dX5_highestTone_22 : decode cX5_highestTone 22 = .ok (.iload_n 2, 1) := by decide +kernel
theorem dX5_highestTone_23 : decode cX5_highestTone 23 = .ok (.aload_n 0, 1) := by decide +kernel
theorem dX5_highestTone_24 : decode cX5_highestTone 24 = .ok (.getfield 9, 3) := by decide +kernel
theorem dX5_highestTone_27 : decode cX5_highestTone 27 = .ok (.iload_n 3, 1) := by decide +kernel
theorem dX5_highestTone_28 : decode cX5_highestTone 28 = .ok (.iaload, 1) := by decide +kernel
theorem dX5_highestTone_29 : decode cX5_highestTone 29 = .ok (.invokestatic 55, 3) := by decide +kernel
theorem dX5_highestTone_32 : decode cX5_highestTone 32 = .ok (.istore_n 2, 1) := by decide +kernel
theorem dX5_highestTone_33 : decode cX5_highestTone 33 = .ok (.iinc 3 1, 3) := by decide +kernel
theorem dX5_highestTone_36 : decode cX5_highestTone 36 = .ok (.goto (-31), 3) := by decide +kernel
theorem dX5_highestTone_39 : decode cX5_highestTone 39 = .ok (.iload_n 2, 1) := by decide +kernel
theorem dX5_highestTone_40 : decode cX5_highestTone 40 = .ok (.ireturn, 1) := by decide +kernel
theorem dJ6_bitCount_0f7a4_0 : decode cJ6_bitCount_0f7a4 0 = .ok (.iload_n 0, 1) := by decide +kernel
theorem dJ6_bitCount_0f7a4_1 : decode cJ6_bitCount_0f7a4 1 = .ok (.iload_n 0, 1) := by decide +kernel
theorem dJ6_bitCount_0f7a4_2 : decode cJ6_bitCount_0f7a4 2 = .ok (.iconst 1, 1) := by decide +kernel
theorem dJ6_bitCount_0f7a4_3 : decode cJ6_bitCount_0f7a4 3 = .ok (.iushr, 1) := by decide +kernel
theorem dJ6_bitCount_0f7a4_4 : decode cJ6_bitCount_0f7a4 4 = .ok (.ldc_w 265, 3) := by decide +kernel
theorem dJ6_bitCount_0f7a4_7 : decode cJ6_bitCount_0f7a4 7 = .ok (.iand, 1) := by decide +kernel
theorem dJ6_bitCount_0f7a4_8 : decode cJ6_bitCount_0f7a4 8 = .ok (.isub, 1) := by decide +kernel
theorem dJ6_bitCount_0f7a4_9 : decode cJ6_bitCount_0f7a4 9 = .ok (.istore_n 0, 1) := by decide +kernel
theorem dJ6_bitCount_0f7a4_10 : decode cJ6_bitCount_0f7a4 10 = .ok (.iload_n 0, 1) := by decide +kernel
theorem dJ6_bitCount_0f7a4_11 : decode cJ6_bitCount_0f7a4 11 = .ok (.ldc_w 266, 3) := by decide +kernel
theorem dJ6_bitCount_0f7a4_14 : decode cJ6_bitCount_0f7a4 14 = .ok (.iand, 1) := by decide +kernel
theorem dJ6_bitCount_0f7a4_15 : decode cJ6_bitCount_0f7a4 15 = .ok (.iload_n 0, 1) := by decide +kernel
theorem dJ6_bitCount_0f7a4_16 : decode cJ6_bitCount_0f7a4 16 = .ok (.iconst 2, 1) := by decide +kernel
theorem dJ6_bitCount_0f7a4_17 : decode cJ6_bitCount_0f7a4 17 = .ok (.iushr, 1) := by decide +kernel
theorem dJ6_bitCount_0f7a4_18 : decode cJ6_bitCount_0f7a4 18 = .ok (.ldc_w 266, 3) := by decide +kernel
theorem dJ6_bitCount_0f7a4_21 : decode cJ6_bitCount_0f7a4 21 = .ok (.iand, 1) := by decide +kernel
theorem dJ6_bitCount_0f7a4_22 : decode cJ6_bitCount_0f7a4 22 = .ok (.iadd, 1) := by decide +kernel
theorem dJ6_bitCount_0f7a4_23 : decode cJ6_bitCount_0f7a4 23 = .ok (.istore_n 0, 1) := by decide +kernel
theorem dJ6_bitCount_0f7a4_24 : decode cJ6_bitCount_0f7a4 24 = .ok (.iload_n 0, 1) := by decide +kernel
theorem dJ6_bitCount_0f7a4_25 : decode cJ6_bitCount_0f7a4 25 = .ok (.iload_n 0, 1) := by decide +kernel
theorem dJ6_bitCount_0f7a4_26 : decode cJ6_bitCount_0f7a4 26 = .ok (.iconst 4, 1) := by decide +kernel
theorem dJ6_bitCount_0f7a4_27 : decode cJ6_bitCount_0f7a4 27 = .ok (.iushr, 1) := by decide +kernel
theorem dJ6_bitCount_0f7a4_28 : decode cJ6_bitCount_0f7a4 28 = .ok (.iadd, 1) := by decide +kernel
theorem dJ6_bitCount_0f7a4_29 : decode cJ6_bitCount_0f7a4 29 = .ok (.ldc_w 267, 3) := by decide +kernel
theorem dJ6_bitCount_0f7a4_32 : decode cJ6_bitCount_0f7a4 32 = .ok (.iand, 1) := by decide +kernel
theorem dJ6_bitCount_0f7a4_33 : decode cJ6_bitCount_0f7a4 33 = .ok (.istore_n 0, 1) := by decide +kernel
theorem dJ6_bitCount_0f7a4_34 : decode cJ6_bitCount_0f7a4 34 = .ok (.iload_n 0, 1) := by decide +kernel
theorem dJ6_bitCount_0f7a4_35 : decode cJ6_bitCount_0f7a4 35 = .ok (.iload_n 0, 1) := by decide +kernel
theorem dJ6_bitCount_0f7a4_36 : decode cJ6_bitCount_0f7a4 36 = .ok (.bipush 8, 2) := by decide +kernel
theorem dJ6_bitCount_0f7a4_38 : decode cJ6_bitCount_0f7a4 38 = .ok (.iushr, 1) := by decide +kernel
theorem dJ6_bitCount_0f7a4_39 : decode cJ6_bitCount_0f7a4 39 = .ok (.iadd, 1) := by decide +kernel
theorem dJ6_bitCount_0f7a4_40 : decode cJ6_bitCount_0f7a4 40 = .ok (.istore_n 0, 1) := by decide +kernel
theorem dJ6_bitCount_0f7a4_41 : decode cJ6_bitCount_0f7a4 41 = .ok (.iload_n 0, 1) := by decide +kernel
theorem dJ6_bitCount_0f7a4_42 : decode cJ6_bitCount_0f7a4 42 = .ok (.iload_n 0, 1) := by decide +kernel
theorem dJ6_bitCount_0f7a4_43 : decode cJ6_bitCount_0f7a4 43 = .ok (.bipush 16, 2) := by decide +kernel
theorem dJ6_bitCount_0f7a4_45 : decode cJ6_bitCount_0f7a4 45 = .ok (.iushr, 1) := by decide +kernel
theorem dJ6_bitCount_0f7a4_46 : decode cJ6_bitCount_0f7a4 46 = .ok (.iadd, 1) := by decide +kernel
theorem dJ6_bitCount_0f7a4_47 : decode cJ6_bitCount_0f7a4 47 = .ok (.istore_n 0, 1) := by decide +kernel
theorem dJ6_bitCount_0f7a4_48 : decode cJ6_bitCount_0f7a4 48 = .ok (.iload_n 0, 1) := by decide +kernel
theorem dJ6_bitCount_0f7a4_49 : decode cJ6_bitCount_0f7a4 49 = .ok (.bipush 63, 2) := by decide +kernel
theorem dJ6_bitCount_0f7a4_51 : decode cJ6_bitCount_0f7a4 51 = .ok (.iand, 1) := by decide +kernel
theorem dJ6_bitCount_0f7a4_52 : decode cJ6_bitCount_0f7a4 52 = .ok (.ireturn, 1) := by decide +kernel
theorem dJ9_floorMod_7cf53_0 : decode cJ9_floorMod_7cf53 0 = .ok (.iload_n 0, 1) := by decide +kernel
theorem dJ9_floorMod_7cf53_1 : decode cJ9_floorMod_7cf53 1 = .ok (.iload_n 1, 1) := by decide +kernel
theorem dJ9_floorMod_7cf53_2 : decode cJ9_floorMod_7cf53 2 = .ok (.irem, 1) := by decide +kernel
theorem dJ9_floorMod_7cf53_3 : decode cJ9_floorMod_7cf53 3 = .ok (.istore_n 2, 1) := by decide +kernel
theorem dJ9_floorMod_7cf53_4 : decode cJ9_floorMod_7cf53 4 = .ok (.iload_n 0, 1) := by decide +kernel
theorem dJ9_floorMod_7cf53_5 : decode cJ9_floorMod_7cf53 5 = .ok (.iload_n 1, 1) := by decide +kernel
theorem dJ9_floorMod_7cf53_6 : decode cJ9_floorMod_7cf53 6 = .ok (.ixor, 1) := by decide +kernel
theorem dJ9_floorMod_7cf53_7 : decode cJ9_floorMod_7cf53 7 = .ok (.ifCond .ge 11, 3) := by decide +kernel
theorem dJ9_floorMod_7cf53_10 : decode cJ9_floorMod_7cf53 10 = .ok (.iload_n 2, 1) := by decide +kernel
theorem dJ9_floorMod_7cf53_11 : decode cJ9_floorMod_7cf53 11 = .ok (.ifCond .eq 7, 3) := by decide +kernel
theorem dJ9_floorMod_7cf53_14 : decode cJ9_floorMod_7cf53 14 = .ok (.iload_n 2, 1) := by decide +kernel
theorem dJ9_floorMod_7cf53_15 : decode cJ9_floorMod_7cf53 15 = .ok (.iload_n 1, 1) := by decide +kernel
theorem dJ9_floorMod_7cf53_16 : decode cJ9_floorMod_7cf53 16 = .ok (.iadd, 1) := by decide +kernel
theorem dJ9_floorMod_7cf53_17 : decode cJ9_floorMod_7cf53 17 = .ok (.ireturn, 1) := by decide +kernel
theorem dJ9_floorMod_7cf53_18 : decode cJ9_floorMod_7cf53 18 = .ok (.iload_n 2, 1) := by decide +kernel
theorem dJ9_floorMod_7cf53_19 : decode cJ9_floorMod_7cf53 19 = .ok (.ireturn, 1) := by decide +kernel
theorem dJ9_abs_0f7a4_0 : decode cJ9_abs_0f7a4 0 = .ok (.iload_n 0, 1) := by decide +kernel
theorem dJ9_abs_0f7a4_1 : decode cJ9_abs_0f7a4 1 = .ok (.ifCond .ge 8, 3) := by decide +kernel
theorem dJ9_abs_0f7a4_4 : decode cJ9_abs_0f7a4 4 = .ok (.iload_n 0, 1) := by decide +kernel
theorem dJ9_abs_0f7a4_5 : decode cJ9_abs_0f7a4 5 = .ok (.ineg, 1) := by decide +kernel
theorem dJ9_abs_0f7a4_6 : decode cJ9_abs_0f7a4 6 = .ok (.goto 4, 3) := by decide +kernel
theorem dJ9_abs_0f7a4_9 : decode cJ9_abs_0f7a4 9 = .ok (.iload_n 0, 1) := by decide +kernel
theorem dJ9_abs_0f7a4_10 : decode cJ9_abs_0f7a4 10 = .ok (.ireturn, 1) := by decide +kernel
theorem dJ9_max_7cf53_0 : decode cJ9_max_7cf53 0 = .ok (.iload_n 0, 1) := by decide +kernel
theorem dJ9_max_7cf53_1 : decode cJ9_max_7cf53 1 = .ok (.iload_n 1, 1) := by decide +kernel
theorem dJ9_max_7cf53_2 : decode cJ9_max_7cf53 2 = .ok (.if_icmp .lt 7, 3) := by decide +kernel
theorem dJ9_max_7cf53_5 : decode cJ9_max_7cf53 5 = .ok (.iload_n 0, 1) := by decide +kernel
theorem dJ9_max_7cf53_6 : decode cJ9_max_7cf53 6 = .ok (.goto 4, 3) := by decide +kernel
theorem dJ9_max_7cf53_9 : decode cJ9_max_7cf53 9 = .ok (.iload_n 1, 1) := by decide +kernel
theorem dJ9_max_7cf53_10 : decode cJ9_max_7cf53 10 = .ok (.ireturn, 1) := by decide +kernel
theorem dJ9_min_7cf53_0 : decode cJ9_min_7cf53 0 = .ok (.iload_n 0, 1) := by decide +kernel
theorem dJ9_min_7cf53_1 : decode cJ9_min_7cf53 1 = .ok (.iload_n 1, 1) := by decide +kernel
theorem dJ9_min_7cf53_2 : decode cJ9_min_7cf53 2 = .ok (.if_icmp .gt 7, 3) := by decide +kernel
theorem dJ9_min_7cf53_5 : decode cJ9_min_7cf53 5 = .ok (.iload_n 0, 1) := by decide +kernel
theorem dJ9_min_7cf53_6 : decode cJ9_min_7cf53 6 = .ok (.goto 4, 3) := by decide +kernel
theorem dJ9_min_7cf53_9 : decode cJ9_min_7cf53 9 = .ok (.iload_n 1, 1) := by decide +kernel
theorem dJ9_min_7cf53_10 : decode cJ9_min_7cf53 10 = .ok (.ireturn, 1) := by decide +kernel
theorem dJ0_length_8abf5_0 : decode cJ0_length_8abf5 0 = .ok (.aload_n 0, 1) := by decide +kernel
theorem dJ0_length_8abf5_1 : decode cJ0_length_8abf5 1 = .ok (.getfield 9, 3) := by decide +kernel
theorem dJ0_length_8abf5_4 : decode cJ0_length_8abf5 4 = .ok (.arraylength, 1) := by decide +kernel
theorem dJ0_length_8abf5_5 : decode cJ0_length_8abf5 5 = .ok (.aload_n 0, 1) := by decide +kernel
theorem dJ0_length_8abf5_6 : decode cJ0_length_8abf5 6 = .ok (.invokevirtual 335, 3) := by decide +kernel
theorem dJ0_length_8abf5_9 : decode cJ0_length_8abf5 9 = .ok (.ishr, 1) := by decide +kernel
theorem dJ0_length_8abf5_10 : decode cJ0_length_8abf5 10 = .ok (.ireturn, 1) := by decide +kernel
theorem dJ0_charAt_5068e_0 : decode cJ0_charAt_5068e 0 = .ok (.aload_n 0, 1) := by decide +kernel
theorem dJ0_charAt_5068e_1 : decode cJ0_charAt_5068e 1 = .ok (.invokevirtual 492, 3) := by decide +kernel
theorem dJ0_charAt_5068e_4 : decode cJ0_charAt_5068e 4 = .ok (.ifCond .eq 12, 3) := by decide +kernel
theorem dJ0_charAt_5068e_7 : decode cJ0_charAt_5068e 7 = .ok (.aload_n 0, 1) := by decide +kernel
theorem dJ0_charAt_5068e_8 : decode cJ0_charAt_5068e 8 = .ok (.getfield 9, 3) := by decide +kernel
theorem dJ0_charAt_5068e_11 : decode cJ0_charAt_5068e 11 = .ok (.iload_n 1, 1) := by decide +kernel
theorem dJ0_charAt_5068e_12 : decode cJ0_charAt_5068e 12 = .ok (.invokestatic 495, 3) := by decide +kernel
theorem dJ0_charAt_5068e_15 : decode cJ0_charAt_5068e 15 = .ok (.ireturn, 1) := by decide +kernel
theorem dJ0_charAt_5068e_16 : decode cJ0_charAt_5068e 16 = .ok (.aload_n 0, 1) := by decide +kernel
theorem dJ0_charAt_5068e_17 : decode cJ0_charAt_5068e 17 = .ok (.getfield 9, 3) := by decide +kernel
theorem dJ0_charAt_5068e_20 : decode cJ0_charAt_5068e 20 = .ok (.iload_n 1, 1) := by decide +kernel
theorem dJ0_charAt_5068e_21 : decode cJ0_charAt_5068e 21 = .ok (.invokestatic 498, 3) := by decide +kernel
theorem dJ0_charAt_5068e_24 : decode cJ0_charAt_5068e 24 = .ok (.ireturn, 1) := by decide +kernel
theorem dJ0_coder_7d493_0 : decode cJ0_coder_7d493 0 = .ok (.getstatic 38, 3) := by decide +kernel
theorem dJ0_coder_7d493_3 : decode cJ0_coder_7d493 3 = .ok (.ifCond .eq 10, 3) := by decide +kernel
theorem dJ0_coder_7d493_6 : decode cJ0_coder_7d493 6 = .ok (.aload_n 0, 1) := by decide +kernel
theorem dJ0_coder_7d493_7 : decode cJ0_coder_7d493 7 = .ok (.getfield 15, 3) := by decide +kernel
theorem dJ0_coder_7d493_10 : decode cJ0_coder_7d493 10 = .ok (.goto 4, 3) := by decide +kernel
theorem dJ0_coder_7d493_13 : decode cJ0_coder_7d493 13 = .ok (.iconst 1, 1) := by decide +kernel
theorem dJ0_coder_7d493_14 : decode cJ0_coder_7d493 14 = .ok (.ireturn, 1) := by decide +kernel
theorem dJ0_isLatin1_aae02_0 : decode cJ0_isLatin1_aae02 0 = .ok (.getstatic 38, 3) := by decide +kernel
theorem dJ0_isLatin1_aae02_3 : decode cJ0_isLatin1_aae02 3 = .ok (.ifCond .eq 14, 3) := by decide +kernel
theorem dJ0_isLatin1_aae02_6 : decode cJ0_isLatin1_aae02 6 = .ok (.aload_n 0, 1) := by decide +kernel
theorem dJ0_isLatin1_aae02_7 : decode cJ0_isLatin1_aae02 7 = .ok (.getfield 15, 3) := by decide +kernel
theorem dJ0_isLatin1_aae02_10 : decode cJ0_isLatin1_aae02 10 = .ok (.ifCond .ne 7, 3) := by decide +kernel
theorem dJ0_isLatin1_aae02_13 : decode cJ0_isLatin1_aae02 13 = .ok (.iconst 1, 1) := by decide +kernel
theorem dJ0_isLatin1_aae02_14 : decode cJ0_isLatin1_aae02 14 = .ok (.goto 4, 3) := by decide +kernel
theorem dJ0_isLatin1_aae02_17 : decode cJ0_isLatin1_aae02 17 = .ok (.iconst 0, 1) := by decide +kernel
theorem dJ0_isLatin1_aae02_18 : decode cJ0_isLatin1_aae02 18 = .ok (.ireturn, 1) := by decide +kernel
theorem dJ0_checkIndex_df160_0 : decode cJ0_checkIndex_df160 0 = .ok (.iload_n 0, 1) := by decide +kernel
theorem dJ0_checkIndex_df160_1 : decode cJ0_checkIndex_df160 1 = .ok (.iload_n 1, 1) := by decide +kernel
theorem dJ0_checkIndex_df160_2 : decode cJ0_checkIndex_df160 2 = .ok (.getstatic 1053, 3) := by decide +kernel
theorem dJ0_checkIndex_df160_5 : decode cJ0_checkIndex_df160 5 = .ok (.invokestatic 1059, 3) := by decide +kernel
theorem dJ0_checkIndex_df160_8 : decode cJ0_checkIndex_df160 8 = .ok (.pop, 1) := by decide +kernel
theorem dJ0_checkIndex_df160_9 : decode cJ0_checkIndex_df160 9 = .ok (.return_, 1) := by decide +kernel
theorem dJ1_charAt_3b067_0 : decode cJ1_charAt_3b067 0 = .ok (.iload_n 1, 1) := by decide +kernel
theorem dJ1_charAt_3b067_1 : decode cJ1_charAt_3b067 1 = .ok (.aload_n 0, 1) := by decide +kernel
theorem dJ1_charAt_3b067_2 : decode cJ1_charAt_3b067 2 = .ok (.arraylength, 1) := by decide +kernel
theorem dJ1_charAt_3b067_3 : decode cJ1_charAt_3b067 3 = .ok (.invokestatic 9, 3) := by decide +kernel
theorem dJ1_charAt_3b067_6 : decode cJ1_charAt_3b067 6 = .ok (.aload_n 0, 1) := by decide +kernel
theorem dJ1_charAt_3b067_7 : decode cJ1_charAt_3b067 7 = .ok (.iload_n 1, 1) := by decide +kernel
theorem dJ1_charAt_3b067_8 : decode cJ1_charAt_3b067 8 = .ok (.baload, 1) := by decide +kernel
theorem dJ1_charAt_3b067_9 : decode cJ1_charAt_3b067 9 = .ok (.sipush 255, 3) := by decide +kernel
theorem dJ1_charAt_3b067_12 : decode cJ1_charAt_3b067 12 = .ok (.iand, 1) := by decide +kernel
theorem dJ1_charAt_3b067_13 : decode cJ1_charAt_3b067 13 = .ok (.i2c, 1) := by decide +kernel
theorem dJ1_charAt_3b067_14 : decode cJ1_charAt_3b067 14 = .ok (.ireturn, 1) := by decide +kernel
theorem dJ2_getChar_3b067_0 : decode cJ2_getChar_3b067 0 = .ok (.getstatic 44, 3) := by decide +kernel
theorem dJ2_getChar_3b067_3 : decode cJ2_getChar_3b067 3 = .ok (.ifCond .ne 25, 3) := by decide +kernel
theorem dJ2_getChar_3b067_6 : decode cJ2_getChar_3b067 6 = .ok (.iload_n 1, 1) := by decide +kernel
theorem dJ2_getChar_3b067_7 : decode cJ2_getChar_3b067 7 = .ok (.ifCond .lt 11, 3) := by decide +kernel
theorem dJ2_getChar_3b067_10 : decode cJ2_getChar_3b067 10 = .ok (.iload_n 1, 1) := by decide +kernel
theorem dJ2_getChar_3b067_11 : decode cJ2_getChar_3b067 11 = .ok (.aload_n 0, 1) := by decide +kernel
theorem dJ2_getChar_3b067_12 : decode cJ2_getChar_3b067 12 = .ok (.invokestatic 48, 3) := by decide +kernel
theorem dJ2_getChar_3b067_15 : decode cJ2_getChar_3b067 15 = .ok (.if_icmp .lt 13, 3) := by decide +kernel
theorem dJ2_getChar_3b067_18 : decode cJ2_getChar_3b067 18 = .ok (.new 52, 3) := by decide +kernel
theorem dJ2_getChar_3b067_21 : decode cJ2_getChar_3b067 21 = .ok (.dup, 1) := by decide +kernel
theorem dJ2_getChar_3b067_22 : decode cJ2_getChar_3b067 22 = .ok (.ldc 54, 2) := by decide +kernel
theorem dJ2_getChar_3b067_24 : decode cJ2_getChar_3b067 24 = .ok (.invokespecial 56, 3) := by decide +kernel
theorem dJ2_getChar_3b067_27 : decode cJ2_getChar_3b067 27 = .ok (.athrow, 1) := by decide +kernel
theorem dJ2_getChar_3b067_28 : decode cJ2_getChar_3b067 28 = .ok (.iload_n 1, 1) := by decide +kernel
theorem dJ2_getChar_3b067_29 : decode cJ2_getChar_3b067 29 = .ok (.iconst 1, 1) := by decide +kernel
theorem dJ2_getChar_3b067_30 : decode cJ2_getChar_3b067 30 = .ok (.ishl, 1) := by decide +kernel
theorem dJ2_getChar_3b067_31 : decode cJ2_getChar_3b067 31 = .ok (.istore_n 1, 1) := by decide +kernel
theorem dJ2_getChar_3b067_32 : decode cJ2_getChar_3b067 32 = .ok (.aload_n 0, 1) := by decide +kernel
theorem dJ2_getChar_3b067_33 : decode cJ2_getChar_3b067 33 = .ok (.iload_n 1, 1) := by decide +kernel
theorem dJ2_getChar_3b067_34 : decode cJ2_getChar_3b067 34 = .ok (.iinc 1 1, 3) := by decide +kernel
theorem dJ2_getChar_3b067_37 : decode cJ2_getChar_3b067 37 = .ok (.baload, 1) := by decide +kernel
theorem dJ2_getChar_3b067_38 : decode cJ2_getChar_3b067 38 = .ok (.sipush 255, 3) := by decide +kernel
theorem dJ2_getChar_3b067_41 : decode cJ2_getChar_3b067 41 = .ok (.iand, 1) := by decide +kernel
theorem dJ2_getChar_3b067_42 : decode cJ2_getChar_3b067 42 = .ok (.getstatic 59, 3) := by decide +kernel
theorem dJ2_getChar_3b067_45 : decode cJ2_getChar_3b067 45 = .ok (.ishl, 1) := by decide +kernel
theorem dJ2_getChar_3b067_46 : decode cJ2_getChar_3b067 46 = .ok (.aload_n 0, 1) := by decide +kernel
theorem dJ2_getChar_3b067_47 : decode cJ2_getChar_3b067 47 = .ok (.iload_n 1, 1) := by decide +kernel
theorem dJ2_getChar_3b067_48 : decode cJ2_getChar_3b067 48 = .ok (.baload, 1) := by decide +kernel
theorem dJ2_getChar_3b067_49 : decode cJ2_getChar_3b067 49 = .ok (.sipush 255, 3) := by decide +kernel
theorem dJ2_getChar_3b067_52 : decode cJ2_getChar_3b067 52 = .ok (.iand, 1) := by decide +kernel
theorem dJ2_getChar_3b067_53 : decode cJ2_getChar_3b067 53 = .ok (.getstatic 63, 3) := by decide +kernel
theorem dJ2_getChar_3b067_56 : decode cJ2_getChar_3b067 56 = .ok (.ishl, 1) := by decide +kernel
theorem dJ2_getChar_3b067_57 : decode cJ2_getChar_3b067 57 = .ok (.ior, 1) := by decide +kernel
theorem dJ2_getChar_3b067_58 : decode cJ2_getChar_3b067 58 = .ok (.i2c, 1) := by decide +kernel
theorem dJ2_getChar_3b067_59 : decode cJ2_getChar_3b067 59 = .ok (.ireturn, 1) := by decide +kernel
theorem dJ2_length_9d52b_0 : decode cJ2_length_9d52b 0 = .ok (.aload_n 0, 1) := by decide +kernel
theorem dJ2_length_9d52b_1 : decode cJ2_length_9d52b 1 = .ok (.arraylength, 1) := by decide +kernel
theorem dJ2_length_9d52b_2 : decode cJ2_length_9d52b 2 = .ok (.iconst 1, 1) := by decide +kernel
theorem dJ2_length_9d52b_3 : decode cJ2_length_9d52b 3 = .ok (.ishr, 1) := by decide +kernel
theorem dJ2_length_9d52b_4 : decode cJ2_length_9d52b 4 = .ok (.ireturn, 1) := by decide +kernel
theorem dJ2_charAt_3b067_0 : decode cJ2_charAt_3b067 0 = .ok (.iload_n 1, 1) := by decide +kernel
theorem dJ2_charAt_3b067_1 : decode cJ2_charAt_3b067 1 = .ok (.aload_n 0, 1) := by decide +kernel
theorem dJ2_charAt_3b067_2 : decode cJ2_charAt_3b067 2 = .ok (.invokestatic 67, 3) := by decide +kernel
theorem dJ2_charAt_3b067_5 : decode cJ2_charAt_3b067 5 = .ok (.aload_n 0, 1) := by decide +kernel
theorem dJ2_charAt_3b067_6 : decode cJ2_charAt_3b067 6 = .ok (.iload_n 1, 1) := by decide +kernel
theorem dJ2_charAt_3b067_7 : decode cJ2_charAt_3b067 7 = .ok (.invokestatic 71, 3) := by decide +kernel
theorem dJ2_charAt_3b067_10 : decode cJ2_charAt_3b067 10 = .ok (.ireturn, 1) := by decide +kernel
theorem dJ2_checkIndex_2214a_0 : decode cJ2_checkIndex_2214a 0 = .ok (.iload_n 0, 1) := by decide +kernel
theorem dJ2_checkIndex_2214a_1 : decode cJ2_checkIndex_2214a 1 = .ok (.aload_n 1, 1) := by decide +kernel
theorem dJ2_checkIndex_2214a_2 : decode cJ2_checkIndex_2214a 2 = .ok (.invokestatic 48, 3) := by decide +kernel
theorem dJ2_checkIndex_2214a_5 : decode cJ2_checkIndex_2214a 5 = .ok (.invokestatic 414, 3) := by decide +kernel
theorem dJ2_checkIndex_2214a_8 : decode cJ2_checkIndex_2214a 8 = .ok (.return_, 1) := by decide +kernel
theorem dJ7_fill_53178_0 : decode cJ7_fill_53178 0 = .ok (.iconst 0, 1) := by decide +kernel
theorem dJ7_fill_53178_1 : decode cJ7_fill_53178 1 = .ok (.istore_n 2, 1) := by decide +kernel
theorem dJ7_fill_53178_2 : decode cJ7_fill_53178 2 = .ok (.aload_n 0, 1) := by decide +kernel
theorem dJ7_fill_53178_3 : decode cJ7_fill_53178 3 = .ok (.arraylength, 1) := by decide +kernel
theorem dJ7_fill_53178_4 : decode cJ7_fill_53178 4 = .ok (.istore_n 3, 1) := by decide +kernel
theorem dJ7_fill_53178_5 : decode cJ7_fill_53178 5 = .ok (.iload_n 2, 1) := by decide +kernel
theorem dJ7_fill_53178_6 : decode cJ7_fill_53178 6 = .ok (.iload_n 3, 1) := by decide +kernel
theorem dJ7_fill_53178_7 : decode cJ7_fill_53178 7 = .ok (.if_icmp .ge 13, 3) := by decide +kernel
theorem dJ7_fill_53178_10 : decode cJ7_fill_53178 10 = .ok (.aload_n 0, 1) := by decide +kernel
theorem dJ7_fill_53178_11 : decode cJ7_fill_53178 11 = .ok (.iload_n 2, 1) := by decide +kernel
theorem dJ7_fill_53178_12 : decode cJ7_fill_53178 12 = .ok (.iload_n 1, 1) := by decide +kernel
theorem dJ7_fill_53178_13 : decode cJ7_fill_53178 13 = .ok (.iastore, 1) := by decide +kernel
theorem dJ7_fill_53178_14 : decode cJ7_fill_53178 14 = .ok (.iinc 2 1, 3) := by decide +kernel
theorem dJ7_fill_53178_17 : decode cJ7_fill_53178 17 = .ok (.goto (-12), 3) := by decide +kernel
theorem dJ7_fill_53178_20 : decode cJ7_fill_53178 20 = .ok (.return_, 1) := by decide +kernel
theorem dJ3_checkIndex_8e157_0 : decode cJ3_checkIndex_8e157 0 = .ok (.iload_n 0, 1) := by decide +kernel
theorem dJ3_checkIndex_8e157_1 : decode cJ3_checkIndex_8e157 1 = .ok (.ifCond .lt 8, 3) := by decide +kernel
theorem dJ3_checkIndex_8e157_4 : decode cJ3_checkIndex_8e157 4 = .ok (.iload_n 0, 1) := by decide +kernel
theorem dJ3_checkIndex_8e157_5 : decode cJ3_checkIndex_8e157 5 = .ok (.iload_n 1, 1) := by decide +kernel
theorem dJ3_checkIndex_8e157_6 : decode cJ3_checkIndex_8e157 6 = .ok (.if_icmp .lt 10, 3) := by decide +kernel
theorem dJ3_checkIndex_8e157_9 : decode cJ3_checkIndex_8e157 9 = .ok (.aload_n 2, 1) := by decide +kernel
theorem dJ3_checkIndex_8e157_10 : decode cJ3_checkIndex_8e157 10 = .ok (.iload_n 0, 1) := by decide +kernel
theorem dJ3_checkIndex_8e157_11 : decode cJ3_checkIndex_8e157 11 = .ok (.iload_n 1, 1) := by decide +kernel
theorem dJ3_checkIndex_8e157_12 : decode cJ3_checkIndex_8e157 12 = .ok (.invokestatic 95, 3) := by decide +kernel
theorem dJ3_checkIndex_8e157_15 : decode cJ3_checkIndex_8e157 15 = .ok (.athrow, 1) := by decide +kernel
theorem dJ3_checkIndex_8e157_16 : decode cJ3_checkIndex_8e157 16 = .ok (.iload_n 0, 1) := by decide +kernel
theorem dJ3_checkIndex_8e157_17 : decode cJ3_checkIndex_8e157 17 = .ok (.ireturn, 1) := by decide +kernel
