theorem dX6_init_0 : decode cX6_init 0 = .ok (.aload_n 0, 1) := by decide +kernel
theorem dX6_init_1 : decode cX6_init 1 = .ok (.invokespecial 1, 3) := by decide +kernel
theorem dX6_init_4 : decode cX6_init 4 = .ok (.aload_n 0, 1) := by decide +kernel
theorem dX6_init_5 : decode cX6_init 5 = .ok (.new 7, 3) := by decide +kernel
theorem dX6_init_8 : decode cX6_init 8 = .ok (.dup, 1) := by decide +kernel
theorem dX6_init_9 : decode cX6_init 9 = .ok (.invokespecial 9, 3) := by decide +kernel
theorem dX6_init_12 : decode cX6_init 12 = .ok (.putfield 10, 3) := by decide +kernel
theorem dX6_init_15 : decode cX6_init 15 = .ok (.aload_n 0, 1) := by decide +kernel
theorem dX6_init_16 : decode cX6_init 16 = .ok (.new 16, 3) := by decide +kernel
theorem dX6_init_19 : decode cX6_init 19 = .ok (.dup, 1) := by decide +kernel
theorem dX6_init_20 : decode cX6_init 20 = .ok (.invokespecial 18, 3) := by decide +kernel
theorem dX6_init_23 : decode cX6_init 23 = .ok (.putfield 19, 3) := by decide +kernel
theorem dX6_init_26 : decode cX6_init 26 = .ok (.aload_n 0, 1) := by decide +kernel
theorem dX6_init_27 : decode cX6_init 27 = .ok (.new 16, 3) := by decide +kernel
theorem dX6_init_30 : decode cX6_init 30 = .ok (.dup, 1) := by decide +kernel
theorem dX6_init_31 : decode cX6_init 31 = .ok (.invokespecial 18, 3) := by decide +kernel
theorem dX6_init_34 : decode cX6_init 34 = .ok (.putfield 23, 3) := by decide +kernel
theorem dX6_init_37 : decode cX6_init 37 = .ok (.aload_n 0, 1) := by decide +kernel
theorem dX6_init_38 : decode cX6_init 38 = .ok (.new 26, 3) := by decide +kernel
theorem dX6_init_41 : decode cX6_init 41 = .ok (.dup, 1) := by decide +kernel
theorem dX6_init_42 : decode cX6_init 42 = .ok (.invokespecial 28, 3) := by decide +kernel
theorem dX6_init_45 : decode cX6_init 45 = .ok (.putfield 29, 3) := by decide +kernel
theorem dX6_init_48 : decode cX6_init 48 = .ok (.aload_n 0, 1) := by decide +kernel
theorem dX6_init_49 : decode cX6_init 49 = .ok (.new 26, 3) := by decide +kernel
theorem dX6_init_52 : decode cX6_init 52 = .ok (.dup, 1) := by decide +kernel
theorem dX6_init_53 : decode cX6_init 53 = .ok (.invokespecial 28, 3) := by decide +kernel
theorem dX6_init_56 : decode cX6_init 56 = .ok (.putfield 33, 3) := by decide +kernel
theorem dX6_init_59 : decode cX6_init 59 = .ok (.aload_n 0, 1) := by decide +kernel
theorem dX6_init_60 : decode cX6_init 60 = .ok (.new 36, 3) := by decide +kernel
theorem dX6_init_63 : decode cX6_init 63 = .ok (.dup, 1) := by decide +kernel
theorem dX6_init_64 : decode cX6_init 64 = .ok (.bipush 8, 2) := by decide +kernel
theorem dX6_init_66 : decode cX6_init 66 = .ok (.invokespecial 38, 3) := by decide +kernel
theorem dX6_init_69 : decode cX6_init 69 = .ok (.putfield 41, 3) := by decide +kernel
theorem dX6_init_72 : decode cX6_init 72 = .ok (.aload_n 0, 1) := by decide +kernel
theorem dX6_init_73 : decode cX6_init 73 = .ok (.new 36, 3) := by decide +kernel
theorem dX6_init_76 : decode cX6_init 76 = .ok (.dup, 1) := by decide +kernel
theorem dX6_init_77 : decode cX6_init 77 = .ok (.iconst 2, 1) := by decide +kernel
theorem dX6_init_78 : decode cX6_init 78 = .ok (.invokespecial 38, 3) := by decide +kernel
theorem dX6_init_81 : decode cX6_init 81 = .ok (.putfield 45, 3) := by decide +kernel
theorem dX6_init_84 : decode cX6_init 84 = .ok (.aload_n 0, 1) := by decide +kernel
theorem dX6_init_85 : decode cX6_init 85 = .ok (.bipush 32, 2) := by decide +kernel
theorem dX6_init_87 : decode cX6_init 87 = .ok (.newarray .int, 2) := by decide +kernel
theorem dX6_init_89 : decode cX6_init 89 = .ok (.putfield 48, 3) := by decide +kernel
theorem dX6_init_92 : decode cX6_init 92 = .ok (.aload_n 0, 1) := by decide +kernel
theorem dX6_init_93 : decode cX6_init 93 = .ok (.bipush 8, 2) := by decide +kernel
theorem dX6_init_95 : decode cX6_init 95 = .ok (.newarray .int, 2) := by decide +kernel
theorem dX6_init_97 : decode cX6_init 97 = .ok (.putfield 52, 3) := by decide +kernel
theorem dX6_init_100 : decode cX6_init 100 = .ok (.aload_n 0, 1) := by decide +kernel
theorem dX6_init_101 : decode cX6_init 101 = .ok (.new 55, 3) := by decide +kernel
theorem dX6_init_104 : decode cX6_init 104 = .ok (.dup, 1) := by decide +kernel
theorem dX6_init_105 : decode cX6_init 105 = .ok (.invokespecial 57, 3) := by decide +kernel
theorem dX6_init_108 : decode cX6_init 108 = .ok (.putfield 58, 3) := by decide +kernel
theorem dX6_init_111 : decode cX6_init 111 = .ok (.aload_n 0, 1) := by decide +kernel
theorem dX6_init_112 : decode cX6_init 112 = .ok (.new 62, 3) := by decide +kernel
theorem dX6_init_115 : decode cX6_init 115 = .ok (.dup, 1) := by decide +kernel
theorem dX6_init_116 : decode cX6_init 116 = .ok (.invokespecial 64, 3) := by decide +kernel
theorem dX6_init_119 : decode cX6_init 119 = .ok (.putfield 65, 3) := by decide +kernel
theorem dX6_init_122 : decode cX6_init 122 = .ok (.iconst 0, 1) := by decide +kernel
theorem dX6_init_123 : decode cX6_init 123 = .ok (.istore_n 1, 1) := by decide +kernel
theorem dX6_init_124 : decode cX6_init 124 = .ok (.iload_n 1, 1) := by decide +kernel
theorem dX6_init_125 : decode cX6_init 125 = .ok (.ldc 69, 2) := by decide +kernel
theorem dX6_init_127 : decode cX6_init 127 = .ok (.invokevirtual 71, 3) := by decide +kernel
theorem dX6_init_130 : decode cX6_init 130 = .ok (.if_icmp .ge 23, 3) := by decide +kernel
theorem dX6_init_133 : decode cX6_init 133 = .ok (.aload_n 0, 1) := by decide +kernel
theorem dX6_init_134 : decode cX6_init 134 = .ok (.getfield 10, 3) := by decide +kernel
theorem dX6_init_137 : decode cX6_init 137 = .ok (.ldc 69, 2) := by decide +kernel
theorem dX6_init_139 : decode cX6_init 139 = .ok (.iload_n 1, 1) := by decide +kernel
theorem dX6_init_140 : decode cX6_init 140 = .ok (.invokevirtual 77, 3) := by decide +kernel
theorem dX6_init_143 : decode cX6_init 143 = .ok (.invokevirtual 81, 3) := by decide +kernel
theorem dX6_init_146 : decode cX6_init 146 = .ok (.pop, 1) := by decide +kernel
theorem dX6_init_147 : decode cX6_init 147 = .ok (.iinc 1 1, 3) := by decide +kernel
theorem dX6_init_150 : decode cX6_init 150 = .ok (.goto (-26), 3) := by decide +kernel
theorem dX6_init_153 : decode cX6_init 153 = .ok (.aload_n 0, 1) := by decide +kernel
theorem dX6_init_154 : decode cX6_init 154 = .ok (.getfield 10, 3) := by decide +kernel
theorem dX6_init_157 : decode cX6_init 157 = .ok (.aload_n 0, 1) := by decide +kernel
theorem dX6_init_158 : decode cX6_init 158 = .ok (.getfield 23, 3) := by decide +kernel
theorem dX6_init_161 : decode cX6_init 161 = .ok (.invokevirtual 85, 3) := by decide +kernel
theorem dX6_init_164 : decode cX6_init 164 = .ok (.pop, 1) := by decide +kernel
theorem dX6_init_165 : decode cX6_init 165 = .ok (.aload_n 0, 1) := by decide +kernel
theorem dX6_init_166 : decode cX6_init 166 = .ok (.invokevirtual 89, 3) := by decide +kernel
theorem dX6_init_169 : decode cX6_init 169 = .ok (.aload_n 0, 1) := by decide +kernel
theorem dX6_init_170 : decode cX6_init 170 = .ok (.getfield 10, 3) := by decide +kernel
theorem dX6_init_173 : decode cX6_init 173 = .ok (.invokevirtual 92, 3) := by decide +kernel
theorem dX6_init_176 : decode cX6_init 176 = .ok (.return_, 1) := by decide +kernel
theorem dX6_write_0 : decode cX6_write 0 = .ok (.iload_n 1, 1) := by decide +kernel
theorem dX6_write_1 : decode cX6_write 1 = .ok (.bipush 32, 2) := by decide +kernel
theorem dX6_write_3 : decode cX6_write 3 = .ok (.if_icmp .lt 9, 3) := by decide +kernel
theorem dX6_write_6 : decode cX6_write 6 = .ok (.iload_n 1, 1) := by decide +kernel
theorem dX6_write_7 : decode cX6_write 7 = .ok (.bipush 126, 2) := by decide +kernel
theorem dX6_write_9 : decode cX6_write 9 = .ok (.if_icmp .le 5, 3) := by decide +kernel
theorem dX6_write_12 : decode cX6_write 12 = .ok (.iconst (-1), 1) := by decide +kernel
theorem dX6_write_13 : decode cX6_write 13 = .ok (.ireturn, 1) := by decide +kernel
theorem dX6_write_14 : decode cX6_write 14 = .ok (.aload_n 0, 1) := by decide +kernel
theorem dX6_write_15 : decode cX6_write 15 = .ok (.getfield 10, 3) := by decide +kernel
theorem dX6_write_18 : decode cX6_write 18 = .ok (.iload_n 1, 1) := by decide +kernel
theorem dX6_write_19 : decode cX6_write 19 = .ok (.invokevirtual 81, 3) := by decide +kernel
theorem dX6_write_22 : decode cX6_write 22 = .ok (.ifCond .eq 13, 3) := by decide +kernel
theorem dX6_write_25 : decode cX6_write 25 = .ok (.aload_n 0, 1) := by decide +kernel
theorem dX6_write_26 : decode cX6_write 26 = .ok (.getfield 10, 3) := by decide +kernel
theorem dX6_write_29 : decode cX6_write 29 = .ok (.getfield 95, 3) := by decide +kernel
theorem dX6_write_32 : decode cX6_write 32 = .ok (.goto 5, 3) := by decide +kernel
theorem dX6_write_35 : decode cX6_write 35 = .ok (.bipush (-3), 2) := by decide +kernel
theorem dX6_write_37 : decode cX6_write 37 = .ok (.ireturn, 1) := by decide +kernel
theorem dX6_wipe_0 : decode cX6_wipe 0 = .ok (.aload_n 0, 1) := by decide +kernel
theorem dX6_wipe_1 : decode cX6_wipe 1 = .ok (.getfield 10, 3) := by decide +kernel
theorem dX6_wipe_4 : decode cX6_wipe 4 = .ok (.getfield 95, 3) := by decide +kernel
theorem dX6_wipe_7 : decode cX6_wipe 7 = .ok (.istore_n 1, 1) := by decide +kernel
theorem dX6_wipe_8 : decode cX6_wipe 8 = .ok (.aload_n 0, 1) := by decide +kernel
theorem dX6_wipe_9 : decode cX6_wipe 9 = .ok (.getfield 10, 3) := by decide +kernel
theorem dX6_wipe_12 : decode cX6_wipe 12 = .ok (.invokevirtual 92, 3) := by decide +kernel
theorem dX6_wipe_15 : decode cX6_wipe 15 = .ok (.iload_n 1, 1) := by decide +kernel
theorem dX6_wipe_16 : decode cX6_wipe 16 = .ok (.ireturn, 1) := by decide +kernel
theorem dX6_fault_0 : decode cX6_fault 0 = .ok (.aload_n 0, 1) := by decide +kernel
theorem dX6_fault_1 : decode cX6_fault 1 = .ok (.getfield 10, 3) := by decide +kernel
theorem dX6_fault_4 : decode cX6_fault 4 = .ok (.aload_n 0, 1) := by decide +kernel
theorem dX6_fault_5 : decode cX6_fault 5 = .ok (.getfield 23, 3) := by decide +kernel
theorem dX6_fault_8 : decode cX6_fault 8 = .ok (.invokevirtual 85, 3) := by decide +kernel
theorem dX6_fault_11 : decode cX6_fault 11 = .ok (.ireturn, 1) := by decide +kernel
theorem dX6_lay_0 : decode cX6_lay 0 = .ok (.aload_n 0, 1) := by decide +kernel
theorem dX6_lay_1 : decode cX6_lay 1 = .ok (.getfield 10, 3) := by decide +kernel
theorem dX6_lay_4 : decode cX6_lay 4 = .ok (.aload_n 0, 1) := by decide +kernel
theorem dX6_lay_5 : decode cX6_lay 5 = .ok (.getfield 23, 3) := by decide +kernel
theorem dX6_lay_8 : decode cX6_lay 8 = .ok (.invokevirtual 85, 3) := by decide +kernel
theorem dX6_lay_11 : decode cX6_lay 11 = .ok (.bipush (-4), 2) := by decide +kernel
theorem dX6_lay_13 : decode cX6_lay 13 = .ok (.if_icmp .ne 13, 3) := by decide +kernel
theorem dX6_lay_16 : decode cX6_lay 16 = .ok (.aload_n 0, 1) := by decide +kernel
theorem dX6_lay_17 : decode cX6_lay 17 = .ok (.getfield 23, 3) := by decide +kernel
theorem dX6_lay_20 : decode cX6_lay 20 = .ok (.invokevirtual 98, 3) := by decide +kernel
theorem dX6_lay_23 : decode cX6_lay 23 = .ok (.ifCond .ne 6, 3) := by decide +kernel
theorem dX6_lay_26 : decode cX6_lay 26 = .ok (.bipush (-2), 2) := by decide +kernel
theorem dX6_lay_28 : decode cX6_lay 28 = .ok (.ireturn, 1) := by decide +kernel
theorem dX6_lay_29 : decode cX6_lay 29 = .ok (.aload_n 0, 1) := by decide +kernel
theorem dX6_lay_30 : decode cX6_lay 30 = .ok (.invokevirtual 89, 3) := by decide +kernel
theorem dX6_lay_33 : decode cX6_lay 33 = .ok (.aload_n 0, 1) := by decide +kernel
theorem dX6_lay_34 : decode cX6_lay 34 = .ok (.getfield 19, 3) := by decide +kernel
theorem dX6_lay_37 : decode cX6_lay 37 = .ok (.getfield 102, 3) := by decide +kernel
theorem dX6_lay_40 : decode cX6_lay 40 = .ok (.ireturn, 1) := by decide +kernel
theorem dX6_bell_0 : decode cX6_bell 0 = .ok (.aload_n 0, 1) := by decide +kernel
theorem dX6_bell_1 : decode cX6_bell 1 = .ok (.iload_n 1, 1) := by decide +kernel
theorem dX6_bell_2 : decode cX6_bell 2 = .ok (.invokevirtual 105, 3) := by decide +kernel
theorem dX6_bell_5 : decode cX6_bell 5 = .ok (.ifCond .ne 5, 3) := by decide +kernel
theorem dX6_bell_8 : decode cX6_bell 8 = .ok (.iconst (-1), 1) := by decide +kernel
theorem dX6_bell_9 : decode cX6_bell 9 = .ok (.ireturn, 1) := by decide +kernel
theorem dX6_bell_10 : decode cX6_bell 10 = .ok (.iload_n 2, 1) := by decide +kernel
theorem dX6_bell_11 : decode cX6_bell 11 = .ok (.tableswitch 79 0 4 #[33, 43, 53, 59, 69], 33) := by decide +kernel
theorem dX6_bell_44 : decode cX6_bell 44 = .ok (.aload_n 0, 1) := by decide +kernel
theorem dX6_bell_45 : decode cX6_bell 45 = .ok (.getfield 19, 3) := by decide +kernel
theorem dX6_bell_48 : decode cX6_bell 48 = .ok (.getfield 108, 3) := by decide +kernel
theorem dX6_bell_51 : decode cX6_bell 51 = .ok (.iload_n 1, 1) := by decide +kernel
theorem dX6_bell_52 : decode cX6_bell 52 = .ok (.iaload, 1) := by decide +kernel
theorem dX6_bell_53 : decode cX6_bell 53 = .ok (.ireturn, 1) := by decide +kernel
theorem dX6_bell_54 : decode cX6_bell 54 = .ok (.aload_n 0, 1) := by decide +kernel
theorem dX6_bell_55 : decode cX6_bell 55 = .ok (.getfield 19, 3) := by decide +kernel
theorem dX6_bell_58 : decode cX6_bell 58 = .ok (.getfield 111, 3) := by decide +kernel
theorem dX6_bell_61 : decode cX6_bell 61 = .ok (.iload_n 1, 1) := by decide +kernel
theorem dX6_bell_62 : decode cX6_bell 62 = .ok (.iaload, 1) := by decide +kernel
theorem dX6_bell_63 : decode cX6_bell 63 = .ok (.ireturn, 1) := by decide +kernel
theorem dX6_bell_64 : decode cX6_bell 64 = .ok (.aload_n 0, 1) := by decide +kernel
theorem dX6_bell_65 : decode cX6_bell 65 = .ok (.iload_n 1, 1) := by decide +kernel
theorem dX6_bell_66 : decode cX6_bell 66 = .ok (.invokevirtual 114, 3) := by decide +kernel
theorem dX6_bell_69 : decode cX6_bell 69 = .ok (.ireturn, 1) := by decide +kernel
theorem dX6_bell_70 : decode cX6_bell 70 = .ok (.aload_n 0, 1) := by decide +kernel
theorem dX6_bell_71 : decode cX6_bell 71 = .ok (.getfield 29, 3) := by decide +kernel
theorem dX6_bell_74 : decode cX6_bell 74 = .ok (.getfield 118, 3) := by decide +kernel
theorem dX6_bell_77 : decode cX6_bell 77 = .ok (.iload_n 1, 1) := by decide +kernel
theorem dX6_bell_78 : decode cX6_bell 78 = .ok (.iaload, 1) := by decide +kernel
theorem dX6_bell_79 : decode cX6_bell 79 = .ok (.ireturn, 1) := by decide +kernel
theorem dX6_bell_80 : decode cX6_bell 80 = .ok (.aload_n 0, 1) := by decide +kernel
theorem dX6_bell_81 : decode cX6_bell 81 = .ok (.getfield 29, 3) := by decide +kernel
theorem dX6_bell_84 : decode cX6_bell 84 = .ok (.getfield 121, 3) := by decide +kernel
theorem dX6_bell_87 : decode cX6_bell 87 = .ok (.iload_n 1, 1) := by decide +kernel
theorem dX6_bell_88 : decode cX6_bell 88 = .ok (.iaload, 1) := by decide +kernel
theorem dX6_bell_89 : decode cX6_bell 89 = .ok (.ireturn, 1) := by decide +kernel
theorem dX6_bell_90 : decode cX6_bell 90 = .ok (.iconst (-1), 1) := by decide +kernel
theorem dX6_bell_91 : decode cX6_bell 91 = .ok (.ireturn, 1) := by decide +kernel
theorem dX6_pins_0 : decode cX6_pins 0 = .ok (.aload_n 0, 1) := by decide +kernel
theorem dX6_pins_1 : decode cX6_pins 1 = .ok (.iload_n 1, 1) := by decide +kernel
theorem dX6_pins_2 : decode cX6_pins 2 = .ok (.invokevirtual 124, 3) := by decide +kernel
theorem dX6_pins_5 : decode cX6_pins 5 = .ok (.ifCond .eq 15, 3) := by decide +kernel
theorem dX6_pins_8 : decode cX6_pins 8 = .ok (.aload_n 0, 1) := by decide +kernel
theorem dX6_pins_9 : decode cX6_pins 9 = .ok (.getfield 29, 3) := by decide +kernel
theorem dX6_pins_12 : decode cX6_pins 12 = .ok (.getfield 127, 3) := by decide +kernel
theorem dX6_pins_15 : decode cX6_pins 15 = .ok (.iload_n 1, 1) := by decide +kernel
theorem dX6_pins_16 : decode cX6_pins 16 = .ok (.iaload, 1) := by decide +kernel
theorem dX6_pins_17 : decode cX6_pins 17 = .ok (.goto 4, 3) := by decide +kernel
theorem dX6_pins_20 : decode cX6_pins 20 = .ok (.iconst (-1), 1) := by decide +kernel
theorem dX6_pins_21 : decode cX6_pins 21 = .ok (.ireturn, 1) := by decide +kernel
theorem dX6_layTold_0 : decode cX6_layTold 0 = .ok (.aload_n 0, 1) := by decide +kernel
theorem dX6_layTold_1 : decode cX6_layTold 1 = .ok (.getfield 19, 3) := by decide +kernel
theorem dX6_layTold_4 : decode cX6_layTold 4 = .ok (.astore_n 1, 1) := by decide +kernel
theorem dX6_layTold_5 : decode cX6_layTold 5 = .ok (.aload_n 0, 1) := by decide +kernel
theorem dX6_layTold_6 : decode cX6_layTold 6 = .ok (.aload_n 0, 1) := by decide +kernel
theorem dX6_layTold_7 : decode cX6_layTold 7 = .ok (.getfield 23, 3) := by decide +kernel
theorem dX6_layTold_10 : decode cX6_layTold 10 = .ok (.putfield 19, 3) := by decide +kernel
theorem dX6_layTold_13 : decode cX6_layTold 13 = .ok (.aload_n 0, 1) := by decide +kernel
theorem dX6_layTold_14 : decode cX6_layTold 14 = .ok (.aload_n 1, 1) := by decide +kernel
theorem dX6_layTold_15 : decode cX6_layTold 15 = .ok (.putfield 23, 3) := by decide +kernel
theorem dX6_layTold_18 : decode cX6_layTold 18 = .ok (.aload_n 0, 1) := by decide +kernel
theorem dX6_layTold_19 : decode cX6_layTold 19 = .ok (.getfield 29, 3) := by decide +kernel
theorem dX6_layTold_22 : decode cX6_layTold 22 = .ok (.aload_n 0, 1) := by decide +kernel
theorem dX6_layTold_23 : decode cX6_layTold 23 = .ok (.getfield 19, 3) := by decide +kernel
theorem dX6_layTold_26 : decode cX6_layTold 26 = .ok (.invokevirtual 130, 3) := by decide +kernel
theorem dX6_layTold_29 : decode cX6_layTold 29 = .ok (.aload_n 0, 1) := by decide +kernel
theorem dX6_layTold_30 : decode cX6_layTold 30 = .ok (.getfield 48, 3) := by decide +kernel
theorem dX6_layTold_33 : decode cX6_layTold 33 = .ok (.iconst 0, 1) := by decide +kernel
theorem dX6_layTold_34 : decode cX6_layTold 34 = .ok (.invokestatic 134, 3) := by decide +kernel
theorem dX6_layTold_37 : decode cX6_layTold 37 = .ok (.aload_n 0, 1) := by decide +kernel
theorem dX6_layTold_38 : decode cX6_layTold 38 = .ok (.iconst 0, 1) := by decide +kernel
theorem dX6_layTold_39 : decode cX6_layTold 39 = .ok (.putfield 140, 3) := by decide +kernel
theorem dX6_layTold_42 : decode cX6_layTold 42 = .ok (.aload_n 0, 1) := by decide +kernel
theorem dX6_layTold_43 : decode cX6_layTold 43 = .ok (.getfield 41, 3) := by decide +kernel
theorem dX6_layTold_46 : decode cX6_layTold 46 = .ok (.invokevirtual 143, 3) := by decide +kernel
theorem dX6_layTold_49 : decode cX6_layTold 49 = .ok (.aload_n 0, 1) := by decide +kernel
theorem dX6_layTold_50 : decode cX6_layTold 50 = .ok (.getfield 45, 3) := by decide +kernel
theorem dX6_layTold_53 : decode cX6_layTold 53 = .ok (.invokevirtual 143, 3) := by decide +kernel
theorem dX6_layTold_56 : decode cX6_layTold 56 = .ok (.return_, 1) := by decide +kernel
theorem dX6_isBell_0 : decode cX6_isBell 0 = .ok (.iload_n 1, 1) := by decide +kernel
theorem dX6_isBell_1 : decode cX6_isBell 1 = .ok (.ifCond .lt 18, 3) := by decide +kernel
theorem dX6_isBell_4 : decode cX6_isBell 4 = .ok (.iload_n 1, 1) := by decide +kernel
theorem dX6_isBell_5 : decode cX6_isBell 5 = .ok (.aload_n 0, 1) := by decide +kernel
theorem dX6_isBell_6 : decode cX6_isBell 6 = .ok (.getfield 19, 3) := by decide +kernel
theorem dX6_isBell_9 : decode cX6_isBell 9 = .ok (.getfield 144, 3) := by decide +kernel
theorem dX6_isBell_12 : decode cX6_isBell 12 = .ok (.if_icmp .ge 7, 3) := by decide +kernel
theorem dX6_isBell_15 : decode cX6_isBell 15 = .ok (.iconst 1, 1) := by decide +kernel
theorem dX6_isBell_16 : decode cX6_isBell 16 = .ok (.goto 4, 3) := by decide +kernel
theorem dX6_isBell_19 : decode cX6_isBell 19 = .ok (.iconst 0, 1) := by decide +kernel
theorem dX6_isBell_20 : decode cX6_isBell 20 = .ok (.ireturn, 1) := by decide +kernel
theorem dX6_isRow_0 : decode cX6_isRow 0 = .ok (.iload_n 1, 1) := by decide +kernel
theorem dX6_isRow_1 : decode cX6_isRow 1 = .ok (.ifCond .lt 18, 3) := by decide +kernel
theorem dX6_isRow_4 : decode cX6_isRow 4 = .ok (.iload_n 1, 1) := by decide +kernel
theorem dX6_isRow_5 : decode cX6_isRow 5 = .ok (.aload_n 0, 1) := by decide +kernel
theorem dX6_isRow_6 : decode cX6_isRow 6 = .ok (.getfield 19, 3) := by decide +kernel
theorem dX6_isRow_9 : decode cX6_isRow 9 = .ok (.getfield 147, 3) := by decide +kernel
theorem dX6_isRow_12 : decode cX6_isRow 12 = .ok (.if_icmp .ge 7, 3) := by decide +kernel
theorem dX6_isRow_15 : decode cX6_isRow 15 = .ok (.iconst 1, 1) := by decide +kernel
theorem dX6_isRow_16 : decode cX6_isRow 16 = .ok (.goto 4, 3) := by decide +kernel
theorem dX6_isRow_19 : decode cX6_isRow 19 = .ok (.iconst 0, 1) := by decide +kernel
theorem dX6_isRow_20 : decode cX6_isRow 20 = .ok (.ireturn, 1) := by decide +kernel
theorem dX6_isSet_0 : decode cX6_isSet 0 = .ok (.iload_n 1, 1) := by decide +kernel
theorem dX6_isSet_1 : decode cX6_isSet 1 = .ok (.ifCond .lt 18, 3) := by decide +kernel
theorem dX6_isSet_4 : decode cX6_isSet 4 = .ok (.iload_n 1, 1) := by decide +kernel
theorem dX6_isSet_5 : decode cX6_isSet 5 = .ok (.aload_n 0, 1) := by decide +kernel
theorem dX6_isSet_6 : decode cX6_isSet 6 = .ok (.getfield 19, 3) := by decide +kernel
theorem dX6_isSet_9 : decode cX6_isSet 9 = .ok (.invokevirtual 150, 3) := by decide +kernel
theorem dX6_isSet_12 : decode cX6_isSet 12 = .ok (.if_icmp .gt 7, 3) := by decide +kernel
theorem dX6_isSet_15 : decode cX6_isSet 15 = .ok (.iconst 1, 1) := by decide +kernel
theorem dX6_isSet_16 : decode cX6_isSet 16 = .ok (.goto 4, 3) := by decide +kernel
theorem dX6_isSet_19 : decode cX6_isSet 19 = .ok (.iconst 0, 1) := by decide +kernel
theorem dX6_isSet_20 : decode cX6_isSet 20 = .ok (.ireturn, 1) := by decide +kernel
theorem dX6_pinsOfBell_0 : decode cX6_pinsOfBell 0 = .ok (.iconst 0, 1) := by decide +kernel
theorem dX6_pinsOfBell_1 : decode cX6_pinsOfBell 1 = .ok (.istore_n 2, 1) := by decide +kernel
theorem dX6_pinsOfBell_2 : decode cX6_pinsOfBell 2 = .ok (.iconst 0, 1) := by decide +kernel
theorem dX6_pinsOfBell_3 : decode cX6_pinsOfBell 3 = .ok (.istore_n 3, 1) := by decide +kernel
theorem dX6_pinsOfBell_4 : decode cX6_pinsOfBell 4 = .ok (.iload_n 3, 1) := by decide +kernel
theorem dX6_pinsOfBell_5 : decode cX6_pinsOfBell 5 = .ok (.aload_n 0, 1) := by decide +kernel
theorem dX6_pinsOfBell_6 : decode cX6_pinsOfBell 6 = .ok (.getfield 19, 3) := by decide +kernel
theorem dX6_pinsOfBell_9 : decode cX6_pinsOfBell 9 = .ok (.getfield 147, 3) := by decide +kernel
theorem dX6_pinsOfBell_12 : decode cX6_pinsOfBell 12 = .ok (.if_icmp .ge 25, 3) := by decide +kernel
theorem dX6_pinsOfBell_15 : decode cX6_pinsOfBell 15 = .ok (.iload_n 2, 1) := by decide +kernel
theorem dX6_pinsOfBell_16 : decode cX6_pinsOfBell 16 = .ok (.aload_n 0, 1) := by decide +kernel
theorem dX6_pinsOfBell_17 : decode cX6_pinsOfBell 17 = .ok (.getfield 29, 3) := by decide +kernel
theorem dX6_pinsOfBell_20 : decode cX6_pinsOfBell 20 = .ok (.getfield 127, 3) := by decide +kernel
theorem dX6_pinsOfBell_23 : decode cX6_pinsOfBell 23 = .ok (.iload_n 3, 1) := by decide +kernel
theorem dX6_pinsOfBell_24 : decode cX6_pinsOfBell 24 = .ok (.iaload, 1) := by decide +kernel
theorem dX6_pinsOfBell_25 : decode cX6_pinsOfBell 25 = .ok (.iload_n 1, 1) := by decide +kernel
theorem dX6_pinsOfBell_26 : decode cX6_pinsOfBell 26 = .ok (.ishr, 1) := by decide +kernel
theorem dX6_pinsOfBell_27 : decode cX6_pinsOfBell 27 = .ok (.iconst 1, 1) := by decide +kernel
theorem dX6_pinsOfBell_28 : decode cX6_pinsOfBell 28 = .ok (.iand, 1) := by decide +kernel
theorem dX6_pinsOfBell_29 : decode cX6_pinsOfBell 29 = .ok (.iadd, 1) := by decide +kernel
theorem dX6_pinsOfBell_30 : decode cX6_pinsOfBell 30 = .ok (.istore_n 2, 1) := by decide +kernel
theorem dX6_pinsOfBell_31 : decode cX6_pinsOfBell 31 = .ok (.iinc 3 1, 3) := by decide +kernel
theorem dX6_pinsOfBell_34 : decode cX6_pinsOfBell 34 = .ok (.goto (-30), 3) := by decide +kernel
theorem dX6_pinsOfBell_37 : decode cX6_pinsOfBell 37 = .ok (.iload_n 2, 1) := by decide +kernel
theorem dX6_pinsOfBell_38 : decode cX6_pinsOfBell 38 = .ok (.ireturn, 1) := by decide +kernel
theorem dX6_turn_0 : decode cX6_turn 0 = .ok (.aload_n 0, 1) := by decide +kernel
theorem dX6_turn_1 : decode cX6_turn 1 = .ok (.getfield 41, 3) := by decide +kernel
theorem dX6_turn_4 : decode cX6_turn 4 = .ok (.aload_n 0, 1) := by decide +kernel
theorem dX6_turn_5 : decode cX6_turn 5 = .ok (.getfield 29, 3) := by decide +kernel
theorem dX6_turn_8 : decode cX6_turn 8 = .ok (.invokevirtual 153, 3) := by decide +kernel
theorem dX6_turn_11 : decode cX6_turn 11 = .ok (.aload_n 0, 1) := by decide +kernel
theorem dX6_turn_12 : decode cX6_turn 12 = .ok (.getfield 29, 3) := by decide +kernel
theorem dX6_turn_15 : decode cX6_turn 15 = .ok (.aload_n 0, 1) := by decide +kernel
theorem dX6_turn_16 : decode cX6_turn 16 = .ok (.getfield 19, 3) := by decide +kernel
theorem dX6_turn_19 : decode cX6_turn 19 = .ok (.invokevirtual 157, 3) := by decide +kernel
theorem dX6_turn_22 : decode cX6_turn 22 = .ok (.ireturn, 1) := by decide +kernel
theorem dX6_turnBack_0 : decode cX6_turnBack 0 = .ok (.aload_n 0, 1) := by decide +kernel
theorem dX6_turnBack_1 : decode cX6_turnBack 1 = .ok (.getfield 41, 3) := by decide +kernel
theorem dX6_turnBack_4 : decode cX6_turnBack 4 = .ok (.aload_n 0, 1) := by decide +kernel
theorem dX6_turnBack_5 : decode cX6_turnBack 5 = .ok (.getfield 29, 3) := by decide +kernel
theorem dX6_turnBack_8 : decode cX6_turnBack 8 = .ok (.invokevirtual 153, 3) := by decide +kernel
theorem dX6_turnBack_11 : decode cX6_turnBack 11 = .ok (.aload_n 0, 1) := by decide +kernel
theorem dX6_turnBack_12 : decode cX6_turnBack 12 = .ok (.getfield 29, 3) := by decide +kernel
theorem dX6_turnBack_15 : decode cX6_turnBack 15 = .ok (.aload_n 0, 1) := by decide +kernel
theorem dX6_turnBack_16 : decode cX6_turnBack 16 = .ok (.getfield 19, 3) := by decide +kernel
theorem dX6_turnBack_19 : decode cX6_turnBack 19 = .ok (.invokevirtual 160, 3) := by decide +kernel
theorem dX6_turnBack_22 : decode cX6_turnBack 22 = .ok (.ireturn, 1) := by decide +kernel
theorem dX6_pin_0 : decode cX6_pin 0 = .ok (.aload_n 0, 1) := by decide +kernel
theorem dX6_pin_1 : decode cX6_pin 1 = .ok (.iload_n 1, 1) := by decide +kernel
theorem dX6_pin_2 : decode cX6_pin 2 = .ok (.invokevirtual 124, 3) := by decide +kernel
theorem dX6_pin_5 : decode cX6_pin 5 = .ok (.ifCond .eq 11, 3) := by decide +kernel
theorem dX6_pin_8 : decode cX6_pin 8 = .ok (.aload_n 0, 1) := by decide +kernel
theorem dX6_pin_9 : decode cX6_pin 9 = .ok (.iload_n 2, 1) := by decide +kernel
theorem dX6_pin_10 : decode cX6_pin 10 = .ok (.invokevirtual 105, 3) := by decide +kernel
theorem dX6_pin_13 : decode cX6_pin 13 = .ok (.ifCond .ne 5, 3) := by decide +kernel
theorem dX6_pin_16 : decode cX6_pin 16 = .ok (.iconst (-1), 1) := by decide +kernel
theorem dX6_pin_17 : decode cX6_pin 17 = .ok (.ireturn, 1) := by decide +kernel
theorem dX6_pin_18 : decode cX6_pin 18 = .ok (.aload_n 0, 1) := by decide +kernel
theorem dX6_pin_19 : decode cX6_pin 19 = .ok (.getfield 29, 3) := by decide +kernel
theorem dX6_pin_22 : decode cX6_pin 22 = .ok (.getfield 127, 3) := by decide +kernel
theorem dX6_pin_25 : decode cX6_pin 25 = .ok (.iload_n 1, 1) := by decide +kernel
theorem dX6_pin_26 : decode cX6_pin 26 = .ok (.iaload, 1) := by decide +kernel
theorem dX6_pin_27 : decode cX6_pin 27 = .ok (.iload_n 2, 1) := by decide +kernel
theorem dX6_pin_28 : decode cX6_pin 28 = .ok (.ishr, 1) := by decide +kernel
theorem dX6_pin_29 : decode cX6_pin 29 = .ok (.iconst 1, 1) := by decide +kernel
theorem dX6_pin_30 : decode cX6_pin 30 = .ok (.iand, 1) := by decide +kernel
theorem dX6_pin_31 : decode cX6_pin 31 = .ok (.iconst 1, 1) := by decide +kernel
theorem dX6_pin_32 : decode cX6_pin 32 = .ok (.if_icmp .ne 7, 3) := by decide +kernel
theorem dX6_pin_35 : decode cX6_pin 35 = .ok (.iconst 1, 1) := by decide +kernel
theorem dX6_pin_36 : decode cX6_pin 36 = .ok (.goto 4, 3) := by decide +kernel
theorem dX6_pin_39 : decode cX6_pin 39 = .ok (.iconst 0, 1) := by decide +kernel
theorem dX6_pin_40 : decode cX6_pin 40 = .ok (.istore 4, 2) := by decide +kernel
theorem dX6_pin_42 : decode cX6_pin 42 = .ok (.iload 4, 2) := by decide +kernel
theorem dX6_pin_44 : decode cX6_pin 44 = .ok (.iload_n 3, 1) := by decide +kernel
theorem dX6_pin_45 : decode cX6_pin 45 = .ok (.if_icmp .ne 6, 3) := by decide +kernel
theorem dX6_pin_48 : decode cX6_pin 48 = .ok (.bipush (-2), 2) := by decide +kernel
theorem dX6_pin_50 : decode cX6_pin 50 = .ok (.ireturn, 1) := by decide +kernel
theorem dX6_pin_51 : decode cX6_pin 51 = .ok (.aload_n 0, 1) := by decide +kernel
theorem dX6_pin_52 : decode cX6_pin 52 = .ok (.getfield 41, 3) := by decide +kernel
theorem dX6_pin_55 : decode cX6_pin 55 = .ok (.aload_n 0, 1) := by decide +kernel
theorem dX6_pin_56 : decode cX6_pin 56 = .ok (.getfield 29, 3) := by decide +kernel
theorem dX6_pin_59 : decode cX6_pin 59 = .ok (.invokevirtual 153, 3) := by decide +kernel
theorem dX6_pin_62 : decode cX6_pin 62 = .ok (.aload_n 0, 1) := by decide +kernel
theorem dX6_pin_63 : decode cX6_pin 63 = .ok (.getfield 29, 3) := by decide +kernel
theorem dX6_pin_66 : decode cX6_pin 66 = .ok (.getfield 127, 3) := by decide +kernel
theorem dX6_pin_69 : decode cX6_pin 69 = .ok (.iload_n 1, 1) := by decide +kernel
theorem dX6_pin_70 : decode cX6_pin 70 = .ok (.dup2, 1) := by decide +kernel
theorem dX6_pin_71 : decode cX6_pin 71 = .ok (.iaload, 1) := by decide +kernel
theorem dX6_pin_72 : decode cX6_pin 72 = .ok (.iconst 1, 1) := by decide +kernel
theorem dX6_pin_73 : decode cX6_pin 73 = .ok (.iload_n 2, 1) := by decide +kernel
theorem dX6_pin_74 : decode cX6_pin 74 = .ok (.ishl, 1) := by decide +kernel
theorem dX6_pin_75 : decode cX6_pin 75 = .ok (.ixor, 1) := by decide +kernel
theorem dX6_pin_76 : decode cX6_pin 76 = .ok (.iastore, 1) := by decide +kernel
theorem dX6_pin_77 : decode cX6_pin 77 = .ok (.aload_n 0, 1) := by decide +kernel
theorem dX6_pin_78 : decode cX6_pin 78 = .ok (.getfield 29, 3) := by decide +kernel
theorem dX6_pin_81 : decode cX6_pin 81 = .ok (.getfield 127, 3) := by decide +kernel
theorem dX6_pin_84 : decode cX6_pin 84 = .ok (.iload_n 1, 1) := by decide +kernel
theorem dX6_pin_85 : decode cX6_pin 85 = .ok (.iaload, 1) := by decide +kernel
theorem dX6_pin_86 : decode cX6_pin 86 = .ok (.invokestatic 163, 3) := by decide +kernel
theorem dX6_pin_89 : decode cX6_pin 89 = .ok (.ireturn, 1) := by decide +kernel
theorem dX6_shift_0 : decode cX6_shift 0 = .ok (.aload_n 0, 1) := by decide +kernel
theorem dX6_shift_1 : decode cX6_shift 1 = .ok (.iload_n 1, 1) := by decide +kernel
theorem dX6_shift_2 : decode cX6_shift 2 = .ok (.invokevirtual 124, 3) := by decide +kernel
theorem dX6_shift_5 : decode cX6_shift 5 = .ok (.ifCond .ne 5, 3) := by decide +kernel
theorem dX6_shift_8 : decode cX6_shift 8 = .ok (.iconst (-1), 1) := by decide +kernel
theorem dX6_shift_9 : decode cX6_shift 9 = .ok (.ireturn, 1) := by decide +kernel
theorem dX6_shift_10 : decode cX6_shift 10 = .ok (.aload_n 0, 1) := by decide +kernel
theorem dX6_shift_11 : decode cX6_shift 11 = .ok (.getfield 41, 3) := by decide +kernel
theorem dX6_shift_14 : decode cX6_shift 14 = .ok (.aload_n 0, 1) := by decide +kernel
theorem dX6_shift_15 : decode cX6_shift 15 = .ok (.getfield 29, 3) := by decide +kernel
theorem dX6_shift_18 : decode cX6_shift 18 = .ok (.invokevirtual 153, 3) := by decide +kernel
theorem dX6_shift_21 : decode cX6_shift 21 = .ok (.iconst 0, 1) := by decide +kernel
theorem dX6_shift_22 : decode cX6_shift 22 = .ok (.istore_n 2, 1) := by decide +kernel
theorem dX6_shift_23 : decode cX6_shift 23 = .ok (.iload_n 2, 1) := by decide +kernel
theorem dX6_shift_24 : decode cX6_shift 24 = .ok (.aload_n 0, 1) := by decide +kernel
theorem dX6_shift_25 : decode cX6_shift 25 = .ok (.getfield 19, 3) := by decide +kernel
theorem dX6_shift_28 : decode cX6_shift 28 = .ok (.getfield 147, 3) := by decide +kernel
theorem dX6_shift_31 : decode cX6_shift 31 = .ok (.if_icmp .ge 35, 3) := by decide +kernel
theorem dX6_shift_34 : decode cX6_shift 34 = .ok (.aload_n 0, 1) := by decide +kernel
theorem dX6_shift_35 : decode cX6_shift 35 = .ok (.getfield 33, 3) := by decide +kernel
theorem dX6_shift_38 : decode cX6_shift 38 = .ok (.getfield 127, 3) := by decide +kernel
theorem dX6_shift_41 : decode cX6_shift 41 = .ok (.aload_n 0, 1) := by decide +kernel
theorem dX6_shift_42 : decode cX6_shift 42 = .ok (.getfield 19, 3) := by decide +kernel
theorem dX6_shift_45 : decode cX6_shift 45 = .ok (.iload_n 2, 1) := by decide +kernel
theorem dX6_shift_46 : decode cX6_shift 46 = .ok (.iload_n 1, 1) := by decide +kernel
theorem dX6_shift_47 : decode cX6_shift 47 = .ok (.invokevirtual 168, 3) := by decide +kernel
theorem dX6_shift_50 : decode cX6_shift 50 = .ok (.aload_n 0, 1) := by decide +kernel
theorem dX6_shift_51 : decode cX6_shift 51 = .ok (.getfield 29, 3) := by decide +kernel
theorem dX6_shift_54 : decode cX6_shift 54 = .ok (.getfield 127, 3) := by decide +kernel
theorem dX6_shift_57 : decode cX6_shift 57 = .ok (.iload_n 2, 1) := by decide +kernel
theorem dX6_shift_58 : decode cX6_shift 58 = .ok (.iaload, 1) := by decide +kernel
theorem dX6_shift_59 : decode cX6_shift 59 = .ok (.iastore, 1) := by decide +kernel
theorem dX6_shift_60 : decode cX6_shift 60 = .ok (.iinc 2 1, 3) := by decide +kernel
theorem dX6_shift_63 : decode cX6_shift 63 = .ok (.goto (-40), 3) := by decide +kernel
theorem dX6_shift_66 : decode cX6_shift 66 = .ok (.aload_n 0, 1) := by decide +kernel
theorem dX6_shift_67 : decode cX6_shift 67 = .ok (.getfield 33, 3) := by decide +kernel
theorem dX6_shift_70 : decode cX6_shift 70 = .ok (.getfield 127, 3) := by decide +kernel
theorem dX6_shift_73 : decode cX6_shift 73 = .ok (.iconst 0, 1) := by decide +kernel
theorem dX6_shift_74 : decode cX6_shift 74 = .ok (.aload_n 0, 1) := by decide +kernel
theorem dX6_shift_75 : decode cX6_shift 75 = .ok (.getfield 29, 3) := by decide +kernel
theorem dX6_shift_78 : decode cX6_shift 78 = .ok (.getfield 127, 3) := by decide +kernel
theorem dX6_shift_81 : decode cX6_shift 81 = .ok (.iconst 0, 1) := by decide +kernel
theorem dX6_shift_82 : decode cX6_shift 82 = .ok (.aload_n 0, 1) := by decide +kernel
theorem dX6_shift_83 : decode cX6_shift 83 = .ok (.getfield 19, 3) := by decide +kernel
theorem dX6_shift_86 : decode cX6_shift 86 = .ok (.getfield 147, 3) := by decide +kernel
theorem dX6_shift_89 : decode cX6_shift 89 = .ok (.invokestatic 172, 3) := by decide +kernel
theorem dX6_shift_92 : decode cX6_shift 92 = .ok (.aload_n 0, 1) := by decide +kernel
theorem dX6_shift_93 : decode cX6_shift 93 = .ok (.getfield 29, 3) := by decide +kernel
theorem dX6_shift_96 : decode cX6_shift 96 = .ok (.getfield 127, 3) := by decide +kernel
theorem dX6_shift_99 : decode cX6_shift 99 = .ok (.iconst 0, 1) := by decide +kernel
theorem dX6_shift_100 : decode cX6_shift 100 = .ok (.iaload, 1) := by decide +kernel
theorem dX6_shift_101 : decode cX6_shift 101 = .ok (.ireturn, 1) := by decide +kernel
theorem dX6_undo_0 : decode cX6_undo 0 = .ok (.aload_n 0, 1) := by decide +kernel
theorem dX6_undo_1 : decode cX6_undo 1 = .ok (.getfield 41, 3) := by decide +kernel
theorem dX6_undo_4 : decode cX6_undo 4 = .ok (.aload_n 0, 1) := by decide +kernel
theorem dX6_undo_5 : decode cX6_undo 5 = .ok (.getfield 29, 3) := by decide +kernel
theorem dX6_undo_8 : decode cX6_undo 8 = .ok (.invokevirtual 178, 3) := by decide +kernel
theorem dX6_undo_11 : decode cX6_undo 11 = .ok (.ifCond .eq 13, 3) := by decide +kernel
theorem dX6_undo_14 : decode cX6_undo 14 = .ok (.aload_n 0, 1) := by decide +kernel
theorem dX6_undo_15 : decode cX6_undo 15 = .ok (.getfield 41, 3) := by decide +kernel
theorem dX6_undo_18 : decode cX6_undo 18 = .ok (.getfield 182, 3) := by decide +kernel
theorem dX6_undo_21 : decode cX6_undo 21 = .ok (.goto 5, 3) := by decide +kernel
theorem dX6_undo_24 : decode cX6_undo 24 = .ok (.bipush (-2), 2) := by decide +kernel
theorem dX6_undo_26 : decode cX6_undo 26 = .ok (.ireturn, 1) := by decide +kernel
theorem dX6_whole_0 : decode cX6_whole 0 = .ok (.iload_n 1, 1) := by decide +kernel
theorem dX6_whole_1 : decode cX6_whole 1 = .ok (.ifCond .lt 8, 3) := by decide +kernel
theorem dX6_whole_4 : decode cX6_whole 4 = .ok (.iload_n 1, 1) := by decide +kernel
theorem dX6_whole_5 : decode cX6_whole 5 = .ok (.iconst 2, 1) := by decide +kernel
theorem dX6_whole_6 : decode cX6_whole 6 = .ok (.if_icmp .le 5, 3) := by decide +kernel
theorem dX6_whole_9 : decode cX6_whole 9 = .ok (.iconst (-1), 1) := by decide +kernel
theorem dX6_whole_10 : decode cX6_whole 10 = .ok (.ireturn, 1) := by decide +kernel
theorem dX6_whole_11 : decode cX6_whole 11 = .ok (.aload_n 0, 1) := by decide +kernel
theorem dX6_whole_12 : decode cX6_whole 12 = .ok (.getfield 33, 3) := by decide +kernel
theorem dX6_whole_15 : decode cX6_whole 15 = .ok (.aload_n 0, 1) := by decide +kernel
theorem dX6_whole_16 : decode cX6_whole 16 = .ok (.getfield 29, 3) := by decide +kernel
theorem dX6_whole_19 : decode cX6_whole 19 = .ok (.invokevirtual 185, 3) := by decide +kernel
theorem dX6_whole_22 : decode cX6_whole 22 = .ok (.iload_n 1, 1) := by decide +kernel
theorem dX6_whole_23 : decode cX6_whole 23 = .ok (.iconst 2, 1) := by decide +kernel
theorem dX6_whole_24 : decode cX6_whole 24 = .ok (.if_icmp .ne 26, 3) := by decide +kernel
theorem dX6_whole_27 : decode cX6_whole 27 = .ok (.iconst 0, 1) := by decide +kernel
theorem dX6_whole_28 : decode cX6_whole 28 = .ok (.istore_n 2, 1) := by decide +kernel
theorem dX6_whole_29 : decode cX6_whole 29 = .ok (.iload_n 2, 1) := by decide +kernel
theorem dX6_whole_30 : decode cX6_whole 30 = .ok (.bipush 8, 2) := by decide +kernel
theorem dX6_whole_32 : decode cX6_whole 32 = .ok (.if_icmp .ge 18, 3) := by decide +kernel
theorem dX6_whole_35 : decode cX6_whole 35 = .ok (.aload_n 0, 1) := by decide +kernel
theorem dX6_whole_36 : decode cX6_whole 36 = .ok (.aload_n 0, 1) := by decide +kernel
theorem dX6_whole_37 : decode cX6_whole 37 = .ok (.getfield 33, 3) := by decide +kernel
theorem dX6_whole_40 : decode cX6_whole 40 = .ok (.invokevirtual 188, 3) := by decide +kernel
theorem dX6_whole_43 : decode cX6_whole 43 = .ok (.pop, 1) := by decide +kernel
theorem dX6_whole_44 : decode cX6_whole 44 = .ok (.iinc 2 1, 3) := by decide +kernel
theorem dX6_whole_47 : decode cX6_whole 47 = .ok (.goto (-18), 3) := by decide +kernel
theorem dX6_whole_50 : decode cX6_whole 50 = .ok (.aload_n 0, 1) := by decide +kernel
theorem dX6_whole_51 : decode cX6_whole 51 = .ok (.aload_n 0, 1) := by decide +kernel
theorem dX6_whole_52 : decode cX6_whole 52 = .ok (.getfield 33, 3) := by decide +kernel
theorem dX6_whole_55 : decode cX6_whole 55 = .ok (.invokevirtual 188, 3) := by decide +kernel
theorem dX6_whole_58 : decode cX6_whole 58 = .ok (.istore_n 2, 1) := by decide +kernel
theorem dX6_whole_59 : decode cX6_whole 59 = .ok (.iload_n 1, 1) := by decide +kernel
theorem dX6_whole_60 : decode cX6_whole 60 = .ok (.ifCond .ne 7, 3) := by decide +kernel
theorem dX6_whole_63 : decode cX6_whole 63 = .ok (.iload_n 2, 1) := by decide +kernel
theorem dX6_whole_64 : decode cX6_whole 64 = .ok (.goto 9, 3) := by decide +kernel
theorem dX6_whole_67 : decode cX6_whole 67 = .ok (.aload_n 0, 1) := by decide +kernel
theorem dX6_whole_68 : decode cX6_whole 68 = .ok (.invokevirtual 192, 3) := by decide +kernel
theorem dX6_whole_71 : decode cX6_whole 71 = .ok (.iload_n 2, 1) := by decide +kernel
theorem dX6_whole_72 : decode cX6_whole 72 = .ok (.isub, 1) := by decide +kernel
theorem dX6_whole_73 : decode cX6_whole 73 = .ok (.ireturn, 1) := by decide +kernel
theorem dX6_silence_0 : decode cX6_silence 0 = .ok (.iconst 0, 1) := by decide +kernel
theorem dX6_silence_1 : decode cX6_silence 1 = .ok (.istore_n 1, 1) := by decide +kernel
theorem dX6_silence_2 : decode cX6_silence 2 = .ok (.iconst 0, 1) := by decide +kernel
theorem dX6_silence_3 : decode cX6_silence 3 = .ok (.istore_n 2, 1) := by decide +kernel
theorem dX6_silence_4 : decode cX6_silence 4 = .ok (.iconst 0, 1) := by decide +kernel
theorem dX6_silence_5 : decode cX6_silence 5 = .ok (.istore_n 3, 1) := by decide +kernel
theorem dX6_silence_6 : decode cX6_silence 6 = .ok (.iload_n 3, 1) := by decide +kernel
theorem dX6_silence_7 : decode cX6_silence 7 = .ok (.iconst 2, 1) := by decide +kernel
theorem dX6_silence_8 : decode cX6_silence 8 = .ok (.aload_n 0, 1) := by decide +kernel
theorem dX6_silence_9 : decode cX6_silence 9 = .ok (.getfield 19, 3) := by decide +kernel
theorem dX6_silence_12 : decode cX6_silence 12 = .ok (.getfield 147, 3) := by decide +kernel
theorem dX6_silence_15 : decode cX6_silence 15 = .ok (.imul, 1) := by decide +kernel
theorem dX6_silence_16 : decode cX6_silence 16 = .ok (.if_icmp .ge 43, 3) := by decide +kernel
theorem dX6_silence_19 : decode cX6_silence 19 = .ok (.aload_n 0, 1) := by decide +kernel
theorem dX6_silence_20 : decode cX6_silence 20 = .ok (.getfield 29, 3) := by decide +kernel
theorem dX6_silence_23 : decode cX6_silence 23 = .ok (.getfield 127, 3) := by decide +kernel
theorem dX6_silence_26 : decode cX6_silence 26 = .ok (.aload_n 0, 1) := by decide +kernel
theorem dX6_silence_27 : decode cX6_silence 27 = .ok (.getfield 19, 3) := by decide +kernel
theorem dX6_silence_30 : decode cX6_silence 30 = .ok (.iconst 0, 1) := by decide +kernel
theorem dX6_silence_31 : decode cX6_silence 31 = .ok (.iload_n 3, 1) := by decide +kernel
theorem dX6_silence_32 : decode cX6_silence 32 = .ok (.invokevirtual 168, 3) := by decide +kernel
theorem dX6_silence_35 : decode cX6_silence 35 = .ok (.iaload, 1) := by decide +kernel
theorem dX6_silence_36 : decode cX6_silence 36 = .ok (.ifCond .ne 9, 3) := by decide +kernel
theorem dX6_silence_39 : decode cX6_silence 39 = .ok (.iload_n 2, 1) := by decide +kernel
theorem dX6_silence_40 : decode cX6_silence 40 = .ok (.iconst 1, 1) := by decide +kernel
theorem dX6_silence_41 : decode cX6_silence 41 = .ok (.iadd, 1) := by decide +kernel
theorem dX6_silence_42 : decode cX6_silence 42 = .ok (.goto 4, 3) := by decide +kernel
theorem dX6_silence_45 : decode cX6_silence 45 = .ok (.iconst 0, 1) := by decide +kernel
theorem dX6_silence_46 : decode cX6_silence 46 = .ok (.istore_n 2, 1) := by decide +kernel
theorem dX6_silence_47 : decode cX6_silence 47 = .ok (.iload_n 1, 1) := by decide +kernel
theorem dX6_silence_48 : decode cX6_silence 48 = .ok (.iload_n 2, 1) := by decide +kernel
theorem dX6_silence_49 : decode cX6_silence 49 = .ok (.invokestatic 195, 3) := by decide +kernel
theorem dX6_silence_52 : decode cX6_silence 52 = .ok (.istore_n 1, 1) := by decide +kernel
theorem dX6_silence_53 : decode cX6_silence 53 = .ok (.iinc 3 1, 3) := by decide +kernel
theorem dX6_silence_56 : decode cX6_silence 56 = .ok (.goto (-50), 3) := by decide +kernel
theorem dX6_silence_59 : decode cX6_silence 59 = .ok (.iload_n 1, 1) := by decide +kernel
theorem dX6_silence_60 : decode cX6_silence 60 = .ok (.aload_n 0, 1) := by decide +kernel
theorem dX6_silence_61 : decode cX6_silence 61 = .ok (.getfield 19, 3) := by decide +kernel
theorem dX6_silence_64 : decode cX6_silence 64 = .ok (.getfield 147, 3) := by decide +kernel
theorem dX6_silence_67 : decode cX6_silence 67 = .ok (.invokestatic 200, 3) := by decide +kernel
theorem dX6_silence_70 : decode cX6_silence 70 = .ok (.ireturn, 1) := by decide +kernel
theorem dX6_again_0 : decode cX6_again 0 = .ok (.iconst 1, 1) := by decide +kernel
theorem dX6_again_1 : decode cX6_again 1 = .ok (.istore_n 1, 1) := by decide +kernel
theorem dX6_again_2 : decode cX6_again 2 = .ok (.iload_n 1, 1) := by decide +kernel
theorem dX6_again_3 : decode cX6_again 3 = .ok (.aload_n 0, 1) := by decide +kernel
theorem dX6_again_4 : decode cX6_again 4 = .ok (.getfield 19, 3) := by decide +kernel
theorem dX6_again_7 : decode cX6_again 7 = .ok (.getfield 147, 3) := by decide +kernel
theorem dX6_again_10 : decode cX6_again 10 = .ok (.if_icmp .ge 19, 3) := by decide +kernel
theorem dX6_again_13 : decode cX6_again 13 = .ok (.aload_n 0, 1) := by decide +kernel
theorem dX6_again_14 : decode cX6_again 14 = .ok (.iload_n 1, 1) := by decide +kernel
theorem dX6_again_15 : decode cX6_again 15 = .ok (.invokevirtual 203, 3) := by decide +kernel
theorem dX6_again_18 : decode cX6_again 18 = .ok (.ifCond .eq 5, 3) := by decide +kernel
theorem dX6_again_21 : decode cX6_again 21 = .ok (.iload_n 1, 1) := by decide +kernel
theorem dX6_again_22 : decode cX6_again 22 = .ok (.ireturn, 1) := by decide +kernel
theorem dX6_again_23 : decode cX6_again 23 = .ok (.iinc 1 1, 3) := by decide +kernel
theorem dX6_again_26 : decode cX6_again 26 = .ok (.goto (-24), 3) := by decide +kernel
theorem dX6_again_29 : decode cX6_again 29 = .ok (.aload_n 0, 1) := by decide +kernel
theorem dX6_again_30 : decode cX6_again 30 = .ok (.getfield 19, 3) := by decide +kernel
theorem dX6_again_33 : decode cX6_again 33 = .ok (.getfield 147, 3) := by decide +kernel
theorem dX6_again_36 : decode cX6_again 36 = .ok (.ireturn, 1) := by decide +kernel
theorem dX6_harsh_0 : decode cX6_harsh 0 = .ok (.aload_n 0, 1) := by decide +kernel
theorem dX6_harsh_1 : decode cX6_harsh 1 = .ok (.iconst 0, 1) := by decide +kernel
theorem dX6_harsh_2 : decode cX6_harsh 2 = .ok (.invokevirtual 206, 3) := by decide +kernel
theorem dX6_harsh_5 : decode cX6_harsh 5 = .ok (.iconst 2, 1) := by decide +kernel
theorem dX6_harsh_6 : decode cX6_harsh 6 = .ok (.idiv, 1) := by decide +kernel
theorem dX6_harsh_7 : decode cX6_harsh 7 = .ok (.ireturn, 1) := by decide +kernel
theorem dX6_canon_0 : decode cX6_canon 0 = .ok (.iload_n 1, 1) := by decide +kernel
theorem dX6_canon_1 : decode cX6_canon 1 = .ok (.ifCond .lt 8, 3) := by decide +kernel
theorem dX6_canon_4 : decode cX6_canon 4 = .ok (.iload_n 1, 1) := by decide +kernel
theorem dX6_canon_5 : decode cX6_canon 5 = .ok (.iconst 1, 1) := by decide +kernel
theorem dX6_canon_6 : decode cX6_canon 6 = .ok (.if_icmp .le 5, 3) := by decide +kernel
theorem dX6_canon_9 : decode cX6_canon 9 = .ok (.iconst (-1), 1) := by decide +kernel
theorem dX6_canon_10 : decode cX6_canon 10 = .ok (.ireturn, 1) := by decide +kernel
theorem dX6_canon_11 : decode cX6_canon 11 = .ok (.iconst 1, 1) := by decide +kernel
theorem dX6_canon_12 : decode cX6_canon 12 = .ok (.istore_n 2, 1) := by decide +kernel
theorem dX6_canon_13 : decode cX6_canon 13 = .ok (.aload_n 0, 1) := by decide +kernel
theorem dX6_canon_14 : decode cX6_canon 14 = .ok (.iconst 1, 1) := by decide +kernel
theorem dX6_canon_15 : decode cX6_canon 15 = .ok (.invokevirtual 206, 3) := by decide +kernel
theorem dX6_canon_18 : decode cX6_canon 18 = .ok (.istore_n 3, 1) := by decide +kernel
theorem dX6_canon_19 : decode cX6_canon 19 = .ok (.iconst 2, 1) := by decide +kernel
theorem dX6_canon_20 : decode cX6_canon 20 = .ok (.istore 4, 2) := by decide +kernel
theorem dX6_canon_22 : decode cX6_canon 22 = .ok (.iload 4, 2) := by decide +kernel
theorem dX6_canon_24 : decode cX6_canon 24 = .ok (.aload_n 0, 1) := by decide +kernel
theorem dX6_canon_25 : decode cX6_canon 25 = .ok (.getfield 19, 3) := by decide +kernel
theorem dX6_canon_28 : decode cX6_canon 28 = .ok (.getfield 147, 3) := by decide +kernel
theorem dX6_canon_31 : decode cX6_canon 31 = .ok (.if_icmp .ge 29, 3) := by decide +kernel
theorem dX6_canon_34 : decode cX6_canon 34 = .ok (.aload_n 0, 1) := by decide +kernel
theorem dX6_canon_35 : decode cX6_canon 35 = .ok (.iload 4, 2) := by decide +kernel
theorem dX6_canon_37 : decode cX6_canon 37 = .ok (.invokevirtual 206, 3) := by decide +kernel
theorem dX6_canon_40 : decode cX6_canon 40 = .ok (.istore 5, 2) := by decide +kernel
theorem dX6_canon_42 : decode cX6_canon 42 = .ok (.iload 5, 2) := by decide +kernel
theorem dX6_canon_44 : decode cX6_canon 44 = .ok (.iload_n 3, 1) := by decide +kernel
theorem dX6_canon_45 : decode cX6_canon 45 = .ok (.if_icmp .ge 9, 3) := by decide +kernel
theorem dX6_canon_48 : decode cX6_canon 48 = .ok (.iload 4, 2) := by decide +kernel
theorem dX6_canon_50 : decode cX6_canon 50 = .ok (.istore_n 2, 1) := by decide +kernel
theorem dX6_canon_51 : decode cX6_canon 51 = .ok (.iload 5, 2) := by decide +kernel
theorem dX6_canon_53 : decode cX6_canon 53 = .ok (.istore_n 3, 1) := by decide +kernel
theorem dX6_canon_54 : decode cX6_canon 54 = .ok (.iinc 4 1, 3) := by decide +kernel
theorem dX6_canon_57 : decode cX6_canon 57 = .ok (.goto (-35), 3) := by decide +kernel
theorem dX6_canon_60 : decode cX6_canon 60 = .ok (.iload_n 1, 1) := by decide +kernel
theorem dX6_canon_61 : decode cX6_canon 61 = .ok (.ifCond .ne 7, 3) := by decide +kernel
theorem dX6_canon_64 : decode cX6_canon 64 = .ok (.iload_n 2, 1) := by decide +kernel
theorem dX6_canon_65 : decode cX6_canon 65 = .ok (.goto 4, 3) := by decide +kernel
theorem dX6_canon_68 : decode cX6_canon 68 = .ok (.iload_n 3, 1) := by decide +kernel
theorem dX6_canon_69 : decode cX6_canon 69 = .ok (.ireturn, 1) := by decide +kernel
theorem dX6_ringsInATurn_0 : decode cX6_ringsInATurn 0 = .ok (.iconst 0, 1) := by decide +kernel
theorem dX6_ringsInATurn_1 : decode cX6_ringsInATurn 1 = .ok (.istore_n 2, 1) := by decide +kernel
theorem dX6_ringsInATurn_2 : decode cX6_ringsInATurn 2 = .ok (.iconst 0, 1) := by decide +kernel
theorem dX6_ringsInATurn_3 : decode cX6_ringsInATurn 3 = .ok (.istore_n 3, 1) := by decide +kernel
theorem dX6_ringsInATurn_4 : decode cX6_ringsInATurn 4 = .ok (.iload_n 3, 1) := by decide +kernel
theorem dX6_ringsInATurn_5 : decode cX6_ringsInATurn 5 = .ok (.aload_n 0, 1) := by decide +kernel
theorem dX6_ringsInATurn_6 : decode cX6_ringsInATurn 6 = .ok (.getfield 19, 3) := by decide +kernel
theorem dX6_ringsInATurn_9 : decode cX6_ringsInATurn 9 = .ok (.getfield 147, 3) := by decide +kernel
theorem dX6_ringsInATurn_12 : decode cX6_ringsInATurn 12 = .ok (.if_icmp .ge 23, 3) := by decide +kernel
theorem dX6_ringsInATurn_15 : decode cX6_ringsInATurn 15 = .ok (.iload_n 2, 1) := by decide +kernel
theorem dX6_ringsInATurn_16 : decode cX6_ringsInATurn 16 = .ok (.aload_n 1, 1) := by decide +kernel
theorem dX6_ringsInATurn_17 : decode cX6_ringsInATurn 17 = .ok (.aload_n 0, 1) := by decide +kernel
theorem dX6_ringsInATurn_18 : decode cX6_ringsInATurn 18 = .ok (.getfield 19, 3) := by decide +kernel
theorem dX6_ringsInATurn_21 : decode cX6_ringsInATurn 21 = .ok (.invokevirtual 157, 3) := by decide +kernel
theorem dX6_ringsInATurn_24 : decode cX6_ringsInATurn 24 = .ok (.invokestatic 163, 3) := by decide +kernel
theorem dX6_ringsInATurn_27 : decode cX6_ringsInATurn 27 = .ok (.iadd, 1) := by decide +kernel
theorem dX6_ringsInATurn_28 : decode cX6_ringsInATurn 28 = .ok (.istore_n 2, 1) := by decide +kernel
theorem dX6_ringsInATurn_29 : decode cX6_ringsInATurn 29 = .ok (.iinc 3 1, 3) := by decide +kernel
theorem dX6_ringsInATurn_32 : decode cX6_ringsInATurn 32 = .ok (.goto (-28), 3) := by decide +kernel
theorem dX6_ringsInATurn_35 : decode cX6_ringsInATurn 35 = .ok (.iload_n 2, 1) := by decide +kernel
theorem dX6_ringsInATurn_36 : decode cX6_ringsInATurn 36 = .ok (.ireturn, 1) := by decide +kernel
theorem dX6_allPins_0 : decode cX6_allPins 0 = .ok (.iconst 0, 1) := by decide +kernel
theorem dX6_allPins_1 : decode cX6_allPins 1 = .ok (.istore_n 1, 1) := by decide +kernel
theorem dX6_allPins_2 : decode cX6_allPins 2 = .ok (.iconst 0, 1) := by decide +kernel
theorem dX6_allPins_3 : decode cX6_allPins 3 = .ok (.istore_n 2, 1) := by decide +kernel
theorem dX6_allPins_4 : decode cX6_allPins 4 = .ok (.iload_n 2, 1) := by decide +kernel
theorem dX6_allPins_5 : decode cX6_allPins 5 = .ok (.aload_n 0, 1) := by decide +kernel
theorem dX6_allPins_6 : decode cX6_allPins 6 = .ok (.getfield 19, 3) := by decide +kernel
theorem dX6_allPins_9 : decode cX6_allPins 9 = .ok (.getfield 147, 3) := by decide +kernel
theorem dX6_allPins_12 : decode cX6_allPins 12 = .ok (.if_icmp .ge 24, 3) := by decide +kernel
theorem dX6_allPins_15 : decode cX6_allPins 15 = .ok (.iload_n 1, 1) := by decide +kernel
theorem dX6_allPins_16 : decode cX6_allPins 16 = .ok (.aload_n 0, 1) := by decide +kernel
theorem dX6_allPins_17 : decode cX6_allPins 17 = .ok (.getfield 29, 3) := by decide +kernel
theorem dX6_allPins_20 : decode cX6_allPins 20 = .ok (.getfield 127, 3) := by decide +kernel
theorem dX6_allPins_23 : decode cX6_allPins 23 = .ok (.iload_n 2, 1) := by decide +kernel
theorem dX6_allPins_24 : decode cX6_allPins 24 = .ok (.iaload, 1) := by decide +kernel
theorem dX6_allPins_25 : decode cX6_allPins 25 = .ok (.invokestatic 163, 3) := by decide +kernel
theorem dX6_allPins_28 : decode cX6_allPins 28 = .ok (.iadd, 1) := by decide +kernel
theorem dX6_allPins_29 : decode cX6_allPins 29 = .ok (.istore_n 1, 1) := by decide +kernel
theorem dX6_allPins_30 : decode cX6_allPins 30 = .ok (.iinc 2 1, 3) := by decide +kernel
theorem dX6_allPins_33 : decode cX6_allPins 33 = .ok (.goto (-29), 3) := by decide +kernel
theorem dX6_allPins_36 : decode cX6_allPins 36 = .ok (.iload_n 1, 1) := by decide +kernel
theorem dX6_allPins_37 : decode cX6_allPins 37 = .ok (.ireturn, 1) := by decide +kernel
theorem dX6_comesAgainAfter_0 : decode cX6_comesAgainAfter 0 = .ok (.iconst 0, 1) := by decide +kernel
theorem dX6_comesAgainAfter_1 : decode cX6_comesAgainAfter 1 = .ok (.istore_n 2, 1) := by decide +kernel
theorem dX6_comesAgainAfter_2 : decode cX6_comesAgainAfter 2 = .ok (.iload_n 2, 1) := by decide +kernel
theorem dX6_comesAgainAfter_3 : decode cX6_comesAgainAfter 3 = .ok (.aload_n 0, 1) := by decide +kernel
theorem dX6_comesAgainAfter_4 : decode cX6_comesAgainAfter 4 = .ok (.getfield 19, 3) := by decide +kernel
theorem dX6_comesAgainAfter_7 : decode cX6_comesAgainAfter 7 = .ok (.getfield 147, 3) := by decide +kernel
theorem dX6_comesAgainAfter_10 : decode cX6_comesAgainAfter 10 = .ok (.if_icmp .ge 40, 3) := by decide +kernel
theorem dX6_comesAgainAfter_13 : decode cX6_comesAgainAfter 13 = .ok (.aload_n 0, 1) := by decide +kernel
theorem dX6_comesAgainAfter_14 : decode cX6_comesAgainAfter 14 = .ok (.getfield 29, 3) := by decide +kernel
theorem dX6_comesAgainAfter_17 : decode cX6_comesAgainAfter 17 = .ok (.getfield 127, 3) := by decide +kernel
theorem dX6_comesAgainAfter_20 : decode cX6_comesAgainAfter 20 = .ok (.iload_n 2, 1) := by decide +kernel
theorem dX6_comesAgainAfter_21 : decode cX6_comesAgainAfter 21 = .ok (.iaload, 1) := by decide +kernel
theorem dX6_comesAgainAfter_22 : decode cX6_comesAgainAfter 22 = .ok (.aload_n 0, 1) := by decide +kernel
theorem dX6_comesAgainAfter_23 : decode cX6_comesAgainAfter 23 = .ok (.getfield 29, 3) := by decide +kernel
theorem dX6_comesAgainAfter_26 : decode cX6_comesAgainAfter 26 = .ok (.getfield 127, 3) := by decide +kernel
theorem dX6_comesAgainAfter_29 : decode cX6_comesAgainAfter 29 = .ok (.aload_n 0, 1) := by decide +kernel
theorem dX6_comesAgainAfter_30 : decode cX6_comesAgainAfter 30 = .ok (.getfield 19, 3) := by decide +kernel
theorem dX6_comesAgainAfter_33 : decode cX6_comesAgainAfter 33 = .ok (.iload_n 2, 1) := by decide +kernel
theorem dX6_comesAgainAfter_34 : decode cX6_comesAgainAfter 34 = .ok (.iload_n 1, 1) := by decide +kernel
theorem dX6_comesAgainAfter_35 : decode cX6_comesAgainAfter 35 = .ok (.invokevirtual 168, 3) := by decide +kernel
theorem dX6_comesAgainAfter_38 : decode cX6_comesAgainAfter 38 = .ok (.iaload, 1) := by decide +kernel
theorem dX6_comesAgainAfter_39 : decode cX6_comesAgainAfter 39 = .ok (.if_icmp .eq 5, 3) := by decide +kernel
theorem dX6_comesAgainAfter_42 : decode cX6_comesAgainAfter 42 = .ok (.iconst 0, 1) := by decide +kernel
theorem dX6_comesAgainAfter_43 : decode cX6_comesAgainAfter 43 = .ok (.ireturn, 1) := by decide +kernel
theorem dX6_comesAgainAfter_44 : decode cX6_comesAgainAfter 44 = .ok (.iinc 2 1, 3) := by decide +kernel
theorem dX6_comesAgainAfter_47 : decode cX6_comesAgainAfter 47 = .ok (.goto (-45), 3) := by decide +kernel
theorem dX6_comesAgainAfter_50 : decode cX6_comesAgainAfter 50 = .ok (.iconst 1, 1) := by decide +kernel
theorem dX6_comesAgainAfter_51 : decode cX6_comesAgainAfter 51 = .ok (.ireturn, 1) := by decide +kernel
theorem dX6_illTwos_0 : decode cX6_illTwos 0 = .ok (.iconst 0, 1) := by decide +kernel
theorem dX6_illTwos_1 : decode cX6_illTwos 1 = .ok (.istore_n 2, 1) := by decide +kernel
theorem dX6_illTwos_2 : decode cX6_illTwos 2 = .ok (.iconst 0, 1) := by decide +kernel
theorem dX6_illTwos_3 : decode cX6_illTwos 3 = .ok (.istore_n 3, 1) := by decide +kernel
theorem dX6_illTwos_4 : decode cX6_illTwos 4 = .ok (.iload_n 3, 1) := by decide +kernel
theorem dX6_illTwos_5 : decode cX6_illTwos 5 = .ok (.aload_n 0, 1) := by decide +kernel
theorem dX6_illTwos_6 : decode cX6_illTwos 6 = .ok (.getfield 19, 3) := by decide +kernel
theorem dX6_illTwos_9 : decode cX6_illTwos 9 = .ok (.getfield 147, 3) := by decide +kernel
theorem dX6_illTwos_12 : decode cX6_illTwos 12 = .ok (.if_icmp .ge 91, 3) := by decide +kernel
theorem dX6_illTwos_15 : decode cX6_illTwos 15 = .ok (.aload_n 0, 1) := by decide +kernel
theorem dX6_illTwos_16 : decode cX6_illTwos 16 = .ok (.getfield 29, 3) := by decide +kernel
theorem dX6_illTwos_19 : decode cX6_illTwos 19 = .ok (.getfield 127, 3) := by decide +kernel
theorem dX6_illTwos_22 : decode cX6_illTwos 22 = .ok (.aload_n 0, 1) := by decide +kernel
theorem dX6_illTwos_23 : decode cX6_illTwos 23 = .ok (.getfield 19, 3) := by decide +kernel
theorem dX6_illTwos_26 : decode cX6_illTwos 26 = .ok (.iload_n 3, 1) := by decide +kernel
theorem dX6_illTwos_27 : decode cX6_illTwos 27 = .ok (.iload_n 1, 1) := by decide +kernel
theorem dX6_illTwos_28 : decode cX6_illTwos 28 = .ok (.invokevirtual 168, 3) := by decide +kernel
theorem dX6_illTwos_31 : decode cX6_illTwos 31 = .ok (.iaload, 1) := by decide +kernel
theorem dX6_illTwos_32 : decode cX6_illTwos 32 = .ok (.istore 4, 2) := by decide +kernel
theorem dX6_illTwos_34 : decode cX6_illTwos 34 = .ok (.iconst 0, 1) := by decide +kernel
theorem dX6_illTwos_35 : decode cX6_illTwos 35 = .ok (.istore 5, 2) := by decide +kernel
theorem dX6_illTwos_37 : decode cX6_illTwos 37 = .ok (.iload 5, 2) := by decide +kernel
theorem dX6_illTwos_39 : decode cX6_illTwos 39 = .ok (.aload_n 0, 1) := by decide +kernel
theorem dX6_illTwos_40 : decode cX6_illTwos 40 = .ok (.getfield 19, 3) := by decide +kernel
theorem dX6_illTwos_43 : decode cX6_illTwos 43 = .ok (.getfield 144, 3) := by decide +kernel
theorem dX6_illTwos_46 : decode cX6_illTwos 46 = .ok (.if_icmp .ge 51, 3) := by decide +kernel
theorem dX6_illTwos_49 : decode cX6_illTwos 49 = .ok (.iload 4, 2) := by decide +kernel
theorem dX6_illTwos_51 : decode cX6_illTwos 51 = .ok (.ifCond .eq 46, 3) := by decide +kernel
theorem dX6_illTwos_54 : decode cX6_illTwos 54 = .ok (.aload_n 0, 1) := by decide +kernel
theorem dX6_illTwos_55 : decode cX6_illTwos 55 = .ok (.getfield 29, 3) := by decide +kernel
theorem dX6_illTwos_58 : decode cX6_illTwos 58 = .ok (.getfield 127, 3) := by decide +kernel
theorem dX6_illTwos_61 : decode cX6_illTwos 61 = .ok (.iload_n 3, 1) := by decide +kernel
theorem dX6_illTwos_62 : decode cX6_illTwos 62 = .ok (.iaload, 1) := by decide +kernel
theorem dX6_illTwos_63 : decode cX6_illTwos 63 = .ok (.iload 5, 2) := by decide +kernel
theorem dX6_illTwos_65 : decode cX6_illTwos 65 = .ok (.ishr, 1) := by decide +kernel
theorem dX6_illTwos_66 : decode cX6_illTwos 66 = .ok (.iconst 1, 1) := by decide +kernel
theorem dX6_illTwos_67 : decode cX6_illTwos 67 = .ok (.iand, 1) := by decide +kernel
theorem dX6_illTwos_68 : decode cX6_illTwos 68 = .ok (.iconst 1, 1) := by decide +kernel
theorem dX6_illTwos_69 : decode cX6_illTwos 69 = .ok (.if_icmp .ne 22, 3) := by decide +kernel
theorem dX6_illTwos_72 : decode cX6_illTwos 72 = .ok (.iload_n 2, 1) := by decide +kernel
theorem dX6_illTwos_73 : decode cX6_illTwos 73 = .ok (.aload_n 0, 1) := by decide +kernel
theorem dX6_illTwos_74 : decode cX6_illTwos 74 = .ok (.getfield 19, 3) := by decide +kernel
theorem dX6_illTwos_77 : decode cX6_illTwos 77 = .ok (.getfield 209, 3) := by decide +kernel
theorem dX6_illTwos_80 : decode cX6_illTwos 80 = .ok (.iload 5, 2) := by decide +kernel
theorem dX6_illTwos_82 : decode cX6_illTwos 82 = .ok (.iaload, 1) := by decide +kernel
theorem dX6_illTwos_83 : decode cX6_illTwos 83 = .ok (.iload 4, 2) := by decide +kernel
theorem dX6_illTwos_85 : decode cX6_illTwos 85 = .ok (.iand, 1) := by decide +kernel
theorem dX6_illTwos_86 : decode cX6_illTwos 86 = .ok (.invokestatic 163, 3) := by decide +kernel
theorem dX6_illTwos_89 : decode cX6_illTwos 89 = .ok (.iadd, 1) := by decide +kernel
theorem dX6_illTwos_90 : decode cX6_illTwos 90 = .ok (.istore_n 2, 1) := by decide +kernel
theorem dX6_illTwos_91 : decode cX6_illTwos 91 = .ok (.iinc 5 1, 3) := by decide +kernel
theorem dX6_illTwos_94 : decode cX6_illTwos 94 = .ok (.goto (-57), 3) := by decide +kernel
theorem dX6_illTwos_97 : decode cX6_illTwos 97 = .ok (.iinc 3 1, 3) := by decide +kernel
theorem dX6_illTwos_100 : decode cX6_illTwos 100 = .ok (.goto (-96), 3) := by decide +kernel
theorem dX6_illTwos_103 : decode cX6_illTwos 103 = .ok (.iload_n 2, 1) := by decide +kernel
theorem dX6_illTwos_104 : decode cX6_illTwos 104 = .ok (.ireturn, 1) := by decide +kernel
theorem dX6_want_0 : decode cX6_want 0 = .ok (.aload_n 0, 1) := by decide +kernel
theorem dX6_want_1 : decode cX6_want 1 = .ok (.iload_n 1, 1) := by decide +kernel
theorem dX6_want_2 : decode cX6_want 2 = .ok (.invokevirtual 124, 3) := by decide +kernel
theorem dX6_want_5 : decode cX6_want 5 = .ok (.ifCond .eq 11, 3) := by decide +kernel
theorem dX6_want_8 : decode cX6_want 8 = .ok (.aload_n 0, 1) := by decide +kernel
theorem dX6_want_9 : decode cX6_want 9 = .ok (.iload_n 2, 1) := by decide +kernel
theorem dX6_want_10 : decode cX6_want 10 = .ok (.invokevirtual 212, 3) := by decide +kernel
theorem dX6_want_13 : decode cX6_want 13 = .ok (.ifCond .ne 5, 3) := by decide +kernel
theorem dX6_want_16 : decode cX6_want 16 = .ok (.iconst (-1), 1) := by decide +kernel
theorem dX6_want_17 : decode cX6_want 17 = .ok (.ireturn, 1) := by decide +kernel
theorem dX6_want_18 : decode cX6_want 18 = .ok (.aload_n 0, 1) := by decide +kernel
theorem dX6_want_19 : decode cX6_want 19 = .ok (.getfield 48, 3) := by decide +kernel
theorem dX6_want_22 : decode cX6_want 22 = .ok (.iload_n 1, 1) := by decide +kernel
theorem dX6_want_23 : decode cX6_want 23 = .ok (.iaload, 1) := by decide +kernel
theorem dX6_want_24 : decode cX6_want 24 = .ok (.istore_n 3, 1) := by decide +kernel
theorem dX6_want_25 : decode cX6_want 25 = .ok (.aload_n 0, 1) := by decide +kernel
theorem dX6_want_26 : decode cX6_want 26 = .ok (.getfield 48, 3) := by decide +kernel
theorem dX6_want_29 : decode cX6_want 29 = .ok (.iload_n 1, 1) := by decide +kernel
theorem dX6_want_30 : decode cX6_want 30 = .ok (.iload_n 2, 1) := by decide +kernel
theorem dX6_want_31 : decode cX6_want 31 = .ok (.iastore, 1) := by decide +kernel
theorem dX6_want_32 : decode cX6_want 32 = .ok (.iload_n 3, 1) := by decide +kernel
theorem dX6_want_33 : decode cX6_want 33 = .ok (.ireturn, 1) := by decide +kernel
theorem dX6_changes_0 : decode cX6_changes 0 = .ok (.iload_n 1, 1) := by decide +kernel
theorem dX6_changes_1 : decode cX6_changes 1 = .ok (.ifCond .lt 8, 3) := by decide +kernel
theorem dX6_changes_4 : decode cX6_changes 4 = .ok (.iload_n 1, 1) := by decide +kernel
theorem dX6_changes_5 : decode cX6_changes 5 = .ok (.iconst 1, 1) := by decide +kernel
theorem dX6_changes_6 : decode cX6_changes 6 = .ok (.if_icmp .le 5, 3) := by decide +kernel
theorem dX6_changes_9 : decode cX6_changes 9 = .ok (.iconst (-1), 1) := by decide +kernel
theorem dX6_changes_10 : decode cX6_changes 10 = .ok (.ireturn, 1) := by decide +kernel
theorem dX6_changes_11 : decode cX6_changes 11 = .ok (.iconst 0, 1) := by decide +kernel
theorem dX6_changes_12 : decode cX6_changes 12 = .ok (.istore_n 2, 1) := by decide +kernel
theorem dX6_changes_13 : decode cX6_changes 13 = .ok (.aload_n 0, 1) := by decide +kernel
theorem dX6_changes_14 : decode cX6_changes 14 = .ok (.iconst 0, 1) := by decide +kernel
theorem dX6_changes_15 : decode cX6_changes 15 = .ok (.invokevirtual 215, 3) := by decide +kernel
theorem dX6_changes_18 : decode cX6_changes 18 = .ok (.istore_n 3, 1) := by decide +kernel
theorem dX6_changes_19 : decode cX6_changes 19 = .ok (.iconst 1, 1) := by decide +kernel
theorem dX6_changes_20 : decode cX6_changes 20 = .ok (.istore 4, 2) := by decide +kernel
theorem dX6_changes_22 : decode cX6_changes 22 = .ok (.iload 4, 2) := by decide +kernel
theorem dX6_changes_24 : decode cX6_changes 24 = .ok (.aload_n 0, 1) := by decide +kernel
theorem dX6_changes_25 : decode cX6_changes 25 = .ok (.getfield 19, 3) := by decide +kernel
theorem dX6_changes_28 : decode cX6_changes 28 = .ok (.getfield 147, 3) := by decide +kernel
theorem dX6_changes_31 : decode cX6_changes 31 = .ok (.if_icmp .ge 29, 3) := by decide +kernel
theorem dX6_changes_34 : decode cX6_changes 34 = .ok (.aload_n 0, 1) := by decide +kernel
theorem dX6_changes_35 : decode cX6_changes 35 = .ok (.iload 4, 2) := by decide +kernel
theorem dX6_changes_37 : decode cX6_changes 37 = .ok (.invokevirtual 215, 3) := by decide +kernel
theorem dX6_changes_40 : decode cX6_changes 40 = .ok (.istore 5, 2) := by decide +kernel
theorem dX6_changes_42 : decode cX6_changes 42 = .ok (.iload 5, 2) := by decide +kernel
theorem dX6_changes_44 : decode cX6_changes 44 = .ok (.iload_n 3, 1) := by decide +kernel
theorem dX6_changes_45 : decode cX6_changes 45 = .ok (.if_icmp .ge 9, 3) := by decide +kernel
theorem dX6_changes_48 : decode cX6_changes 48 = .ok (.iload 4, 2) := by decide +kernel
theorem dX6_changes_50 : decode cX6_changes 50 = .ok (.istore_n 2, 1) := by decide +kernel
theorem dX6_changes_51 : decode cX6_changes 51 = .ok (.iload 5, 2) := by decide +kernel
theorem dX6_changes_53 : decode cX6_changes 53 = .ok (.istore_n 3, 1) := by decide +kernel
theorem dX6_changes_54 : decode cX6_changes 54 = .ok (.iinc 4 1, 3) := by decide +kernel
theorem dX6_changes_57 : decode cX6_changes 57 = .ok (.goto (-35), 3) := by decide +kernel
theorem dX6_changes_60 : decode cX6_changes 60 = .ok (.iload_n 1, 1) := by decide +kernel
theorem dX6_changes_61 : decode cX6_changes 61 = .ok (.ifCond .ne 7, 3) := by decide +kernel
theorem dX6_changes_64 : decode cX6_changes 64 = .ok (.iload_n 3, 1) := by decide +kernel
theorem dX6_changes_65 : decode cX6_changes 65 = .ok (.goto 4, 3) := by decide +kernel
theorem dX6_changes_68 : decode cX6_changes 68 = .ok (.iload_n 2, 1) := by decide +kernel
theorem dX6_changes_69 : decode cX6_changes 69 = .ok (.ireturn, 1) := by decide +kernel
theorem dX6_letters_0 : decode cX6_letters 0 = .ok (.aload_n 0, 1) := by decide +kernel
theorem dX6_letters_1 : decode cX6_letters 1 = .ok (.getfield 58, 3) := by decide +kernel
theorem dX6_letters_4 : decode cX6_letters 4 = .ok (.aload_n 0, 1) := by decide +kernel
theorem dX6_letters_5 : decode cX6_letters 5 = .ok (.getfield 29, 3) := by decide +kernel
theorem dX6_letters_8 : decode cX6_letters 8 = .ok (.getfield 127, 3) := by decide +kernel
theorem dX6_letters_11 : decode cX6_letters 11 = .ok (.aload_n 0, 1) := by decide +kernel
theorem dX6_letters_12 : decode cX6_letters 12 = .ok (.getfield 19, 3) := by decide +kernel
theorem dX6_letters_15 : decode cX6_letters 15 = .ok (.getfield 147, 3) := by decide +kernel
theorem dX6_letters_18 : decode cX6_letters 18 = .ok (.invokevirtual 218, 3) := by decide +kernel
theorem dX6_letters_21 : decode cX6_letters 21 = .ok (.ireturn, 1) := by decide +kernel
theorem dX6_ringers_0 : decode cX6_ringers 0 = .ok (.aload_n 0, 1) := by decide +kernel
theorem dX6_ringers_1 : decode cX6_ringers 1 = .ok (.getfield 65, 3) := by decide +kernel
theorem dX6_ringers_4 : decode cX6_ringers 4 = .ok (.aload_n 0, 1) := by decide +kernel
theorem dX6_ringers_5 : decode cX6_ringers 5 = .ok (.getfield 29, 3) := by decide +kernel
theorem dX6_ringers_8 : decode cX6_ringers 8 = .ok (.getfield 127, 3) := by decide +kernel
theorem dX6_ringers_11 : decode cX6_ringers 11 = .ok (.aload_n 0, 1) := by decide +kernel
theorem dX6_ringers_12 : decode cX6_ringers 12 = .ok (.getfield 19, 3) := by decide +kernel
theorem dX6_ringers_15 : decode cX6_ringers 15 = .ok (.invokevirtual 222, 3) := by decide +kernel
theorem dX6_ringers_18 : decode cX6_ringers 18 = .ok (.ireturn, 1) := by decide +kernel
theorem dX6_changesIfShifted_0 : decode cX6_changesIfShifted 0 = .ok (.iconst 0, 1) := by decide +kernel
theorem dX6_changesIfShifted_1 : decode cX6_changesIfShifted 1 = .ok (.istore_n 2, 1) := by decide +kernel
theorem dX6_changesIfShifted_2 : decode cX6_changesIfShifted 2 = .ok (.iconst 0, 1) := by decide +kernel
theorem dX6_changesIfShifted_3 : decode cX6_changesIfShifted 3 = .ok (.istore_n 3, 1) := by decide +kernel
theorem dX6_changesIfShifted_4 : decode cX6_changesIfShifted 4 = .ok (.iload_n 3, 1) := by decide +kernel
theorem dX6_changesIfShifted_5 : decode cX6_changesIfShifted 5 = .ok (.aload_n 0, 1) := by decide +kernel
theorem dX6_changesIfShifted_6 : decode cX6_changesIfShifted 6 = .ok (.getfield 19, 3) := by decide +kernel
theorem dX6_changesIfShifted_9 : decode cX6_changesIfShifted 9 = .ok (.getfield 147, 3) := by decide +kernel
theorem dX6_changesIfShifted_12 : decode cX6_changesIfShifted 12 = .ok (.if_icmp .ge 39, 3) := by decide +kernel
theorem dX6_changesIfShifted_15 : decode cX6_changesIfShifted 15 = .ok (.iload_n 2, 1) := by decide +kernel
theorem dX6_changesIfShifted_16 : decode cX6_changesIfShifted 16 = .ok (.aload_n 0, 1) := by decide +kernel
theorem dX6_changesIfShifted_17 : decode cX6_changesIfShifted 17 = .ok (.getfield 29, 3) := by decide +kernel
theorem dX6_changesIfShifted_20 : decode cX6_changesIfShifted 20 = .ok (.getfield 127, 3) := by decide +kernel
theorem dX6_changesIfShifted_23 : decode cX6_changesIfShifted 23 = .ok (.iload_n 3, 1) := by decide +kernel
theorem dX6_changesIfShifted_24 : decode cX6_changesIfShifted 24 = .ok (.iaload, 1) := by decide +kernel
theorem dX6_changesIfShifted_25 : decode cX6_changesIfShifted 25 = .ok (.aload_n 0, 1) := by decide +kernel
theorem dX6_changesIfShifted_26 : decode cX6_changesIfShifted 26 = .ok (.getfield 48, 3) := by decide +kernel
theorem dX6_changesIfShifted_29 : decode cX6_changesIfShifted 29 = .ok (.aload_n 0, 1) := by decide +kernel
theorem dX6_changesIfShifted_30 : decode cX6_changesIfShifted 30 = .ok (.getfield 19, 3) := by decide +kernel
theorem dX6_changesIfShifted_33 : decode cX6_changesIfShifted 33 = .ok (.iload_n 3, 1) := by decide +kernel
theorem dX6_changesIfShifted_34 : decode cX6_changesIfShifted 34 = .ok (.iload_n 1, 1) := by decide +kernel
theorem dX6_changesIfShifted_35 : decode cX6_changesIfShifted 35 = .ok (.invokevirtual 168, 3) := by decide +kernel
theorem dX6_changesIfShifted_38 : decode cX6_changesIfShifted 38 = .ok (.iaload, 1) := by decide +kernel
theorem dX6_changesIfShifted_39 : decode cX6_changesIfShifted 39 = .ok (.ixor, 1) := by decide +kernel
theorem dX6_changesIfShifted_40 : decode cX6_changesIfShifted 40 = .ok (.invokestatic 163, 3) := by decide +kernel
theorem dX6_changesIfShifted_43 : decode cX6_changesIfShifted 43 = .ok (.iadd, 1) := by decide +kernel
theorem dX6_changesIfShifted_44 : decode cX6_changesIfShifted 44 = .ok (.istore_n 2, 1) := by decide +kernel
theorem dX6_changesIfShifted_45 : decode cX6_changesIfShifted 45 = .ok (.iinc 3 1, 3) := by decide +kernel
theorem dX6_changesIfShifted_48 : decode cX6_changesIfShifted 48 = .ok (.goto (-44), 3) := by decide +kernel
theorem dX6_changesIfShifted_51 : decode cX6_changesIfShifted 51 = .ok (.iload_n 2, 1) := by decide +kernel
theorem dX6_changesIfShifted_52 : decode cX6_changesIfShifted 52 = .ok (.ireturn, 1) := by decide +kernel
theorem dX6_hear_0 : decode cX6_hear 0 = .ok (.aload_n 0, 1) := by decide +kernel
theorem dX6_hear_1 : decode cX6_hear 1 = .ok (.iload_n 1, 1) := by decide +kernel
theorem dX6_hear_2 : decode cX6_hear 2 = .ok (.invokevirtual 212, 3) := by decide +kernel
theorem dX6_hear_5 : decode cX6_hear 5 = .ok (.ifCond .ne 5, 3) := by decide +kernel
theorem dX6_hear_8 : decode cX6_hear 8 = .ok (.iconst (-1), 1) := by decide +kernel
theorem dX6_hear_9 : decode cX6_hear 9 = .ok (.ireturn, 1) := by decide +kernel
theorem dX6_hear_10 : decode cX6_hear 10 = .ok (.aload_n 0, 1) := by decide +kernel
theorem dX6_hear_11 : decode cX6_hear 11 = .ok (.getfield 140, 3) := by decide +kernel
theorem dX6_hear_14 : decode cX6_hear 14 = .ok (.bipush 8, 2) := by decide +kernel
theorem dX6_hear_16 : decode cX6_hear 16 = .ok (.if_icmp .lt 6, 3) := by decide +kernel
theorem dX6_hear_19 : decode cX6_hear 19 = .ok (.bipush (-3), 2) := by decide +kernel
theorem dX6_hear_21 : decode cX6_hear 21 = .ok (.ireturn, 1) := by decide +kernel
theorem dX6_hear_22 : decode cX6_hear 22 = .ok (.aload_n 0, 1) := by decide +kernel
theorem dX6_hear_23 : decode cX6_hear 23 = .ok (.getfield 52, 3) := by decide +kernel
theorem dX6_hear_26 : decode cX6_hear 26 = .ok (.aload_n 0, 1) := by decide +kernel
theorem dX6_hear_27 : decode cX6_hear 27 = .ok (.getfield 140, 3) := by decide +kernel
theorem dX6_hear_30 : decode cX6_hear 30 = .ok (.iload_n 1, 1) := by decide +kernel
theorem dX6_hear_31 : decode cX6_hear 31 = .ok (.iastore, 1) := by decide +kernel
theorem dX6_hear_32 : decode cX6_hear 32 = .ok (.aload_n 0, 1) := by decide +kernel
theorem dX6_hear_33 : decode cX6_hear 33 = .ok (.dup, 1) := by decide +kernel
theorem dX6_hear_34 : decode cX6_hear 34 = .ok (.getfield 140, 3) := by decide +kernel
theorem dX6_hear_37 : decode cX6_hear 37 = .ok (.iconst 1, 1) := by decide +kernel
theorem dX6_hear_38 : decode cX6_hear 38 = .ok (.iadd, 1) := by decide +kernel
theorem dX6_hear_39 : decode cX6_hear 39 = .ok (.putfield 140, 3) := by decide +kernel
theorem dX6_hear_42 : decode cX6_hear 42 = .ok (.aload_n 0, 1) := by decide +kernel
theorem dX6_hear_43 : decode cX6_hear 43 = .ok (.getfield 140, 3) := by decide +kernel
theorem dX6_hear_46 : decode cX6_hear 46 = .ok (.ireturn, 1) := by decide +kernel
theorem dX6_forget_0 : decode cX6_forget 0 = .ok (.aload_n 0, 1) := by decide +kernel
theorem dX6_forget_1 : decode cX6_forget 1 = .ok (.getfield 140, 3) := by decide +kernel
theorem dX6_forget_4 : decode cX6_forget 4 = .ok (.istore_n 1, 1) := by decide +kernel
theorem dX6_forget_5 : decode cX6_forget 5 = .ok (.aload_n 0, 1) := by decide +kernel
theorem dX6_forget_6 : decode cX6_forget 6 = .ok (.iconst 0, 1) := by decide +kernel
theorem dX6_forget_7 : decode cX6_forget 7 = .ok (.putfield 140, 3) := by decide +kernel
theorem dX6_forget_10 : decode cX6_forget 10 = .ok (.iload_n 1, 1) := by decide +kernel
theorem dX6_forget_11 : decode cX6_forget 11 = .ok (.ireturn, 1) := by decide +kernel
theorem dX6_stood_0 : decode cX6_stood 0 = .ok (.iconst 0, 1) := by decide +kernel
theorem dX6_stood_1 : decode cX6_stood 1 = .ok (.istore_n 1, 1) := by decide +kernel
theorem dX6_stood_2 : decode cX6_stood 2 = .ok (.iconst 0, 1) := by decide +kernel
theorem dX6_stood_3 : decode cX6_stood 3 = .ok (.istore_n 2, 1) := by decide +kernel
theorem dX6_stood_4 : decode cX6_stood 4 = .ok (.iload_n 2, 1) := by decide +kernel
theorem dX6_stood_5 : decode cX6_stood 5 = .ok (.aload_n 0, 1) := by decide +kernel
theorem dX6_stood_6 : decode cX6_stood 6 = .ok (.getfield 19, 3) := by decide +kernel
theorem dX6_stood_9 : decode cX6_stood 9 = .ok (.getfield 147, 3) := by decide +kernel
theorem dX6_stood_12 : decode cX6_stood 12 = .ok (.if_icmp .ge 23, 3) := by decide +kernel
theorem dX6_stood_15 : decode cX6_stood 15 = .ok (.aload_n 0, 1) := by decide +kernel
theorem dX6_stood_16 : decode cX6_stood 16 = .ok (.iload_n 2, 1) := by decide +kernel
theorem dX6_stood_17 : decode cX6_stood 17 = .ok (.invokevirtual 226, 3) := by decide +kernel
theorem dX6_stood_20 : decode cX6_stood 20 = .ok (.ifCond .eq 9, 3) := by decide +kernel
theorem dX6_stood_23 : decode cX6_stood 23 = .ok (.iload_n 1, 1) := by decide +kernel
theorem dX6_stood_24 : decode cX6_stood 24 = .ok (.iconst 1, 1) := by decide +kernel
theorem dX6_stood_25 : decode cX6_stood 25 = .ok (.iload_n 2, 1) := by decide +kernel
theorem dX6_stood_26 : decode cX6_stood 26 = .ok (.ishl, 1) := by decide +kernel
theorem dX6_stood_27 : decode cX6_stood 27 = .ok (.ior, 1) := by decide +kernel
theorem dX6_stood_28 : decode cX6_stood 28 = .ok (.istore_n 1, 1) := by decide +kernel
theorem dX6_stood_29 : decode cX6_stood 29 = .ok (.iinc 2 1, 3) := by decide +kernel
theorem dX6_stood_32 : decode cX6_stood 32 = .ok (.goto (-28), 3) := by decide +kernel
theorem dX6_stood_35 : decode cX6_stood 35 = .ok (.iload_n 1, 1) := by decide +kernel
theorem dX6_stood_36 : decode cX6_stood 36 = .ok (.ireturn, 1) := by decide +kernel
theorem dX6_octaves_0 : decode cX6_octaves 0 = .ok (.iconst 0, 1) := by decide +kernel
theorem dX6_octaves_1 : decode cX6_octaves 1 = .ok (.istore_n 1, 1) := by decide +kernel
theorem dX6_octaves_2 : decode cX6_octaves 2 = .ok (.iconst 0, 1) := by decide +kernel
theorem dX6_octaves_3 : decode cX6_octaves 3 = .ok (.istore_n 2, 1) := by decide +kernel
theorem dX6_octaves_4 : decode cX6_octaves 4 = .ok (.iconst 0, 1) := by decide +kernel
theorem dX6_octaves_5 : decode cX6_octaves 5 = .ok (.istore_n 3, 1) := by decide +kernel
theorem dX6_octaves_6 : decode cX6_octaves 6 = .ok (.iload_n 3, 1) := by decide +kernel
theorem dX6_octaves_7 : decode cX6_octaves 7 = .ok (.aload_n 0, 1) := by decide +kernel
theorem dX6_octaves_8 : decode cX6_octaves 8 = .ok (.getfield 19, 3) := by decide +kernel
theorem dX6_octaves_11 : decode cX6_octaves 11 = .ok (.getfield 144, 3) := by decide +kernel
theorem dX6_octaves_14 : decode cX6_octaves 14 = .ok (.if_icmp .ge 37, 3) := by decide +kernel
theorem dX6_octaves_17 : decode cX6_octaves 17 = .ok (.iconst 1, 1) := by decide +kernel
theorem dX6_octaves_18 : decode cX6_octaves 18 = .ok (.aload_n 0, 1) := by decide +kernel
theorem dX6_octaves_19 : decode cX6_octaves 19 = .ok (.getfield 19, 3) := by decide +kernel
theorem dX6_octaves_22 : decode cX6_octaves 22 = .ok (.getfield 108, 3) := by decide +kernel
theorem dX6_octaves_25 : decode cX6_octaves 25 = .ok (.iload_n 3, 1) := by decide +kernel
theorem dX6_octaves_26 : decode cX6_octaves 26 = .ok (.iaload, 1) := by decide +kernel
theorem dX6_octaves_27 : decode cX6_octaves 27 = .ok (.bipush 12, 2) := by decide +kernel
theorem dX6_octaves_29 : decode cX6_octaves 29 = .ok (.irem, 1) := by decide +kernel
theorem dX6_octaves_30 : decode cX6_octaves 30 = .ok (.ishl, 1) := by decide +kernel
theorem dX6_octaves_31 : decode cX6_octaves 31 = .ok (.istore 4, 2) := by decide +kernel
theorem dX6_octaves_33 : decode cX6_octaves 33 = .ok (.iload_n 2, 1) := by decide +kernel
theorem dX6_octaves_34 : decode cX6_octaves 34 = .ok (.iload_n 1, 1) := by decide +kernel
theorem dX6_octaves_35 : decode cX6_octaves 35 = .ok (.iload 4, 2) := by decide +kernel
theorem dX6_octaves_37 : decode cX6_octaves 37 = .ok (.iand, 1) := by decide +kernel
theorem dX6_octaves_38 : decode cX6_octaves 38 = .ok (.ior, 1) := by decide +kernel
theorem dX6_octaves_39 : decode cX6_octaves 39 = .ok (.istore_n 2, 1) := by decide +kernel
theorem dX6_octaves_40 : decode cX6_octaves 40 = .ok (.iload_n 1, 1) := by decide +kernel
theorem dX6_octaves_41 : decode cX6_octaves 41 = .ok (.iload 4, 2) := by decide +kernel
theorem dX6_octaves_43 : decode cX6_octaves 43 = .ok (.ior, 1) := by decide +kernel
theorem dX6_octaves_44 : decode cX6_octaves 44 = .ok (.istore_n 1, 1) := by decide +kernel
theorem dX6_octaves_45 : decode cX6_octaves 45 = .ok (.iinc 3 1, 3) := by decide +kernel
theorem dX6_octaves_48 : decode cX6_octaves 48 = .ok (.goto (-42), 3) := by decide +kernel
theorem dX6_octaves_51 : decode cX6_octaves 51 = .ok (.iload_n 2, 1) := by decide +kernel
theorem dX6_octaves_52 : decode cX6_octaves 52 = .ok (.invokestatic 163, 3) := by decide +kernel
theorem dX6_octaves_55 : decode cX6_octaves 55 = .ok (.ireturn, 1) := by decide +kernel
theorem dX6_melody_0 : decode cX6_melody 0 = .ok (.iload_n 1, 1) := by decide +kernel
theorem dX6_melody_1 : decode cX6_melody 1 = .ok (.ifCond .lt 8, 3) := by decide +kernel
theorem dX6_melody_4 : decode cX6_melody 4 = .ok (.iload_n 1, 1) := by decide +kernel
theorem dX6_melody_5 : decode cX6_melody 5 = .ok (.iconst 2, 1) := by decide +kernel
theorem dX6_melody_6 : decode cX6_melody 6 = .ok (.if_icmp .le 5, 3) := by decide +kernel
theorem dX6_melody_9 : decode cX6_melody 9 = .ok (.iconst (-1), 1) := by decide +kernel
theorem dX6_melody_10 : decode cX6_melody 10 = .ok (.ireturn, 1) := by decide +kernel
theorem dX6_melody_11 : decode cX6_melody 11 = .ok (.iconst 0, 1) := by decide +kernel
theorem dX6_melody_12 : decode cX6_melody 12 = .ok (.istore_n 2, 1) := by decide +kernel
theorem dX6_melody_13 : decode cX6_melody 13 = .ok (.iconst 0, 1) := by decide +kernel
theorem dX6_melody_14 : decode cX6_melody 14 = .ok (.istore_n 3, 1) := by decide +kernel
theorem dX6_melody_15 : decode cX6_melody 15 = .ok (.iconst 0, 1) := by decide +kernel
theorem dX6_melody_16 : decode cX6_melody 16 = .ok (.istore 4, 2) := by decide +kernel
theorem dX6_melody_18 : decode cX6_melody 18 = .ok (.bipush (-4), 2) := by decide +kernel
theorem dX6_melody_20 : decode cX6_melody 20 = .ok (.istore 5, 2) := by decide +kernel
theorem dX6_melody_22 : decode cX6_melody 22 = .ok (.iconst 0, 1) := by decide +kernel
theorem dX6_melody_23 : decode cX6_melody 23 = .ok (.istore 6, 2) := by decide +kernel
theorem dX6_melody_25 : decode cX6_melody 25 = .ok (.iload 6, 2) := by decide +kernel
theorem dX6_melody_27 : decode cX6_melody 27 = .ok (.aload_n 0, 1) := by decide +kernel
theorem dX6_melody_28 : decode cX6_melody 28 = .ok (.getfield 19, 3) := by decide +kernel
theorem dX6_melody_31 : decode cX6_melody 31 = .ok (.getfield 147, 3) := by decide +kernel
theorem dX6_melody_34 : decode cX6_melody 34 = .ok (.if_icmp .ge 103, 3) := by decide +kernel
theorem dX6_melody_37 : decode cX6_melody 37 = .ok (.aload_n 0, 1) := by decide +kernel
theorem dX6_melody_38 : decode cX6_melody 38 = .ok (.getfield 19, 3) := by decide +kernel
theorem dX6_melody_41 : decode cX6_melody 41 = .ok (.aload_n 0, 1) := by decide +kernel
theorem dX6_melody_42 : decode cX6_melody 42 = .ok (.getfield 29, 3) := by decide +kernel
theorem dX6_melody_45 : decode cX6_melody 45 = .ok (.getfield 127, 3) := by decide +kernel
theorem dX6_melody_48 : decode cX6_melody 48 = .ok (.iload 6, 2) := by decide +kernel
theorem dX6_melody_50 : decode cX6_melody 50 = .ok (.iaload, 1) := by decide +kernel
theorem dX6_melody_51 : decode cX6_melody 51 = .ok (.invokevirtual 229, 3) := by decide +kernel
theorem dX6_melody_54 : decode cX6_melody 54 = .ok (.istore 7, 2) := by decide +kernel
theorem dX6_melody_56 : decode cX6_melody 56 = .ok (.iload 7, 2) := by decide +kernel
theorem dX6_melody_58 : decode cX6_melody 58 = .ok (.bipush (-4), 2) := by decide +kernel
theorem dX6_melody_60 : decode cX6_melody 60 = .ok (.if_icmp .eq 55, 3) := by decide +kernel
theorem dX6_melody_63 : decode cX6_melody 63 = .ok (.iload 5, 2) := by decide +kernel
theorem dX6_melody_65 : decode cX6_melody 65 = .ok (.bipush (-4), 2) := by decide +kernel
theorem dX6_melody_67 : decode cX6_melody 67 = .ok (.if_icmp .eq 48, 3) := by decide +kernel
theorem dX6_melody_70 : decode cX6_melody 70 = .ok (.iload_n 2, 1) := by decide +kernel
theorem dX6_melody_71 : decode cX6_melody 71 = .ok (.iload 7, 2) := by decide +kernel
theorem dX6_melody_73 : decode cX6_melody 73 = .ok (.iload 5, 2) := by decide +kernel
theorem dX6_melody_75 : decode cX6_melody 75 = .ok (.if_icmp .le 7, 3) := by decide +kernel
theorem dX6_melody_78 : decode cX6_melody 78 = .ok (.iconst 1, 1) := by decide +kernel
theorem dX6_melody_79 : decode cX6_melody 79 = .ok (.goto 4, 3) := by decide +kernel
theorem dX6_melody_82 : decode cX6_melody 82 = .ok (.iconst 0, 1) := by decide +kernel
theorem dX6_melody_83 : decode cX6_melody 83 = .ok (.iadd, 1) := by decide +kernel
theorem dX6_melody_84 : decode cX6_melody 84 = .ok (.istore_n 2, 1) := by decide +kernel
theorem dX6_melody_85 : decode cX6_melody 85 = .ok (.iload_n 3, 1) := by decide +kernel
theorem dX6_melody_86 : decode cX6_melody 86 = .ok (.iload 7, 2) := by decide +kernel
theorem dX6_melody_88 : decode cX6_melody 88 = .ok (.iload 5, 2) := by decide +kernel
theorem dX6_melody_90 : decode cX6_melody 90 = .ok (.if_icmp .ge 7, 3) := by decide +kernel
theorem dX6_melody_93 : decode cX6_melody 93 = .ok (.iconst 1, 1) := by decide +kernel
theorem dX6_melody_94 : decode cX6_melody 94 = .ok (.goto 4, 3) := by decide +kernel
theorem dX6_melody_97 : decode cX6_melody 97 = .ok (.iconst 0, 1) := by decide +kernel
theorem dX6_melody_98 : decode cX6_melody 98 = .ok (.iadd, 1) := by decide +kernel
theorem dX6_melody_99 : decode cX6_melody 99 = .ok (.istore_n 3, 1) := by decide +kernel
theorem dX6_melody_100 : decode cX6_melody 100 = .ok (.iload 4, 2) := by decide +kernel
theorem dX6_melody_102 : decode cX6_melody 102 = .ok (.iload 7, 2) := by decide +kernel
theorem dX6_melody_104 : decode cX6_melody 104 = .ok (.iload 5, 2) := by decide +kernel
theorem dX6_melody_106 : decode cX6_melody 106 = .ok (.isub, 1) := by decide +kernel
theorem dX6_melody_107 : decode cX6_melody 107 = .ok (.invokestatic 232, 3) := by decide +kernel
theorem dX6_melody_110 : decode cX6_melody 110 = .ok (.invokestatic 195, 3) := by decide +kernel
theorem dX6_melody_113 : decode cX6_melody 113 = .ok (.istore 4, 2) := by decide +kernel
theorem dX6_melody_115 : decode cX6_melody 115 = .ok (.iload 7, 2) := by decide +kernel
theorem dX6_melody_117 : decode cX6_melody 117 = .ok (.bipush (-4), 2) := by decide +kernel
theorem dX6_melody_119 : decode cX6_melody 119 = .ok (.if_icmp .eq 8, 3) := by decide +kernel
theorem dX6_melody_122 : decode cX6_melody 122 = .ok (.iload 7, 2) := by decide +kernel
theorem dX6_melody_124 : decode cX6_melody 124 = .ok (.goto 5, 3) := by decide +kernel
theorem dX6_melody_127 : decode cX6_melody 127 = .ok (.iload 5, 2) := by decide +kernel
theorem dX6_melody_129 : decode cX6_melody 129 = .ok (.istore 5, 2) := by decide +kernel
theorem dX6_melody_131 : decode cX6_melody 131 = .ok (.iinc 6 1, 3) := by decide +kernel
theorem dX6_melody_134 : decode cX6_melody 134 = .ok (.goto (-109), 3) := by decide +kernel
theorem dX6_melody_137 : decode cX6_melody 137 = .ok (.iload_n 1, 1) := by decide +kernel
theorem dX6_melody_138 : decode cX6_melody 138 = .ok (.ifCond .ne 7, 3) := by decide +kernel
theorem dX6_melody_141 : decode cX6_melody 141 = .ok (.iload_n 2, 1) := by decide +kernel
theorem dX6_melody_142 : decode cX6_melody 142 = .ok (.goto 14, 3) := by decide +kernel
theorem dX6_melody_145 : decode cX6_melody 145 = .ok (.iload_n 1, 1) := by decide +kernel
theorem dX6_melody_146 : decode cX6_melody 146 = .ok (.iconst 1, 1) := by decide +kernel
theorem dX6_melody_147 : decode cX6_melody 147 = .ok (.if_icmp .ne 7, 3) := by decide +kernel
theorem dX6_melody_150 : decode cX6_melody 150 = .ok (.iload_n 3, 1) := by decide +kernel
theorem dX6_melody_151 : decode cX6_melody 151 = .ok (.goto 5, 3) := by decide +kernel
theorem dX6_melody_154 : decode cX6_melody 154 = .ok (.iload 4, 2) := by decide +kernel
theorem dX6_melody_156 : decode cX6_melody 156 = .ok (.ireturn, 1) := by decide +kernel
theorem dX6_winter_0 : decode cX6_winter 0 = .ok (.iload_n 1, 1) := by decide +kernel
theorem dX6_winter_1 : decode cX6_winter 1 = .ok (.ifCond .lt 30, 3) := by decide +kernel
theorem dX6_winter_4 : decode cX6_winter 4 = .ok (.iload_n 1, 1) := by decide +kernel
theorem dX6_winter_5 : decode cX6_winter 5 = .ok (.sipush 9999, 3) := by decide +kernel
theorem dX6_winter_8 : decode cX6_winter 8 = .ok (.if_icmp .gt 23, 3) := by decide +kernel
theorem dX6_winter_11 : decode cX6_winter 11 = .ok (.iload_n 2, 1) := by decide +kernel
theorem dX6_winter_12 : decode cX6_winter 12 = .ok (.iconst 1, 1) := by decide +kernel
theorem dX6_winter_13 : decode cX6_winter 13 = .ok (.if_icmp .lt 18, 3) := by decide +kernel
theorem dX6_winter_16 : decode cX6_winter 16 = .ok (.iload_n 2, 1) := by decide +kernel
theorem dX6_winter_17 : decode cX6_winter 17 = .ok (.bipush 60, 2) := by decide +kernel
theorem dX6_winter_19 : decode cX6_winter 19 = .ok (.if_icmp .gt 12, 3) := by decide +kernel
theorem dX6_winter_22 : decode cX6_winter 22 = .ok (.iload_n 3, 1) := by decide +kernel
theorem dX6_winter_23 : decode cX6_winter 23 = .ok (.ifCond .lt 8, 3) := by decide +kernel
theorem dX6_winter_26 : decode cX6_winter 26 = .ok (.iload_n 3, 1) := by decide +kernel
theorem dX6_winter_27 : decode cX6_winter 27 = .ok (.iconst 1, 1) := by decide +kernel
theorem dX6_winter_28 : decode cX6_winter 28 = .ok (.if_icmp .le 5, 3) := by decide +kernel
theorem dX6_winter_31 : decode cX6_winter 31 = .ok (.iconst (-1), 1) := by decide +kernel
theorem dX6_winter_32 : decode cX6_winter 32 = .ok (.ireturn, 1) := by decide +kernel
theorem dX6_winter_33 : decode cX6_winter 33 = .ok (.aload_n 0, 1) := by decide +kernel
theorem dX6_winter_34 : decode cX6_winter 34 = .ok (.getfield 33, 3) := by decide +kernel
theorem dX6_winter_37 : decode cX6_winter 37 = .ok (.aload_n 0, 1) := by decide +kernel
theorem dX6_winter_38 : decode cX6_winter 38 = .ok (.getfield 29, 3) := by decide +kernel
theorem dX6_winter_41 : decode cX6_winter 41 = .ok (.invokevirtual 185, 3) := by decide +kernel
theorem dX6_winter_44 : decode cX6_winter 44 = .ok (.iconst 0, 1) := by decide +kernel
theorem dX6_winter_45 : decode cX6_winter 45 = .ok (.istore 4, 2) := by decide +kernel
theorem dX6_winter_47 : decode cX6_winter 47 = .ok (.iload 4, 2) := by decide +kernel
theorem dX6_winter_49 : decode cX6_winter 49 = .ok (.iload_n 2, 1) := by decide +kernel
theorem dX6_winter_50 : decode cX6_winter 50 = .ok (.if_icmp .ge 50, 3) := by decide +kernel
theorem dX6_winter_53 : decode cX6_winter 53 = .ok (.aload_n 0, 1) := by decide +kernel
theorem dX6_winter_54 : decode cX6_winter 54 = .ok (.getfield 19, 3) := by decide +kernel
theorem dX6_winter_57 : decode cX6_winter 57 = .ok (.iconst 0, 1) := by decide +kernel
theorem dX6_winter_58 : decode cX6_winter 58 = .ok (.iload_n 1, 1) := by decide +kernel
theorem dX6_winter_59 : decode cX6_winter 59 = .ok (.iload 4, 2) := by decide +kernel
theorem dX6_winter_61 : decode cX6_winter 61 = .ok (.invokestatic 235, 3) := by decide +kernel
theorem dX6_winter_64 : decode cX6_winter 64 = .ok (.invokevirtual 168, 3) := by decide +kernel
theorem dX6_winter_67 : decode cX6_winter 67 = .ok (.istore 5, 2) := by decide +kernel
theorem dX6_winter_69 : decode cX6_winter 69 = .ok (.aload_n 0, 1) := by decide +kernel
theorem dX6_winter_70 : decode cX6_winter 70 = .ok (.getfield 33, 3) := by decide +kernel
theorem dX6_winter_73 : decode cX6_winter 73 = .ok (.getfield 127, 3) := by decide +kernel
theorem dX6_winter_76 : decode cX6_winter 76 = .ok (.iload 5, 2) := by decide +kernel
theorem dX6_winter_78 : decode cX6_winter 78 = .ok (.dup2, 1) := by decide +kernel
theorem dX6_winter_79 : decode cX6_winter 79 = .ok (.iaload, 1) := by decide +kernel
theorem dX6_winter_80 : decode cX6_winter 80 = .ok (.aload_n 0, 1) := by decide +kernel
theorem dX6_winter_81 : decode cX6_winter 81 = .ok (.getfield 33, 3) := by decide +kernel
theorem dX6_winter_84 : decode cX6_winter 84 = .ok (.getfield 127, 3) := by decide +kernel
theorem dX6_winter_87 : decode cX6_winter 87 = .ok (.iload 5, 2) := by decide +kernel
theorem dX6_winter_89 : decode cX6_winter 89 = .ok (.iaload, 1) := by decide +kernel
theorem dX6_winter_90 : decode cX6_winter 90 = .ok (.iconst 1, 1) := by decide +kernel
theorem dX6_winter_91 : decode cX6_winter 91 = .ok (.isub, 1) := by decide +kernel
theorem dX6_winter_92 : decode cX6_winter 92 = .ok (.iand, 1) := by decide +kernel
theorem dX6_winter_93 : decode cX6_winter 93 = .ok (.iastore, 1) := by decide +kernel
theorem dX6_winter_94 : decode cX6_winter 94 = .ok (.iinc 4 1, 3) := by decide +kernel
theorem dX6_winter_97 : decode cX6_winter 97 = .ok (.goto (-50), 3) := by decide +kernel
theorem dX6_winter_100 : decode cX6_winter 100 = .ok (.iconst 0, 1) := by decide +kernel
theorem dX6_winter_101 : decode cX6_winter 101 = .ok (.istore 4, 2) := by decide +kernel
theorem dX6_winter_103 : decode cX6_winter 103 = .ok (.iconst 0, 1) := by decide +kernel
theorem dX6_winter_104 : decode cX6_winter 104 = .ok (.istore 5, 2) := by decide +kernel
theorem dX6_winter_106 : decode cX6_winter 106 = .ok (.iconst 0, 1) := by decide +kernel
theorem dX6_winter_107 : decode cX6_winter 107 = .ok (.istore 6, 2) := by decide +kernel
theorem dX6_winter_109 : decode cX6_winter 109 = .ok (.iload 6, 2) := by decide +kernel
theorem dX6_winter_111 : decode cX6_winter 111 = .ok (.aload_n 0, 1) := by decide +kernel
theorem dX6_winter_112 : decode cX6_winter 112 = .ok (.getfield 19, 3) := by decide +kernel
theorem dX6_winter_115 : decode cX6_winter 115 = .ok (.getfield 147, 3) := by decide +kernel
theorem dX6_winter_118 : decode cX6_winter 118 = .ok (.if_icmp .ge 50, 3) := by decide +kernel
theorem dX6_winter_121 : decode cX6_winter 121 = .ok (.iload 4, 2) := by decide +kernel
theorem dX6_winter_123 : decode cX6_winter 123 = .ok (.aload_n 0, 1) := by decide +kernel
theorem dX6_winter_124 : decode cX6_winter 124 = .ok (.getfield 33, 3) := by decide +kernel
theorem dX6_winter_127 : decode cX6_winter 127 = .ok (.getfield 127, 3) := by decide +kernel
theorem dX6_winter_130 : decode cX6_winter 130 = .ok (.iload 6, 2) := by decide +kernel
theorem dX6_winter_132 : decode cX6_winter 132 = .ok (.iaload, 1) := by decide +kernel
theorem dX6_winter_133 : decode cX6_winter 133 = .ok (.invokestatic 163, 3) := by decide +kernel
theorem dX6_winter_136 : decode cX6_winter 136 = .ok (.iadd, 1) := by decide +kernel
theorem dX6_winter_137 : decode cX6_winter 137 = .ok (.istore 4, 2) := by decide +kernel
theorem dX6_winter_139 : decode cX6_winter 139 = .ok (.iload 5, 2) := by decide +kernel
theorem dX6_winter_141 : decode cX6_winter 141 = .ok (.aload_n 0, 1) := by decide +kernel
theorem dX6_winter_142 : decode cX6_winter 142 = .ok (.getfield 33, 3) := by decide +kernel
theorem dX6_winter_145 : decode cX6_winter 145 = .ok (.getfield 127, 3) := by decide +kernel
theorem dX6_winter_148 : decode cX6_winter 148 = .ok (.iload 6, 2) := by decide +kernel
theorem dX6_winter_150 : decode cX6_winter 150 = .ok (.iaload, 1) := by decide +kernel
theorem dX6_winter_151 : decode cX6_winter 151 = .ok (.ifCond .ne 7, 3) := by decide +kernel
theorem dX6_winter_154 : decode cX6_winter 154 = .ok (.iconst 1, 1) := by decide +kernel
theorem dX6_winter_155 : decode cX6_winter 155 = .ok (.goto 4, 3) := by decide +kernel
theorem dX6_winter_158 : decode cX6_winter 158 = .ok (.iconst 0, 1) := by decide +kernel
theorem dX6_winter_159 : decode cX6_winter 159 = .ok (.iadd, 1) := by decide +kernel
theorem dX6_winter_160 : decode cX6_winter 160 = .ok (.istore 5, 2) := by decide +kernel
theorem dX6_winter_162 : decode cX6_winter 162 = .ok (.iinc 6 1, 3) := by decide +kernel
theorem dX6_winter_165 : decode cX6_winter 165 = .ok (.goto (-56), 3) := by decide +kernel
theorem dX6_winter_168 : decode cX6_winter 168 = .ok (.iload_n 3, 1) := by decide +kernel
theorem dX6_winter_169 : decode cX6_winter 169 = .ok (.ifCond .ne 8, 3) := by decide +kernel
theorem dX6_winter_172 : decode cX6_winter 172 = .ok (.iload 4, 2) := by decide +kernel
theorem dX6_winter_174 : decode cX6_winter 174 = .ok (.goto 5, 3) := by decide +kernel
theorem dX6_winter_177 : decode cX6_winter 177 = .ok (.iload 5, 2) := by decide +kernel
theorem dX6_winter_179 : decode cX6_winter 179 = .ok (.ireturn, 1) := by decide +kernel
theorem dX6_keep_0 : decode cX6_keep 0 = .ok (.aload_n 0, 1) := by decide +kernel
theorem dX6_keep_1 : decode cX6_keep 1 = .ok (.getfield 45, 3) := by decide +kernel
theorem dX6_keep_4 : decode cX6_keep 4 = .ok (.getfield 182, 3) := by decide +kernel
theorem dX6_keep_7 : decode cX6_keep 7 = .ok (.iconst 2, 1) := by decide +kernel
theorem dX6_keep_8 : decode cX6_keep 8 = .ok (.if_icmp .lt 6, 3) := by decide +kernel
theorem dX6_keep_11 : decode cX6_keep 11 = .ok (.bipush (-3), 2) := by decide +kernel
theorem dX6_keep_13 : decode cX6_keep 13 = .ok (.ireturn, 1) := by decide +kernel
theorem dX6_keep_14 : decode cX6_keep 14 = .ok (.aload_n 0, 1) := by decide +kernel
theorem dX6_keep_15 : decode cX6_keep 15 = .ok (.getfield 45, 3) := by decide +kernel
theorem dX6_keep_18 : decode cX6_keep 18 = .ok (.aload_n 0, 1) := by decide +kernel
theorem dX6_keep_19 : decode cX6_keep 19 = .ok (.getfield 29, 3) := by decide +kernel
theorem dX6_keep_22 : decode cX6_keep 22 = .ok (.invokevirtual 153, 3) := by decide +kernel
theorem dX6_keep_25 : decode cX6_keep 25 = .ok (.aload_n 0, 1) := by decide +kernel
theorem dX6_keep_26 : decode cX6_keep 26 = .ok (.getfield 45, 3) := by decide +kernel
theorem dX6_keep_29 : decode cX6_keep 29 = .ok (.getfield 182, 3) := by decide +kernel
theorem dX6_keep_32 : decode cX6_keep 32 = .ok (.ireturn, 1) := by decide +kernel
theorem dX6_back_0 : decode cX6_back 0 = .ok (.aload_n 0, 1) := by decide +kernel
theorem dX6_back_1 : decode cX6_back 1 = .ok (.getfield 45, 3) := by decide +kernel
theorem dX6_back_4 : decode cX6_back 4 = .ok (.aload_n 0, 1) := by decide +kernel
theorem dX6_back_5 : decode cX6_back 5 = .ok (.getfield 29, 3) := by decide +kernel
theorem dX6_back_8 : decode cX6_back 8 = .ok (.invokevirtual 178, 3) := by decide +kernel
theorem dX6_back_11 : decode cX6_back 11 = .ok (.ifCond .ne 6, 3) := by decide +kernel
theorem dX6_back_14 : decode cX6_back 14 = .ok (.bipush (-2), 2) := by decide +kernel
theorem dX6_back_16 : decode cX6_back 16 = .ok (.ireturn, 1) := by decide +kernel
theorem dX6_back_17 : decode cX6_back 17 = .ok (.aload_n 0, 1) := by decide +kernel
theorem dX6_back_18 : decode cX6_back 18 = .ok (.getfield 41, 3) := by decide +kernel
theorem dX6_back_21 : decode cX6_back 21 = .ok (.invokevirtual 143, 3) := by decide +kernel
theorem dX6_back_24 : decode cX6_back 24 = .ok (.aload_n 0, 1) := by decide +kernel
theorem dX6_back_25 : decode cX6_back 25 = .ok (.getfield 45, 3) := by decide +kernel
theorem dX6_back_28 : decode cX6_back 28 = .ok (.getfield 182, 3) := by decide +kernel
theorem dX6_back_31 : decode cX6_back 31 = .ok (.ireturn, 1) := by decide +kernel
theorem dX6_count_0 : decode cX6_count 0 = .ok (.iload_n 1, 1) := by decide +kernel
theorem dX6_count_1 : decode cX6_count 1 = .ok (.tableswitch 129 0 9 #[55, 63, 71, 79, 84, 92, 100, 105, 113, 121], 55) := by decide +kernel
theorem dX6_count_56 : decode cX6_count 56 = .ok (.aload_n 0, 1) := by decide +kernel
theorem dX6_count_57 : decode cX6_count 57 = .ok (.getfield 19, 3) := by decide +kernel
theorem dX6_count_60 : decode cX6_count 60 = .ok (.getfield 144, 3) := by decide +kernel
theorem dX6_count_63 : decode cX6_count 63 = .ok (.ireturn, 1) := by decide +kernel
theorem dX6_count_64 : decode cX6_count 64 = .ok (.aload_n 0, 1) := by decide +kernel
theorem dX6_count_65 : decode cX6_count 65 = .ok (.getfield 19, 3) := by decide +kernel
theorem dX6_count_68 : decode cX6_count 68 = .ok (.getfield 147, 3) := by decide +kernel
theorem dX6_count_71 : decode cX6_count 71 = .ok (.ireturn, 1) := by decide +kernel
theorem dX6_count_72 : decode cX6_count 72 = .ok (.aload_n 0, 1) := by decide +kernel
theorem dX6_count_73 : decode cX6_count 73 = .ok (.getfield 19, 3) := by decide +kernel
theorem dX6_count_76 : decode cX6_count 76 = .ok (.getfield 238, 3) := by decide +kernel
theorem dX6_count_79 : decode cX6_count 79 = .ok (.ireturn, 1) := by decide +kernel
theorem dX6_count_80 : decode cX6_count 80 = .ok (.aload_n 0, 1) := by decide +kernel
theorem dX6_count_81 : decode cX6_count 81 = .ok (.invokevirtual 192, 3) := by decide +kernel
theorem dX6_count_84 : decode cX6_count 84 = .ok (.ireturn, 1) := by decide +kernel
theorem dX6_count_85 : decode cX6_count 85 = .ok (.aload_n 0, 1) := by decide +kernel
theorem dX6_count_86 : decode cX6_count 86 = .ok (.getfield 29, 3) := by decide +kernel
theorem dX6_count_89 : decode cX6_count 89 = .ok (.getfield 241, 3) := by decide +kernel
theorem dX6_count_92 : decode cX6_count 92 = .ok (.ireturn, 1) := by decide +kernel
theorem dX6_count_93 : decode cX6_count 93 = .ok (.aload_n 0, 1) := by decide +kernel
theorem dX6_count_94 : decode cX6_count 94 = .ok (.getfield 29, 3) := by decide +kernel
theorem dX6_count_97 : decode cX6_count 97 = .ok (.getfield 244, 3) := by decide +kernel
theorem dX6_count_100 : decode cX6_count 100 = .ok (.ireturn, 1) := by decide +kernel
theorem dX6_count_101 : decode cX6_count 101 = .ok (.aload_n 0, 1) := by decide +kernel
theorem dX6_count_102 : decode cX6_count 102 = .ok (.getfield 140, 3) := by decide +kernel
theorem dX6_count_105 : decode cX6_count 105 = .ok (.ireturn, 1) := by decide +kernel
theorem dX6_count_106 : decode cX6_count 106 = .ok (.aload_n 0, 1) := by decide +kernel
theorem dX6_count_107 : decode cX6_count 107 = .ok (.getfield 41, 3) := by decide +kernel
theorem dX6_count_110 : decode cX6_count 110 = .ok (.getfield 182, 3) := by decide +kernel
theorem dX6_count_113 : decode cX6_count 113 = .ok (.ireturn, 1) := by decide +kernel
theorem dX6_count_114 : decode cX6_count 114 = .ok (.aload_n 0, 1) := by decide +kernel
theorem dX6_count_115 : decode cX6_count 115 = .ok (.getfield 45, 3) := by decide +kernel
theorem dX6_count_118 : decode cX6_count 118 = .ok (.getfield 182, 3) := by decide +kernel
theorem dX6_count_121 : decode cX6_count 121 = .ok (.ireturn, 1) := by decide +kernel
theorem dX6_count_122 : decode cX6_count 122 = .ok (.aload_n 0, 1) := by decide +kernel
theorem dX6_count_123 : decode cX6_count 123 = .ok (.getfield 10, 3) := by decide +kernel
theorem dX6_count_126 : decode cX6_count 126 = .ok (.getfield 95, 3) := by decide +kernel
theorem dX6_count_129 : decode cX6_count 129 = .ok (.ireturn, 1) := by decide +kernel
theorem dX6_count_130 : decode cX6_count 130 = .ok (.iconst (-1), 1) := by decide +kernel
theorem dX6_count_131 : decode cX6_count 131 = .ok (.ireturn, 1) := by decide +kernel
theorem dX6_isHeardFrom_0 : decode cX6_isHeardFrom 0 = .ok (.iconst 0, 1) := by decide +kernel
theorem dX6_isHeardFrom_1 : decode cX6_isHeardFrom 1 = .ok (.istore_n 2, 1) := by decide +kernel
theorem dX6_isHeardFrom_2 : decode cX6_isHeardFrom 2 = .ok (.iload_n 2, 1) := by decide +kernel
theorem dX6_isHeardFrom_3 : decode cX6_isHeardFrom 3 = .ok (.aload_n 0, 1) := by decide +kernel
theorem dX6_isHeardFrom_4 : decode cX6_isHeardFrom 4 = .ok (.getfield 140, 3) := by decide +kernel
theorem dX6_isHeardFrom_7 : decode cX6_isHeardFrom 7 = .ok (.if_icmp .ge 37, 3) := by decide +kernel
theorem dX6_isHeardFrom_10 : decode cX6_isHeardFrom 10 = .ok (.aload_n 0, 1) := by decide +kernel
theorem dX6_isHeardFrom_11 : decode cX6_isHeardFrom 11 = .ok (.getfield 29, 3) := by decide +kernel
theorem dX6_isHeardFrom_14 : decode cX6_isHeardFrom 14 = .ok (.getfield 127, 3) := by decide +kernel
theorem dX6_isHeardFrom_17 : decode cX6_isHeardFrom 17 = .ok (.aload_n 0, 1) := by decide +kernel
theorem dX6_isHeardFrom_18 : decode cX6_isHeardFrom 18 = .ok (.getfield 19, 3) := by decide +kernel
theorem dX6_isHeardFrom_21 : decode cX6_isHeardFrom 21 = .ok (.iload_n 1, 1) := by decide +kernel
theorem dX6_isHeardFrom_22 : decode cX6_isHeardFrom 22 = .ok (.iload_n 2, 1) := by decide +kernel
theorem dX6_isHeardFrom_23 : decode cX6_isHeardFrom 23 = .ok (.invokevirtual 168, 3) := by decide +kernel
theorem dX6_isHeardFrom_26 : decode cX6_isHeardFrom 26 = .ok (.iaload, 1) := by decide +kernel
theorem dX6_isHeardFrom_27 : decode cX6_isHeardFrom 27 = .ok (.aload_n 0, 1) := by decide +kernel
theorem dX6_isHeardFrom_28 : decode cX6_isHeardFrom 28 = .ok (.getfield 52, 3) := by decide +kernel
theorem dX6_isHeardFrom_31 : decode cX6_isHeardFrom 31 = .ok (.iload_n 2, 1) := by decide +kernel
theorem dX6_isHeardFrom_32 : decode cX6_isHeardFrom 32 = .ok (.iaload, 1) := by decide +kernel
theorem dX6_isHeardFrom_33 : decode cX6_isHeardFrom 33 = .ok (.if_icmp .eq 5, 3) := by decide +kernel
theorem dX6_isHeardFrom_36 : decode cX6_isHeardFrom 36 = .ok (.iconst 0, 1) := by decide +kernel
theorem dX6_isHeardFrom_37 : decode cX6_isHeardFrom 37 = .ok (.ireturn, 1) := by decide +kernel
theorem dX6_isHeardFrom_38 : decode cX6_isHeardFrom 38 = .ok (.iinc 2 1, 3) := by decide +kernel
theorem dX6_isHeardFrom_41 : decode cX6_isHeardFrom 41 = .ok (.goto (-39), 3) := by decide +kernel
theorem dX6_isHeardFrom_44 : decode cX6_isHeardFrom 44 = .ok (.iconst 1, 1) := by decide +kernel
theorem dX6_isHeardFrom_45 : decode cX6_isHeardFrom 45 = .ok (.ireturn, 1) := by decide +kernel
theorem dX6_draw_0 : decode cX6_draw 0 = .ok (.ldc2_w 247, 3) := by decide +kernel
theorem dX6_draw_3 : decode cX6_draw 3 = .ok (.iload_n 0, 1) := by decide +kernel
theorem dX6_draw_4 : decode cX6_draw 4 = .ok (.i2l, 1) := by decide +kernel
theorem dX6_draw_5 : decode cX6_draw 5 = .ok (.lmul, 1) := by decide +kernel
theorem dX6_draw_6 : decode cX6_draw 6 = .ok (.ldc2_w 249, 3) := by decide +kernel
theorem dX6_draw_9 : decode cX6_draw 9 = .ok (.iload_n 1, 1) := by decide +kernel
theorem dX6_draw_10 : decode cX6_draw 10 = .ok (.i2l, 1) := by decide +kernel
theorem dX6_draw_11 : decode cX6_draw 11 = .ok (.lmul, 1) := by decide +kernel
theorem dX6_draw_12 : decode cX6_draw 12 = .ok (.ladd, 1) := by decide +kernel
theorem dX6_draw_13 : decode cX6_draw 13 = .ok (.lconst 1, 1) := by decide +kernel
theorem dX6_draw_14 : decode cX6_draw 14 = .ok (.ladd, 1) := by decide +kernel
theorem dX6_draw_15 : decode cX6_draw 15 = .ok (.lstore_n 2, 1) := by decide +kernel
theorem dX6_draw_16 : decode cX6_draw 16 = .ok (.lload_n 2, 1) := by decide +kernel
theorem dX6_draw_17 : decode cX6_draw 17 = .ok (.lload_n 2, 1) := by decide +kernel
theorem dX6_draw_18 : decode cX6_draw 18 = .ok (.lmul, 1) := by decide +kernel
theorem dX6_draw_19 : decode cX6_draw 19 = .ok (.ldc2_w 251, 3) := by decide +kernel
theorem dX6_draw_22 : decode cX6_draw 22 = .ok (.lrem, 1) := by decide +kernel
theorem dX6_draw_23 : decode cX6_draw 23 = .ok (.ldc2_w 253, 3) := by decide +kernel
theorem dX6_draw_26 : decode cX6_draw 26 = .ok (.ldiv, 1) := by decide +kernel
theorem dX6_draw_27 : decode cX6_draw 27 = .ok (.l2i, 1) := by decide +kernel
theorem dX6_draw_28 : decode cX6_draw 28 = .ok (.ireturn, 1) := by decide +kernel
theorem dL_law_0 : decode cL_law 0 = .ok (.new 7, 3) := by decide +kernel
theorem dL_law_3 : decode cL_law 3 = .ok (.dup, 1) := by decide +kernel
theorem dL_law_4 : decode cL_law 4 = .ok (.invokespecial 9, 3) := by decide +kernel
theorem dL_law_7 : decode cL_law 7 = .ok (.astore_n 1, 1) := by decide +kernel
theorem dL_law_8 : decode cL_law 8 = .ok (.new 10, 3) := by decide +kernel
theorem dL_law_11 : decode cL_law 11 = .ok (.dup, 1) := by decide +kernel
theorem dL_law_12 : decode cL_law 12 = .ok (.invokespecial 12, 3) := by decide +kernel
theorem dL_law_15 : decode cL_law 15 = .ok (.astore_n 2, 1) := by decide +kernel
theorem dL_law_16 : decode cL_law 16 = .ok (.iconst 0, 1) := by decide +kernel
theorem dL_law_17 : decode cL_law 17 = .ok (.istore_n 3, 1) := by decide +kernel
theorem dL_law_18 : decode cL_law 18 = .ok (.iload_n 3, 1) := by decide +kernel
theorem dL_law_19 : decode cL_law 19 = .ok (.aload_n 0, 1) := by decide +kernel
theorem dL_law_20 : decode cL_law 20 = .ok (.arraylength, 1) := by decide +kernel
theorem dL_law_21 : decode cL_law 21 = .ok (.iconst 4, 1) := by decide +kernel
theorem dL_law_22 : decode cL_law 22 = .ok (.isub, 1) := by decide +kernel
theorem dL_law_23 : decode cL_law 23 = .ok (.if_icmp .gt 730, 3) := by decide +kernel
theorem dL_law_26 : decode cL_law 26 = .ok (.aload_n 0, 1) := by decide +kernel
theorem dL_law_27 : decode cL_law 27 = .ok (.iload_n 3, 1) := by decide +kernel
theorem dL_law_28 : decode cL_law 28 = .ok (.iaload, 1) := by decide +kernel
theorem dL_law_29 : decode cL_law 29 = .ok (.bipush 31, 2) := by decide +kernel
theorem dL_law_31 : decode cL_law 31 = .ok (.iand, 1) := by decide +kernel
theorem dL_law_32 : decode cL_law 32 = .ok (.tableswitch 715 0 28 #[132, 155, 168, 181, 194, 227, 250, 263, 276, 335, 358, 371, 394, 407, 420, 433, 456, 489, 512, 525, 538, 561, 574, 587, 600, 623, 666, 679, 692], 132) := by decide +kernel
theorem dL_law_164 : decode cL_law 164 = .ok (.aload_n 1, 1) := by decide +kernel
theorem dL_law_165 : decode cL_law 165 = .ok (.aload_n 0, 1) := by decide +kernel
theorem dL_law_166 : decode cL_law 166 = .ok (.iload_n 3, 1) := by decide +kernel
theorem dL_law_167 : decode cL_law 167 = .ok (.iconst 1, 1) := by decide +kernel
theorem dL_law_168 : decode cL_law 168 = .ok (.iadd, 1) := by decide +kernel
theorem dL_law_169 : decode cL_law 169 = .ok (.iaload, 1) := by decide +kernel
theorem dL_law_170 : decode cL_law 170 = .ok (.invokevirtual 13, 3) := by decide +kernel
theorem dL_law_173 : decode cL_law 173 = .ok (.aload_n 2, 1) := by decide +kernel
theorem dL_law_174 : decode cL_law 174 = .ok (.aload_n 0, 1) := by decide +kernel
theorem dL_law_175 : decode cL_law 175 = .ok (.iload_n 3, 1) := by decide +kernel
theorem dL_law_176 : decode cL_law 176 = .ok (.iconst 1, 1) := by decide +kernel
theorem dL_law_177 : decode cL_law 177 = .ok (.iadd, 1) := by decide +kernel
theorem dL_law_178 : decode cL_law 178 = .ok (.iaload, 1) := by decide +kernel
theorem dL_law_179 : decode cL_law 179 = .ok (.invokevirtual 17, 3) := by decide +kernel
theorem dL_law_182 : decode cL_law 182 = .ok (.if_icmp .eq 565, 3) := by decide +kernel
theorem dL_law_185 : decode cL_law 185 = .ok (.iconst 0, 1) := by decide +kernel
theorem dL_law_186 : decode cL_law 186 = .ok (.ireturn, 1) := by decide +kernel
theorem dL_law_187 : decode cL_law 187 = .ok (.aload_n 1, 1) := by decide +kernel
theorem dL_law_188 : decode cL_law 188 = .ok (.invokevirtual 18, 3) := by decide +kernel
theorem dL_law_191 : decode cL_law 191 = .ok (.aload_n 2, 1) := by decide +kernel
theorem dL_law_192 : decode cL_law 192 = .ok (.invokevirtual 22, 3) := by decide +kernel
theorem dL_law_195 : decode cL_law 195 = .ok (.if_icmp .eq 552, 3) := by decide +kernel
theorem dL_law_198 : decode cL_law 198 = .ok (.iconst 0, 1) := by decide +kernel
theorem dL_law_199 : decode cL_law 199 = .ok (.ireturn, 1) := by decide +kernel
theorem dL_law_200 : decode cL_law 200 = .ok (.aload_n 1, 1) := by decide +kernel
theorem dL_law_201 : decode cL_law 201 = .ok (.invokevirtual 23, 3) := by decide +kernel
theorem dL_law_204 : decode cL_law 204 = .ok (.aload_n 2, 1) := by decide +kernel
theorem dL_law_205 : decode cL_law 205 = .ok (.invokevirtual 26, 3) := by decide +kernel
theorem dL_law_208 : decode cL_law 208 = .ok (.if_icmp .eq 539, 3) := by decide +kernel
theorem dL_law_211 : decode cL_law 211 = .ok (.iconst 0, 1) := by decide +kernel
theorem dL_law_212 : decode cL_law 212 = .ok (.ireturn, 1) := by decide +kernel
theorem dL_law_213 : decode cL_law 213 = .ok (.aload_n 1, 1) := by decide +kernel
theorem dL_law_214 : decode cL_law 214 = .ok (.invokevirtual 27, 3) := by decide +kernel
theorem dL_law_217 : decode cL_law 217 = .ok (.aload_n 2, 1) := by decide +kernel
theorem dL_law_218 : decode cL_law 218 = .ok (.invokevirtual 30, 3) := by decide +kernel
theorem dL_law_221 : decode cL_law 221 = .ok (.if_icmp .eq 526, 3) := by decide +kernel
theorem dL_law_224 : decode cL_law 224 = .ok (.iconst 0, 1) := by decide +kernel
theorem dL_law_225 : decode cL_law 225 = .ok (.ireturn, 1) := by decide +kernel
theorem dL_law_226 : decode cL_law 226 = .ok (.aload_n 1, 1) := by decide +kernel
theorem dL_law_227 : decode cL_law 227 = .ok (.aload_n 0, 1) := by decide +kernel
theorem dL_law_228 : decode cL_law 228 = .ok (.iload_n 3, 1) := by decide +kernel
theorem dL_law_229 : decode cL_law 229 = .ok (.iconst 1, 1) := by decide +kernel
theorem dL_law_230 : decode cL_law 230 = .ok (.iadd, 1) := by decide +kernel
theorem dL_law_231 : decode cL_law 231 = .ok (.iaload, 1) := by decide +kernel
theorem dL_law_232 : decode cL_law 232 = .ok (.aload_n 0, 1) := by decide +kernel
theorem dL_law_233 : decode cL_law 233 = .ok (.iload_n 3, 1) := by decide +kernel
theorem dL_law_234 : decode cL_law 234 = .ok (.iconst 2, 1) := by decide +kernel
theorem dL_law_235 : decode cL_law 235 = .ok (.iadd, 1) := by decide +kernel
theorem dL_law_236 : decode cL_law 236 = .ok (.iaload, 1) := by decide +kernel
theorem dL_law_237 : decode cL_law 237 = .ok (.invokevirtual 31, 3) := by decide +kernel
theorem dL_law_240 : decode cL_law 240 = .ok (.aload_n 2, 1) := by decide +kernel
theorem dL_law_241 : decode cL_law 241 = .ok (.aload_n 0, 1) := by decide +kernel
theorem dL_law_242 : decode cL_law 242 = .ok (.iload_n 3, 1) := by decide +kernel
theorem dL_law_243 : decode cL_law 243 = .ok (.iconst 1, 1) := by decide +kernel
theorem dL_law_244 : decode cL_law 244 = .ok (.iadd, 1) := by decide +kernel
theorem dL_law_245 : decode cL_law 245 = .ok (.iaload, 1) := by decide +kernel
theorem dL_law_246 : decode cL_law 246 = .ok (.aload_n 0, 1) := by decide +kernel
theorem dL_law_247 : decode cL_law 247 = .ok (.iload_n 3, 1) := by decide +kernel
theorem dL_law_248 : decode cL_law 248 = .ok (.iconst 2, 1) := by decide +kernel
theorem dL_law_249 : decode cL_law 249 = .ok (.iadd, 1) := by decide +kernel
theorem dL_law_250 : decode cL_law 250 = .ok (.iaload, 1) := by decide +kernel
theorem dL_law_251 : decode cL_law 251 = .ok (.invokevirtual 35, 3) := by decide +kernel
theorem dL_law_254 : decode cL_law 254 = .ok (.if_icmp .eq 493, 3) := by decide +kernel
theorem dL_law_257 : decode cL_law 257 = .ok (.iconst 0, 1) := by decide +kernel
theorem dL_law_258 : decode cL_law 258 = .ok (.ireturn, 1) := by decide +kernel
theorem dL_law_259 : decode cL_law 259 = .ok (.aload_n 1, 1) := by decide +kernel
theorem dL_law_260 : decode cL_law 260 = .ok (.aload_n 0, 1) := by decide +kernel
theorem dL_law_261 : decode cL_law 261 = .ok (.iload_n 3, 1) := by decide +kernel
theorem dL_law_262 : decode cL_law 262 = .ok (.iconst 1, 1) := by decide +kernel
theorem dL_law_263 : decode cL_law 263 = .ok (.iadd, 1) := by decide +kernel
theorem dL_law_264 : decode cL_law 264 = .ok (.iaload, 1) := by decide +kernel
theorem dL_law_265 : decode cL_law 265 = .ok (.invokevirtual 36, 3) := by decide +kernel
theorem dL_law_268 : decode cL_law 268 = .ok (.aload_n 2, 1) := by decide +kernel
theorem dL_law_269 : decode cL_law 269 = .ok (.aload_n 0, 1) := by decide +kernel
theorem dL_law_270 : decode cL_law 270 = .ok (.iload_n 3, 1) := by decide +kernel
theorem dL_law_271 : decode cL_law 271 = .ok (.iconst 1, 1) := by decide +kernel
theorem dL_law_272 : decode cL_law 272 = .ok (.iadd, 1) := by decide +kernel
theorem dL_law_273 : decode cL_law 273 = .ok (.iaload, 1) := by decide +kernel
theorem dL_law_274 : decode cL_law 274 = .ok (.invokevirtual 39, 3) := by decide +kernel
theorem dL_law_277 : decode cL_law 277 = .ok (.if_icmp .eq 470, 3) := by decide +kernel
theorem dL_law_280 : decode cL_law 280 = .ok (.iconst 0, 1) := by decide +kernel
theorem dL_law_281 : decode cL_law 281 = .ok (.ireturn, 1) := by decide +kernel
theorem dL_law_282 : decode cL_law 282 = .ok (.aload_n 1, 1) := by decide +kernel
theorem dL_law_283 : decode cL_law 283 = .ok (.invokevirtual 40, 3) := by decide +kernel
theorem dL_law_286 : decode cL_law 286 = .ok (.aload_n 2, 1) := by decide +kernel
theorem dL_law_287 : decode cL_law 287 = .ok (.invokevirtual 43, 3) := by decide +kernel
theorem dL_law_290 : decode cL_law 290 = .ok (.if_icmp .eq 457, 3) := by decide +kernel
theorem dL_law_293 : decode cL_law 293 = .ok (.iconst 0, 1) := by decide +kernel
theorem dL_law_294 : decode cL_law 294 = .ok (.ireturn, 1) := by decide +kernel
theorem dL_law_295 : decode cL_law 295 = .ok (.aload_n 1, 1) := by decide +kernel
theorem dL_law_296 : decode cL_law 296 = .ok (.invokevirtual 44, 3) := by decide +kernel
theorem dL_law_299 : decode cL_law 299 = .ok (.aload_n 2, 1) := by decide +kernel
theorem dL_law_300 : decode cL_law 300 = .ok (.invokevirtual 47, 3) := by decide +kernel
theorem dL_law_303 : decode cL_law 303 = .ok (.if_icmp .eq 444, 3) := by decide +kernel
theorem dL_law_306 : decode cL_law 306 = .ok (.iconst 0, 1) := by decide +kernel
theorem dL_law_307 : decode cL_law 307 = .ok (.ireturn, 1) := by decide +kernel
theorem dL_law_308 : decode cL_law 308 = .ok (.aload_n 1, 1) := by decide +kernel
theorem dL_law_309 : decode cL_law 309 = .ok (.aload_n 0, 1) := by decide +kernel
theorem dL_law_310 : decode cL_law 310 = .ok (.iload_n 3, 1) := by decide +kernel
theorem dL_law_311 : decode cL_law 311 = .ok (.iconst 1, 1) := by decide +kernel
theorem dL_law_312 : decode cL_law 312 = .ok (.iadd, 1) := by decide +kernel
theorem dL_law_313 : decode cL_law 313 = .ok (.iaload, 1) := by decide +kernel
theorem dL_law_314 : decode cL_law 314 = .ok (.aload_n 0, 1) := by decide +kernel
theorem dL_law_315 : decode cL_law 315 = .ok (.iload_n 3, 1) := by decide +kernel
theorem dL_law_316 : decode cL_law 316 = .ok (.iconst 2, 1) := by decide +kernel
theorem dL_law_317 : decode cL_law 317 = .ok (.iadd, 1) := by decide +kernel
theorem dL_law_318 : decode cL_law 318 = .ok (.iaload, 1) := by decide +kernel
theorem dL_law_319 : decode cL_law 319 = .ok (.aload_n 0, 1) := by decide +kernel
theorem dL_law_320 : decode cL_law 320 = .ok (.iload_n 3, 1) := by decide +kernel
theorem dL_law_321 : decode cL_law 321 = .ok (.iconst 3, 1) := by decide +kernel
theorem dL_law_322 : decode cL_law 322 = .ok (.iadd, 1) := by decide +kernel
theorem dL_law_323 : decode cL_law 323 = .ok (.iaload, 1) := by decide +kernel
theorem dL_law_324 : decode cL_law 324 = .ok (.ifCond .eq 7, 3) := by decide +kernel
theorem dL_law_327 : decode cL_law 327 = .ok (.iconst 1, 1) := by decide +kernel
theorem dL_law_328 : decode cL_law 328 = .ok (.goto 4, 3) := by decide +kernel
theorem dL_law_331 : decode cL_law 331 = .ok (.iconst 0, 1) := by decide +kernel
theorem dL_law_332 : decode cL_law 332 = .ok (.invokevirtual 48, 3) := by decide +kernel
theorem dL_law_335 : decode cL_law 335 = .ok (.aload_n 2, 1) := by decide +kernel
theorem dL_law_336 : decode cL_law 336 = .ok (.aload_n 0, 1) := by decide +kernel
theorem dL_law_337 : decode cL_law 337 = .ok (.iload_n 3, 1) := by decide +kernel
theorem dL_law_338 : decode cL_law 338 = .ok (.iconst 1, 1) := by decide +kernel
theorem dL_law_339 : decode cL_law 339 = .ok (.iadd, 1) := by decide +kernel
theorem dL_law_340 : decode cL_law 340 = .ok (.iaload, 1) := by decide +kernel
theorem dL_law_341 : decode cL_law 341 = .ok (.aload_n 0, 1) := by decide +kernel
theorem dL_law_342 : decode cL_law 342 = .ok (.iload_n 3, 1) := by decide +kernel
theorem dL_law_343 : decode cL_law 343 = .ok (.iconst 2, 1) := by decide +kernel
theorem dL_law_344 : decode cL_law 344 = .ok (.iadd, 1) := by decide +kernel
theorem dL_law_345 : decode cL_law 345 = .ok (.iaload, 1) := by decide +kernel
theorem dL_law_346 : decode cL_law 346 = .ok (.aload_n 0, 1) := by decide +kernel
theorem dL_law_347 : decode cL_law 347 = .ok (.iload_n 3, 1) := by decide +kernel
theorem dL_law_348 : decode cL_law 348 = .ok (.iconst 3, 1) := by decide +kernel
theorem dL_law_349 : decode cL_law 349 = .ok (.iadd, 1) := by decide +kernel
theorem dL_law_350 : decode cL_law 350 = .ok (.iaload, 1) := by decide +kernel
theorem dL_law_351 : decode cL_law 351 = .ok (.ifCond .eq 7, 3) := by decide +kernel
theorem dL_law_354 : decode cL_law 354 = .ok (.iconst 1, 1) := by decide +kernel
theorem dL_law_355 : decode cL_law 355 = .ok (.goto 4, 3) := by decide +kernel
theorem dL_law_358 : decode cL_law 358 = .ok (.iconst 0, 1) := by decide +kernel
theorem dL_law_359 : decode cL_law 359 = .ok (.invokevirtual 52, 3) := by decide +kernel
theorem dL_law_362 : decode cL_law 362 = .ok (.if_icmp .eq 385, 3) := by decide +kernel
theorem dL_law_365 : decode cL_law 365 = .ok (.iconst 0, 1) := by decide +kernel
theorem dL_law_366 : decode cL_law 366 = .ok (.ireturn, 1) := by decide +kernel
theorem dL_law_367 : decode cL_law 367 = .ok (.aload_n 1, 1) := by decide +kernel
theorem dL_law_368 : decode cL_law 368 = .ok (.aload_n 0, 1) := by decide +kernel
theorem dL_law_369 : decode cL_law 369 = .ok (.iload_n 3, 1) := by decide +kernel
theorem dL_law_370 : decode cL_law 370 = .ok (.iconst 1, 1) := by decide +kernel
theorem dL_law_371 : decode cL_law 371 = .ok (.iadd, 1) := by decide +kernel
theorem dL_law_372 : decode cL_law 372 = .ok (.iaload, 1) := by decide +kernel
theorem dL_law_373 : decode cL_law 373 = .ok (.invokevirtual 53, 3) := by decide +kernel
theorem dL_law_376 : decode cL_law 376 = .ok (.aload_n 2, 1) := by decide +kernel
theorem dL_law_377 : decode cL_law 377 = .ok (.aload_n 0, 1) := by decide +kernel
theorem dL_law_378 : decode cL_law 378 = .ok (.iload_n 3, 1) := by decide +kernel
theorem dL_law_379 : decode cL_law 379 = .ok (.iconst 1, 1) := by decide +kernel
theorem dL_law_380 : decode cL_law 380 = .ok (.iadd, 1) := by decide +kernel
theorem dL_law_381 : decode cL_law 381 = .ok (.iaload, 1) := by decide +kernel
theorem dL_law_382 : decode cL_law 382 = .ok (.invokevirtual 56, 3) := by decide +kernel
theorem dL_law_385 : decode cL_law 385 = .ok (.if_icmp .eq 362, 3) := by decide +kernel
theorem dL_law_388 : decode cL_law 388 = .ok (.iconst 0, 1) := by decide +kernel
theorem dL_law_389 : decode cL_law 389 = .ok (.ireturn, 1) := by decide +kernel
theorem dL_law_390 : decode cL_law 390 = .ok (.aload_n 1, 1) := by decide +kernel
theorem dL_law_391 : decode cL_law 391 = .ok (.invokevirtual 57, 3) := by decide +kernel
theorem dL_law_394 : decode cL_law 394 = .ok (.aload_n 2, 1) := by decide +kernel
theorem dL_law_395 : decode cL_law 395 = .ok (.invokevirtual 60, 3) := by decide +kernel
theorem dL_law_398 : decode cL_law 398 = .ok (.if_icmp .eq 349, 3) := by decide +kernel
theorem dL_law_401 : decode cL_law 401 = .ok (.iconst 0, 1) := by decide +kernel
theorem dL_law_402 : decode cL_law 402 = .ok (.ireturn, 1) := by decide +kernel
theorem dL_law_403 : decode cL_law 403 = .ok (.aload_n 1, 1) := by decide +kernel
theorem dL_law_404 : decode cL_law 404 = .ok (.aload_n 0, 1) := by decide +kernel
theorem dL_law_405 : decode cL_law 405 = .ok (.iload_n 3, 1) := by decide +kernel
theorem dL_law_406 : decode cL_law 406 = .ok (.iconst 1, 1) := by decide +kernel
theorem dL_law_407 : decode cL_law 407 = .ok (.iadd, 1) := by decide +kernel
theorem dL_law_408 : decode cL_law 408 = .ok (.iaload, 1) := by decide +kernel
theorem dL_law_409 : decode cL_law 409 = .ok (.invokevirtual 61, 3) := by decide +kernel
theorem dL_law_412 : decode cL_law 412 = .ok (.aload_n 2, 1) := by decide +kernel
theorem dL_law_413 : decode cL_law 413 = .ok (.aload_n 0, 1) := by decide +kernel
theorem dL_law_414 : decode cL_law 414 = .ok (.iload_n 3, 1) := by decide +kernel
theorem dL_law_415 : decode cL_law 415 = .ok (.iconst 1, 1) := by decide +kernel
theorem dL_law_416 : decode cL_law 416 = .ok (.iadd, 1) := by decide +kernel
theorem dL_law_417 : decode cL_law 417 = .ok (.iaload, 1) := by decide +kernel
theorem dL_law_418 : decode cL_law 418 = .ok (.invokevirtual 64, 3) := by decide +kernel
theorem dL_law_421 : decode cL_law 421 = .ok (.if_icmp .eq 326, 3) := by decide +kernel
theorem dL_law_424 : decode cL_law 424 = .ok (.iconst 0, 1) := by decide +kernel
theorem dL_law_425 : decode cL_law 425 = .ok (.ireturn, 1) := by decide +kernel
theorem dL_law_426 : decode cL_law 426 = .ok (.aload_n 1, 1) := by decide +kernel
theorem dL_law_427 : decode cL_law 427 = .ok (.invokevirtual 65, 3) := by decide +kernel
theorem dL_law_430 : decode cL_law 430 = .ok (.aload_n 2, 1) := by decide +kernel
theorem dL_law_431 : decode cL_law 431 = .ok (.invokevirtual 68, 3) := by decide +kernel
theorem dL_law_434 : decode cL_law 434 = .ok (.if_icmp .eq 313, 3) := by decide +kernel
theorem dL_law_437 : decode cL_law 437 = .ok (.iconst 0, 1) := by decide +kernel
theorem dL_law_438 : decode cL_law 438 = .ok (.ireturn, 1) := by decide +kernel
theorem dL_law_439 : decode cL_law 439 = .ok (.aload_n 1, 1) := by decide +kernel
theorem dL_law_440 : decode cL_law 440 = .ok (.invokevirtual 69, 3) := by decide +kernel
theorem dL_law_443 : decode cL_law 443 = .ok (.aload_n 2, 1) := by decide +kernel
theorem dL_law_444 : decode cL_law 444 = .ok (.invokevirtual 72, 3) := by decide +kernel
theorem dL_law_447 : decode cL_law 447 = .ok (.if_icmp .eq 300, 3) := by decide +kernel
theorem dL_law_450 : decode cL_law 450 = .ok (.iconst 0, 1) := by decide +kernel
theorem dL_law_451 : decode cL_law 451 = .ok (.ireturn, 1) := by decide +kernel
theorem dL_law_452 : decode cL_law 452 = .ok (.aload_n 1, 1) := by decide +kernel
theorem dL_law_453 : decode cL_law 453 = .ok (.invokevirtual 73, 3) := by decide +kernel
theorem dL_law_456 : decode cL_law 456 = .ok (.aload_n 2, 1) := by decide +kernel
theorem dL_law_457 : decode cL_law 457 = .ok (.invokevirtual 76, 3) := by decide +kernel
theorem dL_law_460 : decode cL_law 460 = .ok (.if_icmp .eq 287, 3) := by decide +kernel
theorem dL_law_463 : decode cL_law 463 = .ok (.iconst 0, 1) := by decide +kernel
theorem dL_law_464 : decode cL_law 464 = .ok (.ireturn, 1) := by decide +kernel
theorem dL_law_465 : decode cL_law 465 = .ok (.aload_n 1, 1) := by decide +kernel
theorem dL_law_466 : decode cL_law 466 = .ok (.aload_n 0, 1) := by decide +kernel
theorem dL_law_467 : decode cL_law 467 = .ok (.iload_n 3, 1) := by decide +kernel
theorem dL_law_468 : decode cL_law 468 = .ok (.iconst 1, 1) := by decide +kernel
theorem dL_law_469 : decode cL_law 469 = .ok (.iadd, 1) := by decide +kernel
theorem dL_law_470 : decode cL_law 470 = .ok (.iaload, 1) := by decide +kernel
theorem dL_law_471 : decode cL_law 471 = .ok (.invokevirtual 77, 3) := by decide +kernel
theorem dL_law_474 : decode cL_law 474 = .ok (.aload_n 2, 1) := by decide +kernel
theorem dL_law_475 : decode cL_law 475 = .ok (.aload_n 0, 1) := by decide +kernel
theorem dL_law_476 : decode cL_law 476 = .ok (.iload_n 3, 1) := by decide +kernel
theorem dL_law_477 : decode cL_law 477 = .ok (.iconst 1, 1) := by decide +kernel
theorem dL_law_478 : decode cL_law 478 = .ok (.iadd, 1) := by decide +kernel
theorem dL_law_479 : decode cL_law 479 = .ok (.iaload, 1) := by decide +kernel
theorem dL_law_480 : decode cL_law 480 = .ok (.invokevirtual 80, 3) := by decide +kernel
theorem dL_law_483 : decode cL_law 483 = .ok (.if_icmp .eq 264, 3) := by decide +kernel
theorem dL_law_486 : decode cL_law 486 = .ok (.iconst 0, 1) := by decide +kernel
theorem dL_law_487 : decode cL_law 487 = .ok (.ireturn, 1) := by decide +kernel
theorem dL_law_488 : decode cL_law 488 = .ok (.aload_n 1, 1) := by decide +kernel
theorem dL_law_489 : decode cL_law 489 = .ok (.aload_n 0, 1) := by decide +kernel
theorem dL_law_490 : decode cL_law 490 = .ok (.iload_n 3, 1) := by decide +kernel
theorem dL_law_491 : decode cL_law 491 = .ok (.iconst 1, 1) := by decide +kernel
theorem dL_law_492 : decode cL_law 492 = .ok (.iadd, 1) := by decide +kernel
theorem dL_law_493 : decode cL_law 493 = .ok (.iaload, 1) := by decide +kernel
theorem dL_law_494 : decode cL_law 494 = .ok (.aload_n 0, 1) := by decide +kernel
theorem dL_law_495 : decode cL_law 495 = .ok (.iload_n 3, 1) := by decide +kernel
theorem dL_law_496 : decode cL_law 496 = .ok (.iconst 2, 1) := by decide +kernel
theorem dL_law_497 : decode cL_law 497 = .ok (.iadd, 1) := by decide +kernel
theorem dL_law_498 : decode cL_law 498 = .ok (.iaload, 1) := by decide +kernel
theorem dL_law_499 : decode cL_law 499 = .ok (.invokevirtual 81, 3) := by decide +kernel
theorem dL_law_502 : decode cL_law 502 = .ok (.aload_n 2, 1) := by decide +kernel
theorem dL_law_503 : decode cL_law 503 = .ok (.aload_n 0, 1) := by decide +kernel
theorem dL_law_504 : decode cL_law 504 = .ok (.iload_n 3, 1) := by decide +kernel
theorem dL_law_505 : decode cL_law 505 = .ok (.iconst 1, 1) := by decide +kernel
theorem dL_law_506 : decode cL_law 506 = .ok (.iadd, 1) := by decide +kernel
theorem dL_law_507 : decode cL_law 507 = .ok (.iaload, 1) := by decide +kernel
theorem dL_law_508 : decode cL_law 508 = .ok (.aload_n 0, 1) := by decide +kernel
theorem dL_law_509 : decode cL_law 509 = .ok (.iload_n 3, 1) := by decide +kernel
theorem dL_law_510 : decode cL_law 510 = .ok (.iconst 2, 1) := by decide +kernel
theorem dL_law_511 : decode cL_law 511 = .ok (.iadd, 1) := by decide +kernel
theorem dL_law_512 : decode cL_law 512 = .ok (.iaload, 1) := by decide +kernel
theorem dL_law_513 : decode cL_law 513 = .ok (.invokevirtual 84, 3) := by decide +kernel
theorem dL_law_516 : decode cL_law 516 = .ok (.if_icmp .eq 231, 3) := by decide +kernel
theorem dL_law_519 : decode cL_law 519 = .ok (.iconst 0, 1) := by decide +kernel
theorem dL_law_520 : decode cL_law 520 = .ok (.ireturn, 1) := by decide +kernel
theorem dL_law_521 : decode cL_law 521 = .ok (.aload_n 1, 1) := by decide +kernel
theorem dL_law_522 : decode cL_law 522 = .ok (.aload_n 0, 1) := by decide +kernel
theorem dL_law_523 : decode cL_law 523 = .ok (.iload_n 3, 1) := by decide +kernel
theorem dL_law_524 : decode cL_law 524 = .ok (.iconst 1, 1) := by decide +kernel
theorem dL_law_525 : decode cL_law 525 = .ok (.iadd, 1) := by decide +kernel
theorem dL_law_526 : decode cL_law 526 = .ok (.iaload, 1) := by decide +kernel
theorem dL_law_527 : decode cL_law 527 = .ok (.invokevirtual 85, 3) := by decide +kernel
theorem dL_law_530 : decode cL_law 530 = .ok (.aload_n 2, 1) := by decide +kernel
theorem dL_law_531 : decode cL_law 531 = .ok (.aload_n 0, 1) := by decide +kernel
theorem dL_law_532 : decode cL_law 532 = .ok (.iload_n 3, 1) := by decide +kernel
theorem dL_law_533 : decode cL_law 533 = .ok (.iconst 1, 1) := by decide +kernel
theorem dL_law_534 : decode cL_law 534 = .ok (.iadd, 1) := by decide +kernel
theorem dL_law_535 : decode cL_law 535 = .ok (.iaload, 1) := by decide +kernel
theorem dL_law_536 : decode cL_law 536 = .ok (.invokevirtual 88, 3) := by decide +kernel
theorem dL_law_539 : decode cL_law 539 = .ok (.if_icmp .eq 208, 3) := by decide +kernel
theorem dL_law_542 : decode cL_law 542 = .ok (.iconst 0, 1) := by decide +kernel
theorem dL_law_543 : decode cL_law 543 = .ok (.ireturn, 1) := by decide +kernel
theorem dL_law_544 : decode cL_law 544 = .ok (.aload_n 1, 1) := by decide +kernel
theorem dL_law_545 : decode cL_law 545 = .ok (.invokevirtual 89, 3) := by decide +kernel
theorem dL_law_548 : decode cL_law 548 = .ok (.aload_n 2, 1) := by decide +kernel
theorem dL_law_549 : decode cL_law 549 = .ok (.invokevirtual 92, 3) := by decide +kernel
theorem dL_law_552 : decode cL_law 552 = .ok (.if_icmp .eq 195, 3) := by decide +kernel
theorem dL_law_555 : decode cL_law 555 = .ok (.iconst 0, 1) := by decide +kernel
theorem dL_law_556 : decode cL_law 556 = .ok (.ireturn, 1) := by decide +kernel
theorem dL_law_557 : decode cL_law 557 = .ok (.aload_n 1, 1) := by decide +kernel
theorem dL_law_558 : decode cL_law 558 = .ok (.invokevirtual 93, 3) := by decide +kernel
theorem dL_law_561 : decode cL_law 561 = .ok (.aload_n 2, 1) := by decide +kernel
theorem dL_law_562 : decode cL_law 562 = .ok (.invokevirtual 96, 3) := by decide +kernel
theorem dL_law_565 : decode cL_law 565 = .ok (.if_icmp .eq 182, 3) := by decide +kernel
theorem dL_law_568 : decode cL_law 568 = .ok (.iconst 0, 1) := by decide +kernel
theorem dL_law_569 : decode cL_law 569 = .ok (.ireturn, 1) := by decide +kernel
theorem dL_law_570 : decode cL_law 570 = .ok (.aload_n 1, 1) := by decide +kernel
theorem dL_law_571 : decode cL_law 571 = .ok (.aload_n 0, 1) := by decide +kernel
theorem dL_law_572 : decode cL_law 572 = .ok (.iload_n 3, 1) := by decide +kernel
theorem dL_law_573 : decode cL_law 573 = .ok (.iconst 1, 1) := by decide +kernel
theorem dL_law_574 : decode cL_law 574 = .ok (.iadd, 1) := by decide +kernel
theorem dL_law_575 : decode cL_law 575 = .ok (.iaload, 1) := by decide +kernel
theorem dL_law_576 : decode cL_law 576 = .ok (.invokevirtual 97, 3) := by decide +kernel
theorem dL_law_579 : decode cL_law 579 = .ok (.aload_n 2, 1) := by decide +kernel
theorem dL_law_580 : decode cL_law 580 = .ok (.aload_n 0, 1) := by decide +kernel
theorem dL_law_581 : decode cL_law 581 = .ok (.iload_n 3, 1) := by decide +kernel
theorem dL_law_582 : decode cL_law 582 = .ok (.iconst 1, 1) := by decide +kernel
theorem dL_law_583 : decode cL_law 583 = .ok (.iadd, 1) := by decide +kernel
theorem dL_law_584 : decode cL_law 584 = .ok (.iaload, 1) := by decide +kernel
theorem dL_law_585 : decode cL_law 585 = .ok (.invokevirtual 100, 3) := by decide +kernel
theorem dL_law_588 : decode cL_law 588 = .ok (.if_icmp .eq 159, 3) := by decide +kernel
theorem dL_law_591 : decode cL_law 591 = .ok (.iconst 0, 1) := by decide +kernel
theorem dL_law_592 : decode cL_law 592 = .ok (.ireturn, 1) := by decide +kernel
theorem dL_law_593 : decode cL_law 593 = .ok (.aload_n 1, 1) := by decide +kernel
theorem dL_law_594 : decode cL_law 594 = .ok (.invokevirtual 101, 3) := by decide +kernel
theorem dL_law_597 : decode cL_law 597 = .ok (.aload_n 2, 1) := by decide +kernel
theorem dL_law_598 : decode cL_law 598 = .ok (.invokevirtual 104, 3) := by decide +kernel
theorem dL_law_601 : decode cL_law 601 = .ok (.if_icmp .eq 146, 3) := by decide +kernel
theorem dL_law_604 : decode cL_law 604 = .ok (.iconst 0, 1) := by decide +kernel
theorem dL_law_605 : decode cL_law 605 = .ok (.ireturn, 1) := by decide +kernel
theorem dL_law_606 : decode cL_law 606 = .ok (.aload_n 1, 1) := by decide +kernel
theorem dL_law_607 : decode cL_law 607 = .ok (.invokevirtual 105, 3) := by decide +kernel
theorem dL_law_610 : decode cL_law 610 = .ok (.aload_n 2, 1) := by decide +kernel
theorem dL_law_611 : decode cL_law 611 = .ok (.invokevirtual 108, 3) := by decide +kernel
theorem dL_law_614 : decode cL_law 614 = .ok (.if_icmp .eq 133, 3) := by decide +kernel
theorem dL_law_617 : decode cL_law 617 = .ok (.iconst 0, 1) := by decide +kernel
theorem dL_law_618 : decode cL_law 618 = .ok (.ireturn, 1) := by decide +kernel
theorem dL_law_619 : decode cL_law 619 = .ok (.aload_n 1, 1) := by decide +kernel
theorem dL_law_620 : decode cL_law 620 = .ok (.invokevirtual 109, 3) := by decide +kernel
theorem dL_law_623 : decode cL_law 623 = .ok (.aload_n 2, 1) := by decide +kernel
theorem dL_law_624 : decode cL_law 624 = .ok (.invokevirtual 112, 3) := by decide +kernel
theorem dL_law_627 : decode cL_law 627 = .ok (.if_icmp .eq 120, 3) := by decide +kernel
theorem dL_law_630 : decode cL_law 630 = .ok (.iconst 0, 1) := by decide +kernel
theorem dL_law_631 : decode cL_law 631 = .ok (.ireturn, 1) := by decide +kernel
theorem dL_law_632 : decode cL_law 632 = .ok (.aload_n 1, 1) := by decide +kernel
theorem dL_law_633 : decode cL_law 633 = .ok (.aload_n 0, 1) := by decide +kernel
theorem dL_law_634 : decode cL_law 634 = .ok (.iload_n 3, 1) := by decide +kernel
theorem dL_law_635 : decode cL_law 635 = .ok (.iconst 1, 1) := by decide +kernel
theorem dL_law_636 : decode cL_law 636 = .ok (.iadd, 1) := by decide +kernel
theorem dL_law_637 : decode cL_law 637 = .ok (.iaload, 1) := by decide +kernel
theorem dL_law_638 : decode cL_law 638 = .ok (.invokevirtual 113, 3) := by decide +kernel
theorem dL_law_641 : decode cL_law 641 = .ok (.aload_n 2, 1) := by decide +kernel
theorem dL_law_642 : decode cL_law 642 = .ok (.aload_n 0, 1) := by decide +kernel
theorem dL_law_643 : decode cL_law 643 = .ok (.iload_n 3, 1) := by decide +kernel
theorem dL_law_644 : decode cL_law 644 = .ok (.iconst 1, 1) := by decide +kernel
theorem dL_law_645 : decode cL_law 645 = .ok (.iadd, 1) := by decide +kernel
theorem dL_law_646 : decode cL_law 646 = .ok (.iaload, 1) := by decide +kernel
theorem dL_law_647 : decode cL_law 647 = .ok (.invokevirtual 116, 3) := by decide +kernel
theorem dL_law_650 : decode cL_law 650 = .ok (.if_icmp .eq 97, 3) := by decide +kernel
theorem dL_law_653 : decode cL_law 653 = .ok (.iconst 0, 1) := by decide +kernel
theorem dL_law_654 : decode cL_law 654 = .ok (.ireturn, 1) := by decide +kernel
theorem dL_law_655 : decode cL_law 655 = .ok (.aload_n 1, 1) := by decide +kernel
theorem dL_law_656 : decode cL_law 656 = .ok (.aload_n 0, 1) := by decide +kernel
theorem dL_law_657 : decode cL_law 657 = .ok (.iload_n 3, 1) := by decide +kernel
theorem dL_law_658 : decode cL_law 658 = .ok (.iconst 1, 1) := by decide +kernel
theorem dL_law_659 : decode cL_law 659 = .ok (.iadd, 1) := by decide +kernel
theorem dL_law_660 : decode cL_law 660 = .ok (.iaload, 1) := by decide +kernel
theorem dL_law_661 : decode cL_law 661 = .ok (.aload_n 0, 1) := by decide +kernel
theorem dL_law_662 : decode cL_law 662 = .ok (.iload_n 3, 1) := by decide +kernel
theorem dL_law_663 : decode cL_law 663 = .ok (.iconst 2, 1) := by decide +kernel
theorem dL_law_664 : decode cL_law 664 = .ok (.iadd, 1) := by decide +kernel
theorem dL_law_665 : decode cL_law 665 = .ok (.iaload, 1) := by decide +kernel
theorem dL_law_666 : decode cL_law 666 = .ok (.aload_n 0, 1) := by decide +kernel
theorem dL_law_667 : decode cL_law 667 = .ok (.iload_n 3, 1) := by decide +kernel
theorem dL_law_668 : decode cL_law 668 = .ok (.iconst 3, 1) := by decide +kernel
theorem dL_law_669 : decode cL_law 669 = .ok (.iadd, 1) := by decide +kernel
theorem dL_law_670 : decode cL_law 670 = .ok (.iaload, 1) := by decide +kernel
theorem dL_law_671 : decode cL_law 671 = .ok (.invokevirtual 117, 3) := by decide +kernel
theorem dL_law_674 : decode cL_law 674 = .ok (.aload_n 2, 1) := by decide +kernel
theorem dL_law_675 : decode cL_law 675 = .ok (.aload_n 0, 1) := by decide +kernel
theorem dL_law_676 : decode cL_law 676 = .ok (.iload_n 3, 1) := by decide +kernel
theorem dL_law_677 : decode cL_law 677 = .ok (.iconst 1, 1) := by decide +kernel
theorem dL_law_678 : decode cL_law 678 = .ok (.iadd, 1) := by decide +kernel
theorem dL_law_679 : decode cL_law 679 = .ok (.iaload, 1) := by decide +kernel
theorem dL_law_680 : decode cL_law 680 = .ok (.aload_n 0, 1) := by decide +kernel
theorem dL_law_681 : decode cL_law 681 = .ok (.iload_n 3, 1) := by decide +kernel
theorem dL_law_682 : decode cL_law 682 = .ok (.iconst 2, 1) := by decide +kernel
theorem dL_law_683 : decode cL_law 683 = .ok (.iadd, 1) := by decide +kernel
theorem dL_law_684 : decode cL_law 684 = .ok (.iaload, 1) := by decide +kernel
theorem dL_law_685 : decode cL_law 685 = .ok (.aload_n 0, 1) := by decide +kernel
theorem dL_law_686 : decode cL_law 686 = .ok (.iload_n 3, 1) := by decide +kernel
theorem dL_law_687 : decode cL_law 687 = .ok (.iconst 3, 1) := by decide +kernel
theorem dL_law_688 : decode cL_law 688 = .ok (.iadd, 1) := by decide +kernel
theorem dL_law_689 : decode cL_law 689 = .ok (.iaload, 1) := by decide +kernel
theorem dL_law_690 : decode cL_law 690 = .ok (.invokevirtual 121, 3) := by decide +kernel
theorem dL_law_693 : decode cL_law 693 = .ok (.if_icmp .eq 54, 3) := by decide +kernel
theorem dL_law_696 : decode cL_law 696 = .ok (.iconst 0, 1) := by decide +kernel
theorem dL_law_697 : decode cL_law 697 = .ok (.ireturn, 1) := by decide +kernel
theorem dL_law_698 : decode cL_law 698 = .ok (.aload_n 1, 1) := by decide +kernel
theorem dL_law_699 : decode cL_law 699 = .ok (.invokevirtual 122, 3) := by decide +kernel
theorem dL_law_702 : decode cL_law 702 = .ok (.aload_n 2, 1) := by decide +kernel
theorem dL_law_703 : decode cL_law 703 = .ok (.invokevirtual 125, 3) := by decide +kernel
theorem dL_law_706 : decode cL_law 706 = .ok (.if_icmp .eq 41, 3) := by decide +kernel
theorem dL_law_709 : decode cL_law 709 = .ok (.iconst 0, 1) := by decide +kernel
theorem dL_law_710 : decode cL_law 710 = .ok (.ireturn, 1) := by decide +kernel
theorem dL_law_711 : decode cL_law 711 = .ok (.aload_n 1, 1) := by decide +kernel
theorem dL_law_712 : decode cL_law 712 = .ok (.invokevirtual 126, 3) := by decide +kernel
theorem dL_law_715 : decode cL_law 715 = .ok (.aload_n 2, 1) := by decide +kernel
theorem dL_law_716 : decode cL_law 716 = .ok (.invokevirtual 129, 3) := by decide +kernel
theorem dL_law_719 : decode cL_law 719 = .ok (.if_icmp .eq 28, 3) := by decide +kernel
theorem dL_law_722 : decode cL_law 722 = .ok (.iconst 0, 1) := by decide +kernel
theorem dL_law_723 : decode cL_law 723 = .ok (.ireturn, 1) := by decide +kernel
theorem dL_law_724 : decode cL_law 724 = .ok (.aload_n 1, 1) := by decide +kernel
theorem dL_law_725 : decode cL_law 725 = .ok (.aload_n 0, 1) := by decide +kernel
theorem dL_law_726 : decode cL_law 726 = .ok (.iload_n 3, 1) := by decide +kernel
theorem dL_law_727 : decode cL_law 727 = .ok (.iconst 1, 1) := by decide +kernel
theorem dL_law_728 : decode cL_law 728 = .ok (.iadd, 1) := by decide +kernel
theorem dL_law_729 : decode cL_law 729 = .ok (.iaload, 1) := by decide +kernel
theorem dL_law_730 : decode cL_law 730 = .ok (.invokevirtual 130, 3) := by decide +kernel
theorem dL_law_733 : decode cL_law 733 = .ok (.aload_n 2, 1) := by decide +kernel
theorem dL_law_734 : decode cL_law 734 = .ok (.aload_n 0, 1) := by decide +kernel
theorem dL_law_735 : decode cL_law 735 = .ok (.iload_n 3, 1) := by decide +kernel
theorem dL_law_736 : decode cL_law 736 = .ok (.iconst 1, 1) := by decide +kernel
theorem dL_law_737 : decode cL_law 737 = .ok (.iadd, 1) := by decide +kernel
theorem dL_law_738 : decode cL_law 738 = .ok (.iaload, 1) := by decide +kernel
theorem dL_law_739 : decode cL_law 739 = .ok (.invokevirtual 133, 3) := by decide +kernel
theorem dL_law_742 : decode cL_law 742 = .ok (.if_icmp .eq 5, 3) := by decide +kernel
theorem dL_law_745 : decode cL_law 745 = .ok (.iconst 0, 1) := by decide +kernel
theorem dL_law_746 : decode cL_law 746 = .ok (.ireturn, 1) := by decide +kernel
theorem dL_law_747 : decode cL_law 747 = .ok (.iinc 3 4, 3) := by decide +kernel
theorem dL_law_750 : decode cL_law 750 = .ok (.goto (-732), 3) := by decide +kernel
theorem dL_law_753 : decode cL_law 753 = .ok (.iconst 1, 1) := by decide +kernel
theorem dL_law_754 : decode cL_law 754 = .ok (.ireturn, 1) := by decide +kernel
