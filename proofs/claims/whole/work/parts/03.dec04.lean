theorem dX7_exchange_22 : decode cX7_exchange 22 = .ok (.bipush 30, 2) := by decide +kernel
theorem dX7_exchange_24 : decode cX7_exchange 24 = .ok (.iload_n 2, 1) := by decide +kernel
theorem dX7_exchange_25 : decode cX7_exchange 25 = .ok (.iadd, 1) := by decide +kernel
theorem dX7_exchange_26 : decode cX7_exchange 26 = .ok (.iaload, 1) := by decide +kernel
theorem dX7_exchange_27 : decode cX7_exchange 27 = .ok (.iastore, 1) := by decide +kernel
theorem dX7_exchange_28 : decode cX7_exchange 28 = .ok (.aload_n 0, 1) := by decide +kernel
theorem dX7_exchange_29 : decode cX7_exchange 29 = .ok (.getfield 19, 3) := by decide +kernel
theorem dX7_exchange_32 : decode cX7_exchange 32 = .ok (.bipush 30, 2) := by decide +kernel
theorem dX7_exchange_34 : decode cX7_exchange 34 = .ok (.iload_n 2, 1) := by decide +kernel
theorem dX7_exchange_35 : decode cX7_exchange 35 = .ok (.iadd, 1) := by decide +kernel
theorem dX7_exchange_36 : decode cX7_exchange 36 = .ok (.iload_n 3, 1) := by decide +kernel
theorem dX7_exchange_37 : decode cX7_exchange 37 = .ok (.iastore, 1) := by decide +kernel
theorem dX7_exchange_38 : decode cX7_exchange 38 = .ok (.return_, 1) := by decide +kernel
theorem dX7_swap_0 : decode cX7_swap 0 = .ok (.aload_n 0, 1) := by decide +kernel
theorem dX7_swap_1 : decode cX7_swap 1 = .ok (.iload_n 1, 1) := by decide +kernel
theorem dX7_swap_2 : decode cX7_swap 2 = .ok (.invokevirtual 180, 3) := by decide +kernel
theorem dX7_swap_5 : decode cX7_swap 5 = .ok (.ifCond .eq 16, 3) := by decide +kernel
theorem dX7_swap_8 : decode cX7_swap 8 = .ok (.aload_n 0, 1) := by decide +kernel
theorem dX7_swap_9 : decode cX7_swap 9 = .ok (.iload_n 2, 1) := by decide +kernel
theorem dX7_swap_10 : decode cX7_swap 10 = .ok (.invokevirtual 180, 3) := by decide +kernel
theorem dX7_swap_13 : decode cX7_swap 13 = .ok (.ifCond .eq 8, 3) := by decide +kernel
theorem dX7_swap_16 : decode cX7_swap 16 = .ok (.iload_n 1, 1) := by decide +kernel
theorem dX7_swap_17 : decode cX7_swap 17 = .ok (.iload_n 2, 1) := by decide +kernel
theorem dX7_swap_18 : decode cX7_swap 18 = .ok (.if_icmp .ne 6, 3) := by decide +kernel
theorem dX7_swap_21 : decode cX7_swap 21 = .ok (.ldc 67, 2) := by decide +kernel
theorem dX7_swap_23 : decode cX7_swap 23 = .ok (.ireturn, 1) := by decide +kernel
theorem dX7_swap_24 : decode cX7_swap 24 = .ok (.aload_n 0, 1) := by decide +kernel
theorem dX7_swap_25 : decode cX7_swap 25 = .ok (.invokevirtual 174, 3) := by decide +kernel
theorem dX7_swap_28 : decode cX7_swap 28 = .ok (.aload_n 0, 1) := by decide +kernel
theorem dX7_swap_29 : decode cX7_swap 29 = .ok (.iload_n 1, 1) := by decide +kernel
theorem dX7_swap_30 : decode cX7_swap 30 = .ok (.iload_n 2, 1) := by decide +kernel
theorem dX7_swap_31 : decode cX7_swap 31 = .ok (.invokevirtual 192, 3) := by decide +kernel
theorem dX7_swap_34 : decode cX7_swap 34 = .ok (.aload_n 0, 1) := by decide +kernel
theorem dX7_swap_35 : decode cX7_swap 35 = .ok (.getfield 19, 3) := by decide +kernel
theorem dX7_swap_38 : decode cX7_swap 38 = .ok (.bipush 30, 2) := by decide +kernel
theorem dX7_swap_40 : decode cX7_swap 40 = .ok (.iload_n 1, 1) := by decide +kernel
theorem dX7_swap_41 : decode cX7_swap 41 = .ok (.iadd, 1) := by decide +kernel
theorem dX7_swap_42 : decode cX7_swap 42 = .ok (.iaload, 1) := by decide +kernel
theorem dX7_swap_43 : decode cX7_swap 43 = .ok (.ireturn, 1) := by decide +kernel
theorem dX7_wind_0 : decode cX7_wind 0 = .ok (.aload_n 0, 1) := by decide +kernel
theorem dX7_wind_1 : decode cX7_wind 1 = .ok (.getfield 135, 3) := by decide +kernel
theorem dX7_wind_4 : decode cX7_wind 4 = .ok (.ifCond .ne 6, 3) := by decide +kernel
theorem dX7_wind_7 : decode cX7_wind 7 = .ok (.ldc 171, 2) := by decide +kernel
theorem dX7_wind_9 : decode cX7_wind 9 = .ok (.ireturn, 1) := by decide +kernel
theorem dX7_wind_10 : decode cX7_wind 10 = .ok (.aload_n 0, 1) := by decide +kernel
theorem dX7_wind_11 : decode cX7_wind 11 = .ok (.invokevirtual 174, 3) := by decide +kernel
theorem dX7_wind_14 : decode cX7_wind 14 = .ok (.aload_n 0, 1) := by decide +kernel
theorem dX7_wind_15 : decode cX7_wind 15 = .ok (.getfield 19, 3) := by decide +kernel
theorem dX7_wind_18 : decode cX7_wind 18 = .ok (.iconst 2, 1) := by decide +kernel
theorem dX7_wind_19 : decode cX7_wind 19 = .ok (.iconst 1, 1) := by decide +kernel
theorem dX7_wind_20 : decode cX7_wind 20 = .ok (.aload_n 0, 1) := by decide +kernel
theorem dX7_wind_21 : decode cX7_wind 21 = .ok (.getfield 19, 3) := by decide +kernel
theorem dX7_wind_24 : decode cX7_wind 24 = .ok (.iconst 2, 1) := by decide +kernel
theorem dX7_wind_25 : decode cX7_wind 25 = .ok (.iaload, 1) := by decide +kernel
theorem dX7_wind_26 : decode cX7_wind 26 = .ok (.isub, 1) := by decide +kernel
theorem dX7_wind_27 : decode cX7_wind 27 = .ok (.iastore, 1) := by decide +kernel
theorem dX7_wind_28 : decode cX7_wind 28 = .ok (.aload_n 0, 1) := by decide +kernel
theorem dX7_wind_29 : decode cX7_wind 29 = .ok (.getfield 19, 3) := by decide +kernel
theorem dX7_wind_32 : decode cX7_wind 32 = .ok (.iconst 2, 1) := by decide +kernel
theorem dX7_wind_33 : decode cX7_wind 33 = .ok (.iaload, 1) := by decide +kernel
theorem dX7_wind_34 : decode cX7_wind 34 = .ok (.ireturn, 1) := by decide +kernel
theorem dX7_thing_0 : decode cX7_thing 0 = .ok (.aload_n 0, 1) := by decide +kernel
theorem dX7_thing_1 : decode cX7_thing 1 = .ok (.iload_n 1, 1) := by decide +kernel
theorem dX7_thing_2 : decode cX7_thing 2 = .ok (.invokevirtual 180, 3) := by decide +kernel
theorem dX7_thing_5 : decode cX7_thing 5 = .ok (.ifCond .ne 6, 3) := by decide +kernel
theorem dX7_thing_8 : decode cX7_thing 8 = .ok (.ldc 67, 2) := by decide +kernel
theorem dX7_thing_10 : decode cX7_thing 10 = .ok (.ireturn, 1) := by decide +kernel
theorem dX7_thing_11 : decode cX7_thing 11 = .ok (.iload_n 2, 1) := by decide +kernel
theorem dX7_thing_12 : decode cX7_thing 12 = .ok (.tableswitch 136 0 6 #[44, 54, 64, 74, 93, 112, 118], 44) := by decide +kernel
theorem dX7_thing_56 : decode cX7_thing 56 = .ok (.aload_n 0, 1) := by decide +kernel
theorem dX7_thing_57 : decode cX7_thing 57 = .ok (.getfield 19, 3) := by decide +kernel
theorem dX7_thing_60 : decode cX7_thing 60 = .ok (.bipush 14, 2) := by decide +kernel
theorem dX7_thing_62 : decode cX7_thing 62 = .ok (.iload_n 1, 1) := by decide +kernel
theorem dX7_thing_63 : decode cX7_thing 63 = .ok (.iadd, 1) := by decide +kernel
theorem dX7_thing_64 : decode cX7_thing 64 = .ok (.iaload, 1) := by decide +kernel
theorem dX7_thing_65 : decode cX7_thing 65 = .ok (.ireturn, 1) := by decide +kernel
theorem dX7_thing_66 : decode cX7_thing 66 = .ok (.aload_n 0, 1) := by decide +kernel
theorem dX7_thing_67 : decode cX7_thing 67 = .ok (.getfield 19, 3) := by decide +kernel
theorem dX7_thing_70 : decode cX7_thing 70 = .ok (.bipush 22, 2) := by decide +kernel
theorem dX7_thing_72 : decode cX7_thing 72 = .ok (.iload_n 1, 1) := by decide +kernel
theorem dX7_thing_73 : decode cX7_thing 73 = .ok (.iadd, 1) := by decide +kernel
theorem dX7_thing_74 : decode cX7_thing 74 = .ok (.iaload, 1) := by decide +kernel
theorem dX7_thing_75 : decode cX7_thing 75 = .ok (.ireturn, 1) := by decide +kernel
theorem dX7_thing_76 : decode cX7_thing 76 = .ok (.aload_n 0, 1) := by decide +kernel
theorem dX7_thing_77 : decode cX7_thing 77 = .ok (.getfield 19, 3) := by decide +kernel
theorem dX7_thing_80 : decode cX7_thing 80 = .ok (.bipush 30, 2) := by decide +kernel
theorem dX7_thing_82 : decode cX7_thing 82 = .ok (.iload_n 1, 1) := by decide +kernel
theorem dX7_thing_83 : decode cX7_thing 83 = .ok (.iadd, 1) := by decide +kernel
theorem dX7_thing_84 : decode cX7_thing 84 = .ok (.iaload, 1) := by decide +kernel
theorem dX7_thing_85 : decode cX7_thing 85 = .ok (.ireturn, 1) := by decide +kernel
theorem dX7_thing_86 : decode cX7_thing 86 = .ok (.aload_n 0, 1) := by decide +kernel
theorem dX7_thing_87 : decode cX7_thing 87 = .ok (.getfield 19, 3) := by decide +kernel
theorem dX7_thing_90 : decode cX7_thing 90 = .ok (.iconst 4, 1) := by decide +kernel
theorem dX7_thing_91 : decode cX7_thing 91 = .ok (.iaload, 1) := by decide +kernel
theorem dX7_thing_92 : decode cX7_thing 92 = .ok (.iload_n 1, 1) := by decide +kernel
theorem dX7_thing_93 : decode cX7_thing 93 = .ok (.invokestatic 145, 3) := by decide +kernel
theorem dX7_thing_96 : decode cX7_thing 96 = .ok (.ifCond .eq 7, 3) := by decide +kernel
theorem dX7_thing_99 : decode cX7_thing 99 = .ok (.iconst 1, 1) := by decide +kernel
theorem dX7_thing_100 : decode cX7_thing 100 = .ok (.goto 4, 3) := by decide +kernel
theorem dX7_thing_103 : decode cX7_thing 103 = .ok (.iconst 0, 1) := by decide +kernel
theorem dX7_thing_104 : decode cX7_thing 104 = .ok (.ireturn, 1) := by decide +kernel
theorem dX7_thing_105 : decode cX7_thing 105 = .ok (.aload_n 0, 1) := by decide +kernel
theorem dX7_thing_106 : decode cX7_thing 106 = .ok (.getfield 19, 3) := by decide +kernel
theorem dX7_thing_109 : decode cX7_thing 109 = .ok (.iconst 5, 1) := by decide +kernel
theorem dX7_thing_110 : decode cX7_thing 110 = .ok (.iaload, 1) := by decide +kernel
theorem dX7_thing_111 : decode cX7_thing 111 = .ok (.iload_n 1, 1) := by decide +kernel
theorem dX7_thing_112 : decode cX7_thing 112 = .ok (.invokestatic 145, 3) := by decide +kernel
theorem dX7_thing_115 : decode cX7_thing 115 = .ok (.ifCond .eq 7, 3) := by decide +kernel
theorem dX7_thing_118 : decode cX7_thing 118 = .ok (.iconst 1, 1) := by decide +kernel
theorem dX7_thing_119 : decode cX7_thing 119 = .ok (.goto 4, 3) := by decide +kernel
theorem dX7_thing_122 : decode cX7_thing 122 = .ok (.iconst 0, 1) := by decide +kernel
theorem dX7_thing_123 : decode cX7_thing 123 = .ok (.ireturn, 1) := by decide +kernel
theorem dX7_thing_124 : decode cX7_thing 124 = .ok (.aload_n 0, 1) := by decide +kernel
theorem dX7_thing_125 : decode cX7_thing 125 = .ok (.iload_n 1, 1) := by decide +kernel
theorem dX7_thing_126 : decode cX7_thing 126 = .ok (.invokevirtual 161, 3) := by decide +kernel
theorem dX7_thing_129 : decode cX7_thing 129 = .ok (.ireturn, 1) := by decide +kernel
theorem dX7_thing_130 : decode cX7_thing 130 = .ok (.aload_n 0, 1) := by decide +kernel
theorem dX7_thing_131 : decode cX7_thing 131 = .ok (.getfield 19, 3) := by decide +kernel
theorem dX7_thing_134 : decode cX7_thing 134 = .ok (.bipush 14, 2) := by decide +kernel
theorem dX7_thing_136 : decode cX7_thing 136 = .ok (.iload_n 1, 1) := by decide +kernel
theorem dX7_thing_137 : decode cX7_thing 137 = .ok (.iadd, 1) := by decide +kernel
theorem dX7_thing_138 : decode cX7_thing 138 = .ok (.iaload, 1) := by decide +kernel
theorem dX7_thing_139 : decode cX7_thing 139 = .ok (.ifCond .ne 7, 3) := by decide +kernel
theorem dX7_thing_142 : decode cX7_thing 142 = .ok (.iconst 1, 1) := by decide +kernel
theorem dX7_thing_143 : decode cX7_thing 143 = .ok (.goto 4, 3) := by decide +kernel
theorem dX7_thing_146 : decode cX7_thing 146 = .ok (.iconst 0, 1) := by decide +kernel
theorem dX7_thing_147 : decode cX7_thing 147 = .ok (.ireturn, 1) := by decide +kernel
theorem dX7_thing_148 : decode cX7_thing 148 = .ok (.ldc 67, 2) := by decide +kernel
theorem dX7_thing_150 : decode cX7_thing 150 = .ok (.ireturn, 1) := by decide +kernel
theorem dX7_place_0 : decode cX7_place 0 = .ok (.aload_n 0, 1) := by decide +kernel
theorem dX7_place_1 : decode cX7_place 1 = .ok (.iload_n 1, 1) := by decide +kernel
theorem dX7_place_2 : decode cX7_place 2 = .ok (.invokevirtual 180, 3) := by decide +kernel
theorem dX7_place_5 : decode cX7_place 5 = .ok (.ifCond .eq 11, 3) := by decide +kernel
theorem dX7_place_8 : decode cX7_place 8 = .ok (.aload_n 0, 1) := by decide +kernel
theorem dX7_place_9 : decode cX7_place 9 = .ok (.iload_n 1, 1) := by decide +kernel
theorem dX7_place_10 : decode cX7_place 10 = .ok (.invokevirtual 142, 3) := by decide +kernel
theorem dX7_place_13 : decode cX7_place 13 = .ok (.goto 5, 3) := by decide +kernel
theorem dX7_place_16 : decode cX7_place 16 = .ok (.ldc 67, 2) := by decide +kernel
theorem dX7_place_18 : decode cX7_place 18 = .ok (.ireturn, 1) := by decide +kernel
theorem dX7_putAside_0 : decode cX7_putAside 0 = .ok (.iconst 0, 1) := by decide +kernel
theorem dX7_putAside_1 : decode cX7_putAside 1 = .ok (.istore_n 1, 1) := by decide +kernel
theorem dX7_putAside_2 : decode cX7_putAside 2 = .ok (.iload_n 1, 1) := by decide +kernel
theorem dX7_putAside_3 : decode cX7_putAside 3 = .ok (.bipush 38, 2) := by decide +kernel
theorem dX7_putAside_5 : decode cX7_putAside 5 = .ok (.if_icmp .ge 21, 3) := by decide +kernel
theorem dX7_putAside_8 : decode cX7_putAside 8 = .ok (.aload_n 0, 1) := by decide +kernel
theorem dX7_putAside_9 : decode cX7_putAside 9 = .ok (.getfield 37, 3) := by decide +kernel
theorem dX7_putAside_12 : decode cX7_putAside 12 = .ok (.iload_n 1, 1) := by decide +kernel
theorem dX7_putAside_13 : decode cX7_putAside 13 = .ok (.aload_n 0, 1) := by decide +kernel
theorem dX7_putAside_14 : decode cX7_putAside 14 = .ok (.getfield 19, 3) := by decide +kernel
theorem dX7_putAside_17 : decode cX7_putAside 17 = .ok (.iload_n 1, 1) := by decide +kernel
theorem dX7_putAside_18 : decode cX7_putAside 18 = .ok (.iaload, 1) := by decide +kernel
theorem dX7_putAside_19 : decode cX7_putAside 19 = .ok (.iastore, 1) := by decide +kernel
theorem dX7_putAside_20 : decode cX7_putAside 20 = .ok (.iinc 1 1, 3) := by decide +kernel
theorem dX7_putAside_23 : decode cX7_putAside 23 = .ok (.goto (-21), 3) := by decide +kernel
theorem dX7_putAside_26 : decode cX7_putAside 26 = .ok (.return_, 1) := by decide +kernel
theorem dX7_takeBack_0 : decode cX7_takeBack 0 = .ok (.iconst 0, 1) := by decide +kernel
theorem dX7_takeBack_1 : decode cX7_takeBack 1 = .ok (.istore_n 1, 1) := by decide +kernel
theorem dX7_takeBack_2 : decode cX7_takeBack 2 = .ok (.iload_n 1, 1) := by decide +kernel
theorem dX7_takeBack_3 : decode cX7_takeBack 3 = .ok (.bipush 38, 2) := by decide +kernel
theorem dX7_takeBack_5 : decode cX7_takeBack 5 = .ok (.if_icmp .ge 21, 3) := by decide +kernel
theorem dX7_takeBack_8 : decode cX7_takeBack 8 = .ok (.aload_n 0, 1) := by decide +kernel
theorem dX7_takeBack_9 : decode cX7_takeBack 9 = .ok (.getfield 19, 3) := by decide +kernel
theorem dX7_takeBack_12 : decode cX7_takeBack 12 = .ok (.iload_n 1, 1) := by decide +kernel
theorem dX7_takeBack_13 : decode cX7_takeBack 13 = .ok (.aload_n 0, 1) := by decide +kernel
theorem dX7_takeBack_14 : decode cX7_takeBack 14 = .ok (.getfield 37, 3) := by decide +kernel
theorem dX7_takeBack_17 : decode cX7_takeBack 17 = .ok (.iload_n 1, 1) := by decide +kernel
theorem dX7_takeBack_18 : decode cX7_takeBack 18 = .ok (.iaload, 1) := by decide +kernel
theorem dX7_takeBack_19 : decode cX7_takeBack 19 = .ok (.iastore, 1) := by decide +kernel
theorem dX7_takeBack_20 : decode cX7_takeBack 20 = .ok (.iinc 1 1, 3) := by decide +kernel
theorem dX7_takeBack_23 : decode cX7_takeBack 23 = .ok (.goto (-21), 3) := by decide +kernel
theorem dX7_takeBack_26 : decode cX7_takeBack 26 = .ok (.return_, 1) := by decide +kernel
theorem dX7_goOn_0 : decode cX7_goOn 0 = .ok (.iconst 0, 1) := by decide +kernel
theorem dX7_goOn_1 : decode cX7_goOn 1 = .ok (.istore_n 2, 1) := by decide +kernel
theorem dX7_goOn_2 : decode cX7_goOn 2 = .ok (.iload_n 2, 1) := by decide +kernel
theorem dX7_goOn_3 : decode cX7_goOn 3 = .ok (.iload_n 1, 1) := by decide +kernel
theorem dX7_goOn_4 : decode cX7_goOn 4 = .ok (.if_icmp .ge 13, 3) := by decide +kernel
theorem dX7_goOn_7 : decode cX7_goOn 7 = .ok (.aload_n 0, 1) := by decide +kernel
theorem dX7_goOn_8 : decode cX7_goOn 8 = .ok (.invokevirtual 177, 3) := by decide +kernel
theorem dX7_goOn_11 : decode cX7_goOn 11 = .ok (.iinc 2 1, 3) := by decide +kernel
theorem dX7_goOn_14 : decode cX7_goOn 14 = .ok (.goto (-12), 3) := by decide +kernel
theorem dX7_goOn_17 : decode cX7_goOn 17 = .ok (.return_, 1) := by decide +kernel
theorem dX7_isWhat_0 : decode cX7_isWhat 0 = .ok (.iload_n 0, 1) := by decide +kernel
theorem dX7_isWhat_1 : decode cX7_isWhat 1 = .ok (.i2l, 1) := by decide +kernel
theorem dX7_isWhat_2 : decode cX7_isWhat 2 = .ok (.lconst 0, 1) := by decide +kernel
theorem dX7_isWhat_3 : decode cX7_isWhat 3 = .ok (.lconst 1, 1) := by decide +kernel
theorem dX7_isWhat_4 : decode cX7_isWhat 4 = .ok (.invokestatic 57, 3) := by decide +kernel
theorem dX7_isWhat_7 : decode cX7_isWhat 7 = .ok (.ireturn, 1) := by decide +kernel
theorem dX7_ahead_0 : decode cX7_ahead 0 = .ok (.aload_n 0, 1) := by decide +kernel
theorem dX7_ahead_1 : decode cX7_ahead 1 = .ok (.iload_n 1, 1) := by decide +kernel
theorem dX7_ahead_2 : decode cX7_ahead 2 = .ok (.invokevirtual 180, 3) := by decide +kernel
theorem dX7_ahead_5 : decode cX7_ahead 5 = .ok (.ifCond .eq 22, 3) := by decide +kernel
theorem dX7_ahead_8 : decode cX7_ahead 8 = .ok (.iload_n 2, 1) := by decide +kernel
theorem dX7_ahead_9 : decode cX7_ahead 9 = .ok (.i2l, 1) := by decide +kernel
theorem dX7_ahead_10 : decode cX7_ahead 10 = .ok (.lconst 0, 1) := by decide +kernel
theorem dX7_ahead_11 : decode cX7_ahead 11 = .ok (.ldc2_w 195, 3) := by decide +kernel
theorem dX7_ahead_14 : decode cX7_ahead 14 = .ok (.invokestatic 57, 3) := by decide +kernel
theorem dX7_ahead_17 : decode cX7_ahead 17 = .ok (.ifCond .eq 10, 3) := by decide +kernel
theorem dX7_ahead_20 : decode cX7_ahead 20 = .ok (.iload_n 3, 1) := by decide +kernel
theorem dX7_ahead_21 : decode cX7_ahead 21 = .ok (.invokestatic 197, 3) := by decide +kernel
theorem dX7_ahead_24 : decode cX7_ahead 24 = .ok (.ifCond .ne 6, 3) := by decide +kernel
theorem dX7_ahead_27 : decode cX7_ahead 27 = .ok (.ldc 67, 2) := by decide +kernel
theorem dX7_ahead_29 : decode cX7_ahead 29 = .ok (.ireturn, 1) := by decide +kernel
theorem dX7_ahead_30 : decode cX7_ahead 30 = .ok (.aload_n 0, 1) := by decide +kernel
theorem dX7_ahead_31 : decode cX7_ahead 31 = .ok (.invokevirtual 200, 3) := by decide +kernel
theorem dX7_ahead_34 : decode cX7_ahead 34 = .ok (.aload_n 0, 1) := by decide +kernel
theorem dX7_ahead_35 : decode cX7_ahead 35 = .ok (.iload_n 2, 1) := by decide +kernel
theorem dX7_ahead_36 : decode cX7_ahead 36 = .ok (.invokevirtual 203, 3) := by decide +kernel
theorem dX7_ahead_39 : decode cX7_ahead 39 = .ok (.iload_n 3, 1) := by decide +kernel
theorem dX7_ahead_40 : decode cX7_ahead 40 = .ok (.ifCond .ne 15, 3) := by decide +kernel
theorem dX7_ahead_43 : decode cX7_ahead 43 = .ok (.aload_n 0, 1) := by decide +kernel
theorem dX7_ahead_44 : decode cX7_ahead 44 = .ok (.getfield 19, 3) := by decide +kernel
theorem dX7_ahead_47 : decode cX7_ahead 47 = .ok (.bipush 14, 2) := by decide +kernel
theorem dX7_ahead_49 : decode cX7_ahead 49 = .ok (.iload_n 1, 1) := by decide +kernel
theorem dX7_ahead_50 : decode cX7_ahead 50 = .ok (.iadd, 1) := by decide +kernel
theorem dX7_ahead_51 : decode cX7_ahead 51 = .ok (.iaload, 1) := by decide +kernel
theorem dX7_ahead_52 : decode cX7_ahead 52 = .ok (.goto 12, 3) := by decide +kernel
theorem dX7_ahead_55 : decode cX7_ahead 55 = .ok (.aload_n 0, 1) := by decide +kernel
theorem dX7_ahead_56 : decode cX7_ahead 56 = .ok (.getfield 19, 3) := by decide +kernel
theorem dX7_ahead_59 : decode cX7_ahead 59 = .ok (.bipush 22, 2) := by decide +kernel
theorem dX7_ahead_61 : decode cX7_ahead 61 = .ok (.iload_n 1, 1) := by decide +kernel
theorem dX7_ahead_62 : decode cX7_ahead 62 = .ok (.iadd, 1) := by decide +kernel
theorem dX7_ahead_63 : decode cX7_ahead 63 = .ok (.iaload, 1) := by decide +kernel
theorem dX7_ahead_64 : decode cX7_ahead 64 = .ok (.istore 4, 2) := by decide +kernel
theorem dX7_ahead_66 : decode cX7_ahead 66 = .ok (.aload_n 0, 1) := by decide +kernel
theorem dX7_ahead_67 : decode cX7_ahead 67 = .ok (.invokevirtual 207, 3) := by decide +kernel
theorem dX7_ahead_70 : decode cX7_ahead 70 = .ok (.iload 4, 2) := by decide +kernel
theorem dX7_ahead_72 : decode cX7_ahead 72 = .ok (.ireturn, 1) := by decide +kernel
theorem dX7_later_0 : decode cX7_later 0 = .ok (.aload_n 0, 1) := by decide +kernel
theorem dX7_later_1 : decode cX7_later 1 = .ok (.getfield 135, 3) := by decide +kernel
theorem dX7_later_4 : decode cX7_later 4 = .ok (.ifCond .ne 6, 3) := by decide +kernel
theorem dX7_later_7 : decode cX7_later 7 = .ok (.ldc 171, 2) := by decide +kernel
theorem dX7_later_9 : decode cX7_later 9 = .ok (.ireturn, 1) := by decide +kernel
theorem dX7_later_10 : decode cX7_later 10 = .ok (.iload_n 1, 1) := by decide +kernel
theorem dX7_later_11 : decode cX7_later 11 = .ok (.i2l, 1) := by decide +kernel
theorem dX7_later_12 : decode cX7_later 12 = .ok (.lconst 0, 1) := by decide +kernel
theorem dX7_later_13 : decode cX7_later 13 = .ok (.ldc2_w 195, 3) := by decide +kernel
theorem dX7_later_16 : decode cX7_later 16 = .ok (.invokestatic 57, 3) := by decide +kernel
theorem dX7_later_19 : decode cX7_later 19 = .ok (.ifCond .eq 10, 3) := by decide +kernel
theorem dX7_later_22 : decode cX7_later 22 = .ok (.iload_n 2, 1) := by decide +kernel
theorem dX7_later_23 : decode cX7_later 23 = .ok (.invokestatic 197, 3) := by decide +kernel
theorem dX7_later_26 : decode cX7_later 26 = .ok (.ifCond .ne 6, 3) := by decide +kernel
theorem dX7_later_29 : decode cX7_later 29 = .ok (.ldc 67, 2) := by decide +kernel
theorem dX7_later_31 : decode cX7_later 31 = .ok (.ireturn, 1) := by decide +kernel
theorem dX7_later_32 : decode cX7_later 32 = .ok (.aload_n 0, 1) := by decide +kernel
theorem dX7_later_33 : decode cX7_later 33 = .ok (.invokevirtual 200, 3) := by decide +kernel
theorem dX7_later_36 : decode cX7_later 36 = .ok (.aload_n 0, 1) := by decide +kernel
theorem dX7_later_37 : decode cX7_later 37 = .ok (.iload_n 1, 1) := by decide +kernel
theorem dX7_later_38 : decode cX7_later 38 = .ok (.invokevirtual 203, 3) := by decide +kernel
theorem dX7_later_41 : decode cX7_later 41 = .ok (.iload_n 2, 1) := by decide +kernel
theorem dX7_later_42 : decode cX7_later 42 = .ok (.ifCond .ne 12, 3) := by decide +kernel
theorem dX7_later_45 : decode cX7_later 45 = .ok (.aload_n 0, 1) := by decide +kernel
theorem dX7_later_46 : decode cX7_later 46 = .ok (.getfield 19, 3) := by decide +kernel
theorem dX7_later_49 : decode cX7_later 49 = .ok (.iconst 4, 1) := by decide +kernel
theorem dX7_later_50 : decode cX7_later 50 = .ok (.iaload, 1) := by decide +kernel
theorem dX7_later_51 : decode cX7_later 51 = .ok (.goto 9, 3) := by decide +kernel
theorem dX7_later_54 : decode cX7_later 54 = .ok (.aload_n 0, 1) := by decide +kernel
theorem dX7_later_55 : decode cX7_later 55 = .ok (.getfield 19, 3) := by decide +kernel
theorem dX7_later_58 : decode cX7_later 58 = .ok (.iconst 3, 1) := by decide +kernel
theorem dX7_later_59 : decode cX7_later 59 = .ok (.iaload, 1) := by decide +kernel
theorem dX7_later_60 : decode cX7_later 60 = .ok (.istore_n 3, 1) := by decide +kernel
theorem dX7_later_61 : decode cX7_later 61 = .ok (.aload_n 0, 1) := by decide +kernel
theorem dX7_later_62 : decode cX7_later 62 = .ok (.invokevirtual 207, 3) := by decide +kernel
theorem dX7_later_65 : decode cX7_later 65 = .ok (.iload_n 3, 1) := by decide +kernel
theorem dX7_later_66 : decode cX7_later 66 = .ok (.ireturn, 1) := by decide +kernel
theorem dX7_isNow_0 : decode cX7_isNow 0 = .ok (.iload_n 2, 1) := by decide +kernel
theorem dX7_isNow_1 : decode cX7_isNow 1 = .ok (.ifCond .ne 16, 3) := by decide +kernel
theorem dX7_isNow_4 : decode cX7_isNow 4 = .ok (.aload_n 0, 1) := by decide +kernel
theorem dX7_isNow_5 : decode cX7_isNow 5 = .ok (.getfield 19, 3) := by decide +kernel
theorem dX7_isNow_8 : decode cX7_isNow 8 = .ok (.iconst 4, 1) := by decide +kernel
theorem dX7_isNow_9 : decode cX7_isNow 9 = .ok (.iaload, 1) := by decide +kernel
theorem dX7_isNow_10 : decode cX7_isNow 10 = .ok (.iload_n 1, 1) := by decide +kernel
theorem dX7_isNow_11 : decode cX7_isNow 11 = .ok (.invokestatic 145, 3) := by decide +kernel
theorem dX7_isNow_14 : decode cX7_isNow 14 = .ok (.goto 20, 3) := by decide +kernel
theorem dX7_isNow_17 : decode cX7_isNow 17 = .ok (.aload_n 0, 1) := by decide +kernel
theorem dX7_isNow_18 : decode cX7_isNow 18 = .ok (.getfield 19, 3) := by decide +kernel
theorem dX7_isNow_21 : decode cX7_isNow 21 = .ok (.bipush 14, 2) := by decide +kernel
theorem dX7_isNow_23 : decode cX7_isNow 23 = .ok (.iload_n 1, 1) := by decide +kernel
theorem dX7_isNow_24 : decode cX7_isNow 24 = .ok (.iadd, 1) := by decide +kernel
theorem dX7_isNow_25 : decode cX7_isNow 25 = .ok (.iaload, 1) := by decide +kernel
theorem dX7_isNow_26 : decode cX7_isNow 26 = .ok (.ifCond .ne 7, 3) := by decide +kernel
theorem dX7_isNow_29 : decode cX7_isNow 29 = .ok (.iconst 1, 1) := by decide +kernel
theorem dX7_isNow_30 : decode cX7_isNow 30 = .ok (.goto 4, 3) := by decide +kernel
theorem dX7_isNow_33 : decode cX7_isNow 33 = .ok (.iconst 0, 1) := by decide +kernel
theorem dX7_isNow_34 : decode cX7_isNow 34 = .ok (.ireturn, 1) := by decide +kernel
theorem dX7_when_0 : decode cX7_when 0 = .ok (.aload_n 0, 1) := by decide +kernel
theorem dX7_when_1 : decode cX7_when 1 = .ok (.iload_n 1, 1) := by decide +kernel
theorem dX7_when_2 : decode cX7_when 2 = .ok (.invokevirtual 180, 3) := by decide +kernel
theorem dX7_when_5 : decode cX7_when 5 = .ok (.ifCond .eq 10, 3) := by decide +kernel
theorem dX7_when_8 : decode cX7_when 8 = .ok (.iload_n 2, 1) := by decide +kernel
theorem dX7_when_9 : decode cX7_when 9 = .ok (.invokestatic 197, 3) := by decide +kernel
theorem dX7_when_12 : decode cX7_when 12 = .ok (.ifCond .ne 6, 3) := by decide +kernel
theorem dX7_when_15 : decode cX7_when 15 = .ok (.ldc 67, 2) := by decide +kernel
theorem dX7_when_17 : decode cX7_when 17 = .ok (.ireturn, 1) := by decide +kernel
theorem dX7_when_18 : decode cX7_when 18 = .ok (.aload_n 0, 1) := by decide +kernel
theorem dX7_when_19 : decode cX7_when 19 = .ok (.invokevirtual 200, 3) := by decide +kernel
theorem dX7_when_22 : decode cX7_when 22 = .ok (.iconst 0, 1) := by decide +kernel
theorem dX7_when_23 : decode cX7_when 23 = .ok (.istore_n 3, 1) := by decide +kernel
theorem dX7_when_24 : decode cX7_when 24 = .ok (.aload_n 0, 1) := by decide +kernel
theorem dX7_when_25 : decode cX7_when 25 = .ok (.iload_n 1, 1) := by decide +kernel
theorem dX7_when_26 : decode cX7_when 26 = .ok (.iload_n 2, 1) := by decide +kernel
theorem dX7_when_27 : decode cX7_when 27 = .ok (.invokevirtual 210, 3) := by decide +kernel
theorem dX7_when_30 : decode cX7_when 30 = .ok (.ifCond .ne 19, 3) := by decide +kernel
theorem dX7_when_33 : decode cX7_when 33 = .ok (.iload_n 3, 1) := by decide +kernel
theorem dX7_when_34 : decode cX7_when 34 = .ok (.bipush 60, 2) := by decide +kernel
theorem dX7_when_36 : decode cX7_when 36 = .ok (.if_icmp .ge 13, 3) := by decide +kernel
theorem dX7_when_39 : decode cX7_when 39 = .ok (.aload_n 0, 1) := by decide +kernel
theorem dX7_when_40 : decode cX7_when 40 = .ok (.invokevirtual 177, 3) := by decide +kernel
theorem dX7_when_43 : decode cX7_when 43 = .ok (.iinc 3 1, 3) := by decide +kernel
theorem dX7_when_46 : decode cX7_when 46 = .ok (.goto (-22), 3) := by decide +kernel
theorem dX7_when_49 : decode cX7_when 49 = .ok (.aload_n 0, 1) := by decide +kernel
theorem dX7_when_50 : decode cX7_when 50 = .ok (.iload_n 1, 1) := by decide +kernel
theorem dX7_when_51 : decode cX7_when 51 = .ok (.iload_n 2, 1) := by decide +kernel
theorem dX7_when_52 : decode cX7_when 52 = .ok (.invokevirtual 210, 3) := by decide +kernel
theorem dX7_when_55 : decode cX7_when 55 = .ok (.istore 4, 2) := by decide +kernel
theorem dX7_when_57 : decode cX7_when 57 = .ok (.aload_n 0, 1) := by decide +kernel
theorem dX7_when_58 : decode cX7_when 58 = .ok (.invokevirtual 207, 3) := by decide +kernel
theorem dX7_when_61 : decode cX7_when 61 = .ok (.iload 4, 2) := by decide +kernel
theorem dX7_when_63 : decode cX7_when 63 = .ok (.ifCond .eq 7, 3) := by decide +kernel
theorem dX7_when_66 : decode cX7_when 66 = .ok (.iload_n 3, 1) := by decide +kernel
theorem dX7_when_67 : decode cX7_when 67 = .ok (.goto 5, 3) := by decide +kernel
theorem dX7_when_70 : decode cX7_when 70 = .ok (.ldc 213, 2) := by decide +kernel
theorem dX7_when_72 : decode cX7_when 72 = .ok (.ireturn, 1) := by decide +kernel
theorem dX7_dead_0 : decode cX7_dead 0 = .ok (.aload_n 0, 1) := by decide +kernel
theorem dX7_dead_1 : decode cX7_dead 1 = .ok (.getfield 135, 3) := by decide +kernel
theorem dX7_dead_4 : decode cX7_dead 4 = .ok (.ifCond .ne 6, 3) := by decide +kernel
theorem dX7_dead_7 : decode cX7_dead 7 = .ok (.ldc 171, 2) := by decide +kernel
theorem dX7_dead_9 : decode cX7_dead 9 = .ok (.ireturn, 1) := by decide +kernel
theorem dX7_dead_10 : decode cX7_dead 10 = .ok (.iload_n 1, 1) := by decide +kernel
theorem dX7_dead_11 : decode cX7_dead 11 = .ok (.invokestatic 197, 3) := by decide +kernel
theorem dX7_dead_14 : decode cX7_dead 14 = .ok (.ifCond .ne 6, 3) := by decide +kernel
theorem dX7_dead_17 : decode cX7_dead 17 = .ok (.ldc 67, 2) := by decide +kernel
theorem dX7_dead_19 : decode cX7_dead 19 = .ok (.ireturn, 1) := by decide +kernel
theorem dX7_dead_20 : decode cX7_dead 20 = .ok (.aload_n 0, 1) := by decide +kernel
theorem dX7_dead_21 : decode cX7_dead 21 = .ok (.invokevirtual 200, 3) := by decide +kernel
theorem dX7_dead_24 : decode cX7_dead 24 = .ok (.iconst 0, 1) := by decide +kernel
theorem dX7_dead_25 : decode cX7_dead 25 = .ok (.istore_n 2, 1) := by decide +kernel
theorem dX7_dead_26 : decode cX7_dead 26 = .ok (.aload_n 0, 1) := by decide +kernel
theorem dX7_dead_27 : decode cX7_dead 27 = .ok (.getfield 19, 3) := by decide +kernel
theorem dX7_dead_30 : decode cX7_dead 30 = .ok (.iconst 4, 1) := by decide +kernel
theorem dX7_dead_31 : decode cX7_dead 31 = .ok (.iaload, 1) := by decide +kernel
theorem dX7_dead_32 : decode cX7_dead 32 = .ok (.ifCond .eq 20, 3) := by decide +kernel
theorem dX7_dead_35 : decode cX7_dead 35 = .ok (.iload_n 2, 1) := by decide +kernel
theorem dX7_dead_36 : decode cX7_dead 36 = .ok (.sipush 200, 3) := by decide +kernel
theorem dX7_dead_39 : decode cX7_dead 39 = .ok (.if_icmp .ge 13, 3) := by decide +kernel
theorem dX7_dead_42 : decode cX7_dead 42 = .ok (.aload_n 0, 1) := by decide +kernel
theorem dX7_dead_43 : decode cX7_dead 43 = .ok (.invokevirtual 177, 3) := by decide +kernel
theorem dX7_dead_46 : decode cX7_dead 46 = .ok (.iinc 2 1, 3) := by decide +kernel
theorem dX7_dead_49 : decode cX7_dead 49 = .ok (.goto (-23), 3) := by decide +kernel
theorem dX7_dead_52 : decode cX7_dead 52 = .ok (.aload_n 0, 1) := by decide +kernel
theorem dX7_dead_53 : decode cX7_dead 53 = .ok (.getfield 19, 3) := by decide +kernel
theorem dX7_dead_56 : decode cX7_dead 56 = .ok (.iconst 4, 1) := by decide +kernel
theorem dX7_dead_57 : decode cX7_dead 57 = .ok (.iaload, 1) := by decide +kernel
theorem dX7_dead_58 : decode cX7_dead 58 = .ok (.ifCond .ne 7, 3) := by decide +kernel
theorem dX7_dead_61 : decode cX7_dead 61 = .ok (.iconst 1, 1) := by decide +kernel
theorem dX7_dead_62 : decode cX7_dead 62 = .ok (.goto 4, 3) := by decide +kernel
theorem dX7_dead_65 : decode cX7_dead 65 = .ok (.iconst 0, 1) := by decide +kernel
theorem dX7_dead_66 : decode cX7_dead 66 = .ok (.istore_n 3, 1) := by decide +kernel
theorem dX7_dead_67 : decode cX7_dead 67 = .ok (.iconst 1, 1) := by decide +kernel
theorem dX7_dead_68 : decode cX7_dead 68 = .ok (.aload_n 0, 1) := by decide +kernel
theorem dX7_dead_69 : decode cX7_dead 69 = .ok (.getfield 19, 3) := by decide +kernel
theorem dX7_dead_72 : decode cX7_dead 72 = .ok (.iconst 0, 1) := by decide +kernel
theorem dX7_dead_73 : decode cX7_dead 73 = .ok (.iaload, 1) := by decide +kernel
theorem dX7_dead_74 : decode cX7_dead 74 = .ok (.ishl, 1) := by decide +kernel
theorem dX7_dead_75 : decode cX7_dead 75 = .ok (.iconst 1, 1) := by decide +kernel
theorem dX7_dead_76 : decode cX7_dead 76 = .ok (.isub, 1) := by decide +kernel
theorem dX7_dead_77 : decode cX7_dead 77 = .ok (.aload_n 0, 1) := by decide +kernel
theorem dX7_dead_78 : decode cX7_dead 78 = .ok (.invokevirtual 214, 3) := by decide +kernel
theorem dX7_dead_81 : decode cX7_dead 81 = .ok (.iconst (-1), 1) := by decide +kernel
theorem dX7_dead_82 : decode cX7_dead 82 = .ok (.ixor, 1) := by decide +kernel
theorem dX7_dead_83 : decode cX7_dead 83 = .ok (.iand, 1) := by decide +kernel
theorem dX7_dead_84 : decode cX7_dead 84 = .ok (.aload_n 0, 1) := by decide +kernel
theorem dX7_dead_85 : decode cX7_dead 85 = .ok (.getfield 19, 3) := by decide +kernel
theorem dX7_dead_88 : decode cX7_dead 88 = .ok (.iconst 5, 1) := by decide +kernel
theorem dX7_dead_89 : decode cX7_dead 89 = .ok (.iaload, 1) := by decide +kernel
theorem dX7_dead_90 : decode cX7_dead 90 = .ok (.iconst (-1), 1) := by decide +kernel
theorem dX7_dead_91 : decode cX7_dead 91 = .ok (.ixor, 1) := by decide +kernel
theorem dX7_dead_92 : decode cX7_dead 92 = .ok (.iand, 1) := by decide +kernel
theorem dX7_dead_93 : decode cX7_dead 93 = .ok (.istore 4, 2) := by decide +kernel
theorem dX7_dead_95 : decode cX7_dead 95 = .ok (.aload_n 0, 1) := by decide +kernel
theorem dX7_dead_96 : decode cX7_dead 96 = .ok (.invokevirtual 207, 3) := by decide +kernel
theorem dX7_dead_99 : decode cX7_dead 99 = .ok (.iload_n 1, 1) := by decide +kernel
theorem dX7_dead_100 : decode cX7_dead 100 = .ok (.iconst 1, 1) := by decide +kernel
theorem dX7_dead_101 : decode cX7_dead 101 = .ok (.if_icmp .ne 8, 3) := by decide +kernel
theorem dX7_dead_104 : decode cX7_dead 104 = .ok (.iload 4, 2) := by decide +kernel
theorem dX7_dead_106 : decode cX7_dead 106 = .ok (.goto 13, 3) := by decide +kernel
theorem dX7_dead_109 : decode cX7_dead 109 = .ok (.iload_n 3, 1) := by decide +kernel
theorem dX7_dead_110 : decode cX7_dead 110 = .ok (.ifCond .eq 7, 3) := by decide +kernel
theorem dX7_dead_113 : decode cX7_dead 113 = .ok (.iload_n 2, 1) := by decide +kernel
theorem dX7_dead_114 : decode cX7_dead 114 = .ok (.goto 5, 3) := by decide +kernel
theorem dX7_dead_117 : decode cX7_dead 117 = .ok (.ldc 213, 2) := by decide +kernel
theorem dX7_dead_119 : decode cX7_dead 119 = .ok (.ireturn, 1) := by decide +kernel
theorem dX7_ashesBehind_0 : decode cX7_ashesBehind 0 = .ok (.aload_n 0, 1) := by decide +kernel
theorem dX7_ashesBehind_1 : decode cX7_ashesBehind 1 = .ok (.iload_n 1, 1) := by decide +kernel
theorem dX7_ashesBehind_2 : decode cX7_ashesBehind 2 = .ok (.invokevirtual 203, 3) := by decide +kernel
theorem dX7_ashesBehind_5 : decode cX7_ashesBehind 5 = .ok (.aload_n 0, 1) := by decide +kernel
theorem dX7_ashesBehind_6 : decode cX7_ashesBehind 6 = .ok (.invokevirtual 214, 3) := by decide +kernel
theorem dX7_ashesBehind_9 : decode cX7_ashesBehind 9 = .ok (.istore_n 2, 1) := by decide +kernel
theorem dX7_ashesBehind_10 : decode cX7_ashesBehind 10 = .ok (.aload_n 0, 1) := by decide +kernel
theorem dX7_ashesBehind_11 : decode cX7_ashesBehind 11 = .ok (.invokevirtual 207, 3) := by decide +kernel
theorem dX7_ashesBehind_14 : decode cX7_ashesBehind 14 = .ok (.iload_n 2, 1) := by decide +kernel
theorem dX7_ashesBehind_15 : decode cX7_ashesBehind 15 = .ok (.ireturn, 1) := by decide +kernel
theorem dX7_kindle_0 : decode cX7_kindle 0 = .ok (.aload_n 0, 1) := by decide +kernel
theorem dX7_kindle_1 : decode cX7_kindle 1 = .ok (.getfield 135, 3) := by decide +kernel
theorem dX7_kindle_4 : decode cX7_kindle 4 = .ok (.ifCond .ne 6, 3) := by decide +kernel
theorem dX7_kindle_7 : decode cX7_kindle 7 = .ok (.ldc 171, 2) := by decide +kernel
theorem dX7_kindle_9 : decode cX7_kindle 9 = .ok (.ireturn, 1) := by decide +kernel
theorem dX7_kindle_10 : decode cX7_kindle 10 = .ok (.iload_n 1, 1) := by decide +kernel
theorem dX7_kindle_11 : decode cX7_kindle 11 = .ok (.i2l, 1) := by decide +kernel
theorem dX7_kindle_12 : decode cX7_kindle 12 = .ok (.lconst 0, 1) := by decide +kernel
theorem dX7_kindle_13 : decode cX7_kindle 13 = .ok (.iconst 1, 1) := by decide +kernel
theorem dX7_kindle_14 : decode cX7_kindle 14 = .ok (.aload_n 0, 1) := by decide +kernel
theorem dX7_kindle_15 : decode cX7_kindle 15 = .ok (.getfield 19, 3) := by decide +kernel
theorem dX7_kindle_18 : decode cX7_kindle 18 = .ok (.iconst 0, 1) := by decide +kernel
theorem dX7_kindle_19 : decode cX7_kindle 19 = .ok (.iaload, 1) := by decide +kernel
theorem dX7_kindle_20 : decode cX7_kindle 20 = .ok (.ishl, 1) := by decide +kernel
theorem dX7_kindle_21 : decode cX7_kindle 21 = .ok (.iconst 1, 1) := by decide +kernel
theorem dX7_kindle_22 : decode cX7_kindle 22 = .ok (.isub, 1) := by decide +kernel
theorem dX7_kindle_23 : decode cX7_kindle 23 = .ok (.i2l, 1) := by decide +kernel
theorem dX7_kindle_24 : decode cX7_kindle 24 = .ok (.invokestatic 57, 3) := by decide +kernel
theorem dX7_kindle_27 : decode cX7_kindle 27 = .ok (.ifCond .eq 22, 3) := by decide +kernel
theorem dX7_kindle_30 : decode cX7_kindle 30 = .ok (.iload_n 2, 1) := by decide +kernel
theorem dX7_kindle_31 : decode cX7_kindle 31 = .ok (.i2l, 1) := by decide +kernel
theorem dX7_kindle_32 : decode cX7_kindle 32 = .ok (.lconst 1, 1) := by decide +kernel
theorem dX7_kindle_33 : decode cX7_kindle 33 = .ok (.ldc2_w 195, 3) := by decide +kernel
theorem dX7_kindle_36 : decode cX7_kindle 36 = .ok (.invokestatic 57, 3) := by decide +kernel
theorem dX7_kindle_39 : decode cX7_kindle 39 = .ok (.ifCond .eq 10, 3) := by decide +kernel
theorem dX7_kindle_42 : decode cX7_kindle 42 = .ok (.iload_n 3, 1) := by decide +kernel
theorem dX7_kindle_43 : decode cX7_kindle 43 = .ok (.invokestatic 197, 3) := by decide +kernel
theorem dX7_kindle_46 : decode cX7_kindle 46 = .ok (.ifCond .ne 6, 3) := by decide +kernel
theorem dX7_kindle_49 : decode cX7_kindle 49 = .ok (.ldc 67, 2) := by decide +kernel
theorem dX7_kindle_51 : decode cX7_kindle 51 = .ok (.ireturn, 1) := by decide +kernel
theorem dX7_kindle_52 : decode cX7_kindle 52 = .ok (.iconst 0, 1) := by decide +kernel
theorem dX7_kindle_53 : decode cX7_kindle 53 = .ok (.istore 4, 2) := by decide +kernel
theorem dX7_kindle_55 : decode cX7_kindle 55 = .ok (.iconst 0, 1) := by decide +kernel
theorem dX7_kindle_56 : decode cX7_kindle 56 = .ok (.istore 5, 2) := by decide +kernel
theorem dX7_kindle_58 : decode cX7_kindle 58 = .ok (.iload 5, 2) := by decide +kernel
theorem dX7_kindle_60 : decode cX7_kindle 60 = .ok (.aload_n 0, 1) := by decide +kernel
theorem dX7_kindle_61 : decode cX7_kindle 61 = .ok (.getfield 19, 3) := by decide +kernel
theorem dX7_kindle_64 : decode cX7_kindle 64 = .ok (.iconst 0, 1) := by decide +kernel
theorem dX7_kindle_65 : decode cX7_kindle 65 = .ok (.iaload, 1) := by decide +kernel
theorem dX7_kindle_66 : decode cX7_kindle 66 = .ok (.if_icmp .ge 31, 3) := by decide +kernel
theorem dX7_kindle_69 : decode cX7_kindle 69 = .ok (.iload 4, 2) := by decide +kernel
theorem dX7_kindle_71 : decode cX7_kindle 71 = .ok (.aload_n 0, 1) := by decide +kernel
theorem dX7_kindle_72 : decode cX7_kindle 72 = .ok (.iload 5, 2) := by decide +kernel
theorem dX7_kindle_74 : decode cX7_kindle 74 = .ok (.invokevirtual 183, 3) := by decide +kernel
theorem dX7_kindle_77 : decode cX7_kindle 77 = .ok (.ifCond .eq 10, 3) := by decide +kernel
theorem dX7_kindle_80 : decode cX7_kindle 80 = .ok (.iconst 1, 1) := by decide +kernel
theorem dX7_kindle_81 : decode cX7_kindle 81 = .ok (.iload 5, 2) := by decide +kernel
theorem dX7_kindle_83 : decode cX7_kindle 83 = .ok (.ishl, 1) := by decide +kernel
theorem dX7_kindle_84 : decode cX7_kindle 84 = .ok (.goto 4, 3) := by decide +kernel
theorem dX7_kindle_87 : decode cX7_kindle 87 = .ok (.iconst 0, 1) := by decide +kernel
theorem dX7_kindle_88 : decode cX7_kindle 88 = .ok (.ior, 1) := by decide +kernel
theorem dX7_kindle_89 : decode cX7_kindle 89 = .ok (.istore 4, 2) := by decide +kernel
theorem dX7_kindle_91 : decode cX7_kindle 91 = .ok (.iinc 5 1, 3) := by decide +kernel
theorem dX7_kindle_94 : decode cX7_kindle 94 = .ok (.goto (-36), 3) := by decide +kernel
theorem dX7_kindle_97 : decode cX7_kindle 97 = .ok (.aload_n 0, 1) := by decide +kernel
theorem dX7_kindle_98 : decode cX7_kindle 98 = .ok (.invokevirtual 200, 3) := by decide +kernel
theorem dX7_kindle_101 : decode cX7_kindle 101 = .ok (.ldc 213, 2) := by decide +kernel
theorem dX7_kindle_103 : decode cX7_kindle 103 = .ok (.istore 5, 2) := by decide +kernel
theorem dX7_kindle_105 : decode cX7_kindle 105 = .ok (.iconst 0, 1) := by decide +kernel
theorem dX7_kindle_106 : decode cX7_kindle 106 = .ok (.istore 6, 2) := by decide +kernel
theorem dX7_kindle_108 : decode cX7_kindle 108 = .ok (.iload 6, 2) := by decide +kernel
theorem dX7_kindle_110 : decode cX7_kindle 110 = .ok (.iload 4, 2) := by decide +kernel
theorem dX7_kindle_112 : decode cX7_kindle 112 = .ok (.if_icmp .gt 69, 3) := by decide +kernel
theorem dX7_kindle_115 : decode cX7_kindle 115 = .ok (.iload 6, 2) := by decide +kernel
theorem dX7_kindle_117 : decode cX7_kindle 117 = .ok (.iload 4, 2) := by decide +kernel
theorem dX7_kindle_119 : decode cX7_kindle 119 = .ok (.iconst (-1), 1) := by decide +kernel
theorem dX7_kindle_120 : decode cX7_kindle 120 = .ok (.ixor, 1) := by decide +kernel
theorem dX7_kindle_121 : decode cX7_kindle 121 = .ok (.iand, 1) := by decide +kernel
theorem dX7_kindle_122 : decode cX7_kindle 122 = .ok (.ifCond .ne 53, 3) := by decide +kernel
theorem dX7_kindle_125 : decode cX7_kindle 125 = .ok (.iload 5, 2) := by decide +kernel
theorem dX7_kindle_127 : decode cX7_kindle 127 = .ok (.ifCond .lt 16, 3) := by decide +kernel
theorem dX7_kindle_130 : decode cX7_kindle 130 = .ok (.iload 6, 2) := by decide +kernel
theorem dX7_kindle_132 : decode cX7_kindle 132 = .ok (.invokestatic 218, 3) := by decide +kernel
theorem dX7_kindle_135 : decode cX7_kindle 135 = .ok (.iload 5, 2) := by decide +kernel
theorem dX7_kindle_137 : decode cX7_kindle 137 = .ok (.invokestatic 218, 3) := by decide +kernel
theorem dX7_kindle_140 : decode cX7_kindle 140 = .ok (.if_icmp .ge 35, 3) := by decide +kernel
theorem dX7_kindle_143 : decode cX7_kindle 143 = .ok (.aload_n 0, 1) := by decide +kernel
theorem dX7_kindle_144 : decode cX7_kindle 144 = .ok (.getfield 19, 3) := by decide +kernel
theorem dX7_kindle_147 : decode cX7_kindle 147 = .ok (.iconst 4, 1) := by decide +kernel
theorem dX7_kindle_148 : decode cX7_kindle 148 = .ok (.dup2, 1) := by decide +kernel
theorem dX7_kindle_149 : decode cX7_kindle 149 = .ok (.iaload, 1) := by decide +kernel
theorem dX7_kindle_150 : decode cX7_kindle 150 = .ok (.iload 6, 2) := by decide +kernel
theorem dX7_kindle_152 : decode cX7_kindle 152 = .ok (.ior, 1) := by decide +kernel
theorem dX7_kindle_153 : decode cX7_kindle 153 = .ok (.iastore, 1) := by decide +kernel
theorem dX7_kindle_154 : decode cX7_kindle 154 = .ok (.iload_n 1, 1) := by decide +kernel
theorem dX7_kindle_155 : decode cX7_kindle 155 = .ok (.aload_n 0, 1) := by decide +kernel
theorem dX7_kindle_156 : decode cX7_kindle 156 = .ok (.iload_n 2, 1) := by decide +kernel
theorem dX7_kindle_157 : decode cX7_kindle 157 = .ok (.invokevirtual 221, 3) := by decide +kernel
theorem dX7_kindle_160 : decode cX7_kindle 160 = .ok (.iconst (-1), 1) := by decide +kernel
theorem dX7_kindle_161 : decode cX7_kindle 161 = .ok (.ixor, 1) := by decide +kernel
theorem dX7_kindle_162 : decode cX7_kindle 162 = .ok (.iand, 1) := by decide +kernel
theorem dX7_kindle_163 : decode cX7_kindle 163 = .ok (.ifCond .ne 8, 3) := by decide +kernel
theorem dX7_kindle_166 : decode cX7_kindle 166 = .ok (.iload 6, 2) := by decide +kernel
theorem dX7_kindle_168 : decode cX7_kindle 168 = .ok (.goto 5, 3) := by decide +kernel
theorem dX7_kindle_171 : decode cX7_kindle 171 = .ok (.iload 5, 2) := by decide +kernel
theorem dX7_kindle_173 : decode cX7_kindle 173 = .ok (.istore 5, 2) := by decide +kernel
theorem dX7_kindle_175 : decode cX7_kindle 175 = .ok (.iinc 6 1, 3) := by decide +kernel
theorem dX7_kindle_178 : decode cX7_kindle 178 = .ok (.goto (-70), 3) := by decide +kernel
theorem dX7_kindle_181 : decode cX7_kindle 181 = .ok (.iload 5, 2) := by decide +kernel
theorem dX7_kindle_183 : decode cX7_kindle 183 = .ok (.ifCond .lt 8, 3) := by decide +kernel
theorem dX7_kindle_186 : decode cX7_kindle 186 = .ok (.iload_n 3, 1) := by decide +kernel
theorem dX7_kindle_187 : decode cX7_kindle 187 = .ok (.iconst 1, 1) := by decide +kernel
theorem dX7_kindle_188 : decode cX7_kindle 188 = .ok (.if_icmp .ne 8, 3) := by decide +kernel
theorem dX7_kindle_191 : decode cX7_kindle 191 = .ok (.iload 5, 2) := by decide +kernel
theorem dX7_kindle_193 : decode cX7_kindle 193 = .ok (.goto 8, 3) := by decide +kernel
theorem dX7_kindle_196 : decode cX7_kindle 196 = .ok (.iload 5, 2) := by decide +kernel
theorem dX7_kindle_198 : decode cX7_kindle 198 = .ok (.invokestatic 218, 3) := by decide +kernel
theorem dX7_kindle_201 : decode cX7_kindle 201 = .ok (.ireturn, 1) := by decide +kernel
theorem dX7_isSpared_0 : decode cX7_isSpared 0 = .ok (.aload_n 0, 1) := by decide +kernel
theorem dX7_isSpared_1 : decode cX7_isSpared 1 = .ok (.getfield 19, 3) := by decide +kernel
theorem dX7_isSpared_4 : decode cX7_isSpared 4 = .ok (.iconst 4, 1) := by decide +kernel
theorem dX7_isSpared_5 : decode cX7_isSpared 5 = .ok (.iaload, 1) := by decide +kernel
theorem dX7_isSpared_6 : decode cX7_isSpared 6 = .ok (.iload_n 1, 1) := by decide +kernel
theorem dX7_isSpared_7 : decode cX7_isSpared 7 = .ok (.invokestatic 145, 3) := by decide +kernel
theorem dX7_isSpared_10 : decode cX7_isSpared 10 = .ok (.ifCond .ne 7, 3) := by decide +kernel
theorem dX7_isSpared_13 : decode cX7_isSpared 13 = .ok (.iconst 1, 1) := by decide +kernel
theorem dX7_isSpared_14 : decode cX7_isSpared 14 = .ok (.goto 4, 3) := by decide +kernel
theorem dX7_isSpared_17 : decode cX7_isSpared 17 = .ok (.iconst 0, 1) := by decide +kernel
theorem dX7_isSpared_18 : decode cX7_isSpared 18 = .ok (.istore_n 3, 1) := by decide +kernel
theorem dX7_isSpared_19 : decode cX7_isSpared 19 = .ok (.iconst 0, 1) := by decide +kernel
theorem dX7_isSpared_20 : decode cX7_isSpared 20 = .ok (.istore 4, 2) := by decide +kernel
theorem dX7_isSpared_22 : decode cX7_isSpared 22 = .ok (.iload 4, 2) := by decide +kernel
theorem dX7_isSpared_24 : decode cX7_isSpared 24 = .ok (.iload_n 2, 1) := by decide +kernel
theorem dX7_isSpared_25 : decode cX7_isSpared 25 = .ok (.if_icmp .ge 36, 3) := by decide +kernel
theorem dX7_isSpared_28 : decode cX7_isSpared 28 = .ok (.iload_n 3, 1) := by decide +kernel
theorem dX7_isSpared_29 : decode cX7_isSpared 29 = .ok (.ifCond .eq 32, 3) := by decide +kernel
theorem dX7_isSpared_32 : decode cX7_isSpared 32 = .ok (.aload_n 0, 1) := by decide +kernel
theorem dX7_isSpared_33 : decode cX7_isSpared 33 = .ok (.invokevirtual 177, 3) := by decide +kernel
theorem dX7_isSpared_36 : decode cX7_isSpared 36 = .ok (.aload_n 0, 1) := by decide +kernel
theorem dX7_isSpared_37 : decode cX7_isSpared 37 = .ok (.getfield 19, 3) := by decide +kernel
theorem dX7_isSpared_40 : decode cX7_isSpared 40 = .ok (.iconst 4, 1) := by decide +kernel
theorem dX7_isSpared_41 : decode cX7_isSpared 41 = .ok (.iaload, 1) := by decide +kernel
theorem dX7_isSpared_42 : decode cX7_isSpared 42 = .ok (.iload_n 1, 1) := by decide +kernel
theorem dX7_isSpared_43 : decode cX7_isSpared 43 = .ok (.invokestatic 145, 3) := by decide +kernel
theorem dX7_isSpared_46 : decode cX7_isSpared 46 = .ok (.ifCond .ne 7, 3) := by decide +kernel
theorem dX7_isSpared_49 : decode cX7_isSpared 49 = .ok (.iconst 1, 1) := by decide +kernel
theorem dX7_isSpared_50 : decode cX7_isSpared 50 = .ok (.goto 4, 3) := by decide +kernel
theorem dX7_isSpared_53 : decode cX7_isSpared 53 = .ok (.iconst 0, 1) := by decide +kernel
theorem dX7_isSpared_54 : decode cX7_isSpared 54 = .ok (.istore_n 3, 1) := by decide +kernel
theorem dX7_isSpared_55 : decode cX7_isSpared 55 = .ok (.iinc 4 1, 3) := by decide +kernel
theorem dX7_isSpared_58 : decode cX7_isSpared 58 = .ok (.goto (-36), 3) := by decide +kernel
theorem dX7_isSpared_61 : decode cX7_isSpared 61 = .ok (.aload_n 0, 1) := by decide +kernel
theorem dX7_isSpared_62 : decode cX7_isSpared 62 = .ok (.invokevirtual 207, 3) := by decide +kernel
theorem dX7_isSpared_65 : decode cX7_isSpared 65 = .ok (.iload_n 3, 1) := by decide +kernel
theorem dX7_isSpared_66 : decode cX7_isSpared 66 = .ok (.ireturn, 1) := by decide +kernel
theorem dX7_spare_0 : decode cX7_spare 0 = .ok (.aload_n 0, 1) := by decide +kernel
theorem dX7_spare_1 : decode cX7_spare 1 = .ok (.iload_n 1, 1) := by decide +kernel
theorem dX7_spare_2 : decode cX7_spare 2 = .ok (.invokevirtual 180, 3) := by decide +kernel
theorem dX7_spare_5 : decode cX7_spare 5 = .ok (.ifCond .eq 15, 3) := by decide +kernel
theorem dX7_spare_8 : decode cX7_spare 8 = .ok (.iload_n 2, 1) := by decide +kernel
theorem dX7_spare_9 : decode cX7_spare 9 = .ok (.i2l, 1) := by decide +kernel
theorem dX7_spare_10 : decode cX7_spare 10 = .ok (.lconst 1, 1) := by decide +kernel
theorem dX7_spare_11 : decode cX7_spare 11 = .ok (.ldc2_w 224, 3) := by decide +kernel
theorem dX7_spare_14 : decode cX7_spare 14 = .ok (.invokestatic 57, 3) := by decide +kernel
theorem dX7_spare_17 : decode cX7_spare 17 = .ok (.ifCond .ne 6, 3) := by decide +kernel
theorem dX7_spare_20 : decode cX7_spare 20 = .ok (.ldc 67, 2) := by decide +kernel
theorem dX7_spare_22 : decode cX7_spare 22 = .ok (.ireturn, 1) := by decide +kernel
theorem dX7_spare_23 : decode cX7_spare 23 = .ok (.aload_n 0, 1) := by decide +kernel
theorem dX7_spare_24 : decode cX7_spare 24 = .ok (.getfield 19, 3) := by decide +kernel
theorem dX7_spare_27 : decode cX7_spare 27 = .ok (.iconst 5, 1) := by decide +kernel
theorem dX7_spare_28 : decode cX7_spare 28 = .ok (.iaload, 1) := by decide +kernel
theorem dX7_spare_29 : decode cX7_spare 29 = .ok (.iload_n 1, 1) := by decide +kernel
theorem dX7_spare_30 : decode cX7_spare 30 = .ok (.invokestatic 145, 3) := by decide +kernel
theorem dX7_spare_33 : decode cX7_spare 33 = .ok (.ifCond .eq 6, 3) := by decide +kernel
theorem dX7_spare_36 : decode cX7_spare 36 = .ok (.ldc 171, 2) := by decide +kernel
theorem dX7_spare_38 : decode cX7_spare 38 = .ok (.ireturn, 1) := by decide +kernel
theorem dX7_spare_39 : decode cX7_spare 39 = .ok (.aload_n 0, 1) := by decide +kernel
theorem dX7_spare_40 : decode cX7_spare 40 = .ok (.invokevirtual 200, 3) := by decide +kernel
theorem dX7_spare_43 : decode cX7_spare 43 = .ok (.ldc 213, 2) := by decide +kernel
theorem dX7_spare_45 : decode cX7_spare 45 = .ok (.istore_n 3, 1) := by decide +kernel
theorem dX7_spare_46 : decode cX7_spare 46 = .ok (.iconst 0, 1) := by decide +kernel
theorem dX7_spare_47 : decode cX7_spare 47 = .ok (.istore 4, 2) := by decide +kernel
theorem dX7_spare_49 : decode cX7_spare 49 = .ok (.iload 4, 2) := by decide +kernel
theorem dX7_spare_51 : decode cX7_spare 51 = .ok (.bipush 20, 2) := by decide +kernel
theorem dX7_spare_53 : decode cX7_spare 53 = .ok (.if_icmp .gt 41, 3) := by decide +kernel
theorem dX7_spare_56 : decode cX7_spare 56 = .ok (.iload_n 3, 1) := by decide +kernel
theorem dX7_spare_57 : decode cX7_spare 57 = .ok (.ifCond .ge 37, 3) := by decide +kernel
theorem dX7_spare_60 : decode cX7_spare 60 = .ok (.iload 4, 2) := by decide +kernel
theorem dX7_spare_62 : decode cX7_spare 62 = .ok (.ifCond .le 10, 3) := by decide +kernel
theorem dX7_spare_65 : decode cX7_spare 65 = .ok (.aload_n 0, 1) := by decide +kernel
theorem dX7_spare_66 : decode cX7_spare 66 = .ok (.iload_n 1, 1) := by decide +kernel
theorem dX7_spare_67 : decode cX7_spare 67 = .ok (.iload 4, 2) := by decide +kernel
theorem dX7_spare_69 : decode cX7_spare 69 = .ok (.invokevirtual 188, 3) := by decide +kernel
theorem dX7_spare_72 : decode cX7_spare 72 = .ok (.aload_n 0, 1) := by decide +kernel
theorem dX7_spare_73 : decode cX7_spare 73 = .ok (.iload_n 1, 1) := by decide +kernel
theorem dX7_spare_74 : decode cX7_spare 74 = .ok (.iload_n 2, 1) := by decide +kernel
theorem dX7_spare_75 : decode cX7_spare 75 = .ok (.invokevirtual 226, 3) := by decide +kernel
theorem dX7_spare_78 : decode cX7_spare 78 = .ok (.ifCond .eq 8, 3) := by decide +kernel
theorem dX7_spare_81 : decode cX7_spare 81 = .ok (.iload 4, 2) := by decide +kernel
theorem dX7_spare_83 : decode cX7_spare 83 = .ok (.goto 4, 3) := by decide +kernel
theorem dX7_spare_86 : decode cX7_spare 86 = .ok (.iload_n 3, 1) := by decide +kernel
theorem dX7_spare_87 : decode cX7_spare 87 = .ok (.istore_n 3, 1) := by decide +kernel
theorem dX7_spare_88 : decode cX7_spare 88 = .ok (.iinc 4 1, 3) := by decide +kernel
theorem dX7_spare_91 : decode cX7_spare 91 = .ok (.goto (-42), 3) := by decide +kernel
theorem dX7_spare_94 : decode cX7_spare 94 = .ok (.iload_n 3, 1) := by decide +kernel
theorem dX7_spare_95 : decode cX7_spare 95 = .ok (.ireturn, 1) := by decide +kernel
theorem dX7_laying_0 : decode cX7_laying 0 = .ok (.aload_n 0, 1) := by decide +kernel
theorem dX7_laying_1 : decode cX7_laying 1 = .ok (.getfield 135, 3) := by decide +kernel
theorem dX7_laying_4 : decode cX7_laying 4 = .ok (.ifCond .ne 6, 3) := by decide +kernel
theorem dX7_laying_7 : decode cX7_laying 7 = .ok (.ldc 171, 2) := by decide +kernel
theorem dX7_laying_9 : decode cX7_laying 9 = .ok (.ireturn, 1) := by decide +kernel
theorem dX7_laying_10 : decode cX7_laying 10 = .ok (.iload_n 1, 1) := by decide +kernel
theorem dX7_laying_11 : decode cX7_laying 11 = .ok (.i2l, 1) := by decide +kernel
theorem dX7_laying_12 : decode cX7_laying 12 = .ok (.lconst 1, 1) := by decide +kernel
theorem dX7_laying_13 : decode cX7_laying 13 = .ok (.ldc2_w 224, 3) := by decide +kernel
theorem dX7_laying_16 : decode cX7_laying 16 = .ok (.invokestatic 57, 3) := by decide +kernel
theorem dX7_laying_19 : decode cX7_laying 19 = .ok (.ifCond .eq 10, 3) := by decide +kernel
theorem dX7_laying_22 : decode cX7_laying 22 = .ok (.iload_n 2, 1) := by decide +kernel
theorem dX7_laying_23 : decode cX7_laying 23 = .ok (.invokestatic 197, 3) := by decide +kernel
theorem dX7_laying_26 : decode cX7_laying 26 = .ok (.ifCond .ne 6, 3) := by decide +kernel
theorem dX7_laying_29 : decode cX7_laying 29 = .ok (.ldc 67, 2) := by decide +kernel
theorem dX7_laying_31 : decode cX7_laying 31 = .ok (.ireturn, 1) := by decide +kernel
theorem dX7_laying_32 : decode cX7_laying 32 = .ok (.aload_n 0, 1) := by decide +kernel
theorem dX7_laying_33 : decode cX7_laying 33 = .ok (.invokevirtual 200, 3) := by decide +kernel
theorem dX7_laying_36 : decode cX7_laying 36 = .ok (.ldc 213, 2) := by decide +kernel
theorem dX7_laying_38 : decode cX7_laying 38 = .ok (.istore_n 3, 1) := by decide +kernel
theorem dX7_laying_39 : decode cX7_laying 39 = .ok (.ldc 213, 2) := by decide +kernel
theorem dX7_laying_41 : decode cX7_laying 41 = .ok (.istore 4, 2) := by decide +kernel
theorem dX7_laying_43 : decode cX7_laying 43 = .ok (.iconst 0, 1) := by decide +kernel
theorem dX7_laying_44 : decode cX7_laying 44 = .ok (.istore 5, 2) := by decide +kernel
theorem dX7_laying_46 : decode cX7_laying 46 = .ok (.iload 5, 2) := by decide +kernel
theorem dX7_laying_48 : decode cX7_laying 48 = .ok (.aload_n 0, 1) := by decide +kernel
theorem dX7_laying_49 : decode cX7_laying 49 = .ok (.getfield 19, 3) := by decide +kernel
theorem dX7_laying_52 : decode cX7_laying 52 = .ok (.iconst 0, 1) := by decide +kernel
theorem dX7_laying_53 : decode cX7_laying 53 = .ok (.iaload, 1) := by decide +kernel
theorem dX7_laying_54 : decode cX7_laying 54 = .ok (.if_icmp .ge 86, 3) := by decide +kernel
theorem dX7_laying_57 : decode cX7_laying 57 = .ok (.iload 5, 2) := by decide +kernel
theorem dX7_laying_59 : decode cX7_laying 59 = .ok (.iconst 1, 1) := by decide +kernel
theorem dX7_laying_60 : decode cX7_laying 60 = .ok (.iadd, 1) := by decide +kernel
theorem dX7_laying_61 : decode cX7_laying 61 = .ok (.istore 6, 2) := by decide +kernel
theorem dX7_laying_63 : decode cX7_laying 63 = .ok (.iload 6, 2) := by decide +kernel
theorem dX7_laying_65 : decode cX7_laying 65 = .ok (.aload_n 0, 1) := by decide +kernel
theorem dX7_laying_66 : decode cX7_laying 66 = .ok (.getfield 19, 3) := by decide +kernel
theorem dX7_laying_69 : decode cX7_laying 69 = .ok (.iconst 0, 1) := by decide +kernel
theorem dX7_laying_70 : decode cX7_laying 70 = .ok (.iaload, 1) := by decide +kernel
theorem dX7_laying_71 : decode cX7_laying 71 = .ok (.if_icmp .ge 63, 3) := by decide +kernel
theorem dX7_laying_74 : decode cX7_laying 74 = .ok (.aload_n 0, 1) := by decide +kernel
theorem dX7_laying_75 : decode cX7_laying 75 = .ok (.iload 5, 2) := by decide +kernel
theorem dX7_laying_77 : decode cX7_laying 77 = .ok (.iload 6, 2) := by decide +kernel
theorem dX7_laying_79 : decode cX7_laying 79 = .ok (.invokevirtual 192, 3) := by decide +kernel
theorem dX7_laying_82 : decode cX7_laying 82 = .ok (.aload_n 0, 1) := by decide +kernel
theorem dX7_laying_83 : decode cX7_laying 83 = .ok (.iload_n 1, 1) := by decide +kernel
theorem dX7_laying_84 : decode cX7_laying 84 = .ok (.invokevirtual 221, 3) := by decide +kernel
theorem dX7_laying_87 : decode cX7_laying 87 = .ok (.invokestatic 218, 3) := by decide +kernel
theorem dX7_laying_90 : decode cX7_laying 90 = .ok (.istore 7, 2) := by decide +kernel
theorem dX7_laying_92 : decode cX7_laying 92 = .ok (.iload 7, 2) := by decide +kernel
theorem dX7_laying_94 : decode cX7_laying 94 = .ok (.iload 4, 2) := by decide +kernel
theorem dX7_laying_96 : decode cX7_laying 96 = .ok (.if_icmp .le 14, 3) := by decide +kernel
theorem dX7_laying_99 : decode cX7_laying 99 = .ok (.bipush 10, 2) := by decide +kernel
theorem dX7_laying_101 : decode cX7_laying 101 = .ok (.iload 5, 2) := by decide +kernel
theorem dX7_laying_103 : decode cX7_laying 103 = .ok (.imul, 1) := by decide +kernel
theorem dX7_laying_104 : decode cX7_laying 104 = .ok (.iload 6, 2) := by decide +kernel
theorem dX7_laying_106 : decode cX7_laying 106 = .ok (.iadd, 1) := by decide +kernel
theorem dX7_laying_107 : decode cX7_laying 107 = .ok (.goto 4, 3) := by decide +kernel
theorem dX7_laying_110 : decode cX7_laying 110 = .ok (.iload_n 3, 1) := by decide +kernel
theorem dX7_laying_111 : decode cX7_laying 111 = .ok (.istore_n 3, 1) := by decide +kernel
theorem dX7_laying_112 : decode cX7_laying 112 = .ok (.iload 7, 2) := by decide +kernel
theorem dX7_laying_114 : decode cX7_laying 114 = .ok (.iload 4, 2) := by decide +kernel
theorem dX7_laying_116 : decode cX7_laying 116 = .ok (.if_icmp .le 8, 3) := by decide +kernel
theorem dX7_laying_119 : decode cX7_laying 119 = .ok (.iload 7, 2) := by decide +kernel
theorem dX7_laying_121 : decode cX7_laying 121 = .ok (.goto 5, 3) := by decide +kernel
theorem dX7_laying_124 : decode cX7_laying 124 = .ok (.iload 4, 2) := by decide +kernel
theorem dX7_laying_126 : decode cX7_laying 126 = .ok (.istore 4, 2) := by decide +kernel
theorem dX7_laying_128 : decode cX7_laying 128 = .ok (.iinc 6 1, 3) := by decide +kernel
theorem dX7_laying_131 : decode cX7_laying 131 = .ok (.goto (-68), 3) := by decide +kernel
theorem dX7_laying_134 : decode cX7_laying 134 = .ok (.iinc 5 1, 3) := by decide +kernel
theorem dX7_laying_137 : decode cX7_laying 137 = .ok (.goto (-91), 3) := by decide +kernel
theorem dX7_laying_140 : decode cX7_laying 140 = .ok (.iload_n 2, 1) := by decide +kernel
theorem dX7_laying_141 : decode cX7_laying 141 = .ok (.ifCond .ne 7, 3) := by decide +kernel
theorem dX7_laying_144 : decode cX7_laying 144 = .ok (.iload_n 3, 1) := by decide +kernel
theorem dX7_laying_145 : decode cX7_laying 145 = .ok (.goto 5, 3) := by decide +kernel
theorem dX7_laying_148 : decode cX7_laying 148 = .ok (.iload 4, 2) := by decide +kernel
theorem dX7_laying_150 : decode cX7_laying 150 = .ok (.ireturn, 1) := by decide +kernel
theorem dX7_lacks_0 : decode cX7_lacks 0 = .ok (.aload_n 0, 1) := by decide +kernel
theorem dX7_lacks_1 : decode cX7_lacks 1 = .ok (.getfield 13, 3) := by decide +kernel
theorem dX7_lacks_4 : decode cX7_lacks 4 = .ok (.iload_n 1, 1) := by decide +kernel
theorem dX7_lacks_5 : decode cX7_lacks 5 = .ok (.iaload, 1) := by decide +kernel
theorem dX7_lacks_6 : decode cX7_lacks 6 = .ok (.ifCond .ge 9, 3) := by decide +kernel
theorem dX7_lacks_9 : decode cX7_lacks 9 = .ok (.aload_n 0, 1) := by decide +kernel
theorem dX7_lacks_10 : decode cX7_lacks 10 = .ok (.iconst 1, 1) := by decide +kernel
theorem dX7_lacks_11 : decode cX7_lacks 11 = .ok (.invokevirtual 68, 3) := by decide +kernel
theorem dX7_lacks_14 : decode cX7_lacks 14 = .ok (.ireturn, 1) := by decide +kernel
theorem dX7_lacks_15 : decode cX7_lacks 15 = .ok (.iload_n 2, 1) := by decide +kernel
theorem dX7_lacks_16 : decode cX7_lacks 16 = .ok (.i2l, 1) := by decide +kernel
theorem dX7_lacks_17 : decode cX7_lacks 17 = .ok (.lconst 0, 1) := by decide +kernel
theorem dX7_lacks_18 : decode cX7_lacks 18 = .ok (.aload_n 0, 1) := by decide +kernel
theorem dX7_lacks_19 : decode cX7_lacks 19 = .ok (.getfield 13, 3) := by decide +kernel
theorem dX7_lacks_22 : decode cX7_lacks 22 = .ok (.iload_n 1, 1) := by decide +kernel
theorem dX7_lacks_23 : decode cX7_lacks 23 = .ok (.iaload, 1) := by decide +kernel
theorem dX7_lacks_24 : decode cX7_lacks 24 = .ok (.iload_n 3, 1) := by decide +kernel
theorem dX7_lacks_25 : decode cX7_lacks 25 = .ok (.isub, 1) := by decide +kernel
theorem dX7_lacks_26 : decode cX7_lacks 26 = .ok (.i2l, 1) := by decide +kernel
theorem dX7_lacks_27 : decode cX7_lacks 27 = .ok (.invokestatic 57, 3) := by decide +kernel
theorem dX7_lacks_30 : decode cX7_lacks 30 = .ok (.ifCond .eq 7, 3) := by decide +kernel
theorem dX7_lacks_33 : decode cX7_lacks 33 = .ok (.iconst 0, 1) := by decide +kernel
theorem dX7_lacks_34 : decode cX7_lacks 34 = .ok (.goto 8, 3) := by decide +kernel
theorem dX7_lacks_37 : decode cX7_lacks 37 = .ok (.aload_n 0, 1) := by decide +kernel
theorem dX7_lacks_38 : decode cX7_lacks 38 = .ok (.iconst 2, 1) := by decide +kernel
theorem dX7_lacks_39 : decode cX7_lacks 39 = .ok (.invokevirtual 68, 3) := by decide +kernel
theorem dX7_lacks_42 : decode cX7_lacks 42 = .ok (.ireturn, 1) := by decide +kernel
theorem dX7_isSo_0 : decode cX7_isSo 0 = .ok (.iconst 1, 1) := by decide +kernel
theorem dX7_isSo_1 : decode cX7_isSo 1 = .ok (.istore 4, 2) := by decide +kernel
theorem dX7_isSo_3 : decode cX7_isSo 3 = .ok (.iconst 0, 1) := by decide +kernel
theorem dX7_isSo_4 : decode cX7_isSo 4 = .ok (.istore 5, 2) := by decide +kernel
theorem dX7_isSo_6 : decode cX7_isSo 6 = .ok (.iload 5, 2) := by decide +kernel
theorem dX7_isSo_8 : decode cX7_isSo 8 = .ok (.iload_n 3, 1) := by decide +kernel
theorem dX7_isSo_9 : decode cX7_isSo 9 = .ok (.if_icmp .ge 46, 3) := by decide +kernel
theorem dX7_isSo_12 : decode cX7_isSo 12 = .ok (.aload_n 0, 1) := by decide +kernel
theorem dX7_isSo_13 : decode cX7_isSo 13 = .ok (.invokevirtual 177, 3) := by decide +kernel
theorem dX7_isSo_16 : decode cX7_isSo 16 = .ok (.iload 4, 2) := by decide +kernel
theorem dX7_isSo_18 : decode cX7_isSo 18 = .ok (.ifCond .eq 28, 3) := by decide +kernel
theorem dX7_isSo_21 : decode cX7_isSo 21 = .ok (.aload_n 0, 1) := by decide +kernel
theorem dX7_isSo_22 : decode cX7_isSo 22 = .ok (.getfield 16, 3) := by decide +kernel
theorem dX7_isSo_25 : decode cX7_isSo 25 = .ok (.iload_n 2, 1) := by decide +kernel
theorem dX7_isSo_26 : decode cX7_isSo 26 = .ok (.iload 5, 2) := by decide +kernel
theorem dX7_isSo_28 : decode cX7_isSo 28 = .ok (.iadd, 1) := by decide +kernel
theorem dX7_isSo_29 : decode cX7_isSo 29 = .ok (.iaload, 1) := by decide +kernel
theorem dX7_isSo_30 : decode cX7_isSo 30 = .ok (.aload_n 0, 1) := by decide +kernel
theorem dX7_isSo_31 : decode cX7_isSo 31 = .ok (.getfield 19, 3) := by decide +kernel
theorem dX7_isSo_34 : decode cX7_isSo 34 = .ok (.bipush 14, 2) := by decide +kernel
theorem dX7_isSo_36 : decode cX7_isSo 36 = .ok (.iload_n 1, 1) := by decide +kernel
theorem dX7_isSo_37 : decode cX7_isSo 37 = .ok (.iadd, 1) := by decide +kernel
theorem dX7_isSo_38 : decode cX7_isSo 38 = .ok (.iaload, 1) := by decide +kernel
theorem dX7_isSo_39 : decode cX7_isSo 39 = .ok (.if_icmp .ne 7, 3) := by decide +kernel
theorem dX7_isSo_42 : decode cX7_isSo 42 = .ok (.iconst 1, 1) := by decide +kernel
theorem dX7_isSo_43 : decode cX7_isSo 43 = .ok (.goto 4, 3) := by decide +kernel
theorem dX7_isSo_46 : decode cX7_isSo 46 = .ok (.iconst 0, 1) := by decide +kernel
theorem dX7_isSo_47 : decode cX7_isSo 47 = .ok (.istore 4, 2) := by decide +kernel
theorem dX7_isSo_49 : decode cX7_isSo 49 = .ok (.iinc 5 1, 3) := by decide +kernel
theorem dX7_isSo_52 : decode cX7_isSo 52 = .ok (.goto (-46), 3) := by decide +kernel
theorem dX7_isSo_55 : decode cX7_isSo 55 = .ok (.aload_n 0, 1) := by decide +kernel
theorem dX7_isSo_56 : decode cX7_isSo 56 = .ok (.invokevirtual 207, 3) := by decide +kernel
theorem dX7_isSo_59 : decode cX7_isSo 59 = .ok (.iload 4, 2) := by decide +kernel
theorem dX7_isSo_61 : decode cX7_isSo 61 = .ok (.ireturn, 1) := by decide +kernel
theorem dX7_fits_0 : decode cX7_fits 0 = .ok (.aload_n 0, 1) := by decide +kernel
theorem dX7_fits_1 : decode cX7_fits 1 = .ok (.iload_n 1, 1) := by decide +kernel
theorem dX7_fits_2 : decode cX7_fits 2 = .ok (.invokevirtual 180, 3) := by decide +kernel
theorem dX7_fits_5 : decode cX7_fits 5 = .ok (.ifCond .eq 36, 3) := by decide +kernel
theorem dX7_fits_8 : decode cX7_fits 8 = .ok (.iload_n 2, 1) := by decide +kernel
theorem dX7_fits_9 : decode cX7_fits 9 = .ok (.invokestatic 61, 3) := by decide +kernel
theorem dX7_fits_12 : decode cX7_fits 12 = .ok (.ifCond .eq 29, 3) := by decide +kernel
theorem dX7_fits_15 : decode cX7_fits 15 = .ok (.iload 4, 2) := by decide +kernel
theorem dX7_fits_17 : decode cX7_fits 17 = .ok (.i2l, 1) := by decide +kernel
theorem dX7_fits_18 : decode cX7_fits 18 = .ok (.lconst 1, 1) := by decide +kernel
theorem dX7_fits_19 : decode cX7_fits 19 = .ok (.ldc2_w 229, 3) := by decide +kernel
theorem dX7_fits_22 : decode cX7_fits 22 = .ok (.invokestatic 57, 3) := by decide +kernel
theorem dX7_fits_25 : decode cX7_fits 25 = .ok (.ifCond .eq 16, 3) := by decide +kernel
theorem dX7_fits_28 : decode cX7_fits 28 = .ok (.iload 5, 2) := by decide +kernel
theorem dX7_fits_30 : decode cX7_fits 30 = .ok (.i2l, 1) := by decide +kernel
theorem dX7_fits_31 : decode cX7_fits 31 = .ok (.lconst 0, 1) := by decide +kernel
theorem dX7_fits_32 : decode cX7_fits 32 = .ok (.ldc2_w 231, 3) := by decide +kernel
theorem dX7_fits_35 : decode cX7_fits 35 = .ok (.invokestatic 57, 3) := by decide +kernel
theorem dX7_fits_38 : decode cX7_fits 38 = .ok (.ifCond .ne 8, 3) := by decide +kernel
theorem dX7_fits_41 : decode cX7_fits 41 = .ok (.ldc 67, 2) := by decide +kernel
theorem dX7_fits_43 : decode cX7_fits 43 = .ok (.goto 11, 3) := by decide +kernel
theorem dX7_fits_46 : decode cX7_fits 46 = .ok (.aload_n 0, 1) := by decide +kernel
theorem dX7_fits_47 : decode cX7_fits 47 = .ok (.iload_n 2, 1) := by decide +kernel
theorem dX7_fits_48 : decode cX7_fits 48 = .ok (.iload_n 3, 1) := by decide +kernel
theorem dX7_fits_49 : decode cX7_fits 49 = .ok (.iload 4, 2) := by decide +kernel
theorem dX7_fits_51 : decode cX7_fits 51 = .ok (.invokevirtual 233, 3) := by decide +kernel
theorem dX7_fits_54 : decode cX7_fits 54 = .ok (.istore 6, 2) := by decide +kernel
theorem dX7_fits_56 : decode cX7_fits 56 = .ok (.iload 6, 2) := by decide +kernel
theorem dX7_fits_58 : decode cX7_fits 58 = .ok (.ifCond .ge 6, 3) := by decide +kernel
theorem dX7_fits_61 : decode cX7_fits 61 = .ok (.iload 6, 2) := by decide +kernel
theorem dX7_fits_63 : decode cX7_fits 63 = .ok (.ireturn, 1) := by decide +kernel
theorem dX7_fits_64 : decode cX7_fits 64 = .ok (.aload_n 0, 1) := by decide +kernel
theorem dX7_fits_65 : decode cX7_fits 65 = .ok (.invokevirtual 200, 3) := by decide +kernel
theorem dX7_fits_68 : decode cX7_fits 68 = .ok (.iload 5, 2) := by decide +kernel
theorem dX7_fits_70 : decode cX7_fits 70 = .ok (.ifCond .ne 10, 3) := by decide +kernel
theorem dX7_fits_73 : decode cX7_fits 73 = .ok (.bipush 6, 2) := by decide +kernel
theorem dX7_fits_75 : decode cX7_fits 75 = .ok (.iload_n 1, 1) := by decide +kernel
theorem dX7_fits_76 : decode cX7_fits 76 = .ok (.iadd, 1) := by decide +kernel
theorem dX7_fits_77 : decode cX7_fits 77 = .ok (.goto 30, 3) := by decide +kernel
theorem dX7_fits_80 : decode cX7_fits 80 = .ok (.iload 5, 2) := by decide +kernel
theorem dX7_fits_82 : decode cX7_fits 82 = .ok (.iconst 1, 1) := by decide +kernel
theorem dX7_fits_83 : decode cX7_fits 83 = .ok (.if_icmp .ne 10, 3) := by decide +kernel
theorem dX7_fits_86 : decode cX7_fits 86 = .ok (.bipush 22, 2) := by decide +kernel
theorem dX7_fits_88 : decode cX7_fits 88 = .ok (.iload_n 1, 1) := by decide +kernel
theorem dX7_fits_89 : decode cX7_fits 89 = .ok (.iadd, 1) := by decide +kernel
theorem dX7_fits_90 : decode cX7_fits 90 = .ok (.goto 17, 3) := by decide +kernel
theorem dX7_fits_93 : decode cX7_fits 93 = .ok (.iload 5, 2) := by decide +kernel
theorem dX7_fits_95 : decode cX7_fits 95 = .ok (.iconst 2, 1) := by decide +kernel
theorem dX7_fits_96 : decode cX7_fits 96 = .ok (.if_icmp .ne 10, 3) := by decide +kernel
theorem dX7_fits_99 : decode cX7_fits 99 = .ok (.bipush 14, 2) := by decide +kernel
theorem dX7_fits_101 : decode cX7_fits 101 = .ok (.iload_n 1, 1) := by decide +kernel
theorem dX7_fits_102 : decode cX7_fits 102 = .ok (.iadd, 1) := by decide +kernel
theorem dX7_fits_103 : decode cX7_fits 103 = .ok (.goto 4, 3) := by decide +kernel
theorem dX7_fits_106 : decode cX7_fits 106 = .ok (.iconst 2, 1) := by decide +kernel
theorem dX7_fits_107 : decode cX7_fits 107 = .ok (.istore 7, 2) := by decide +kernel
theorem dX7_fits_109 : decode cX7_fits 109 = .ok (.iload 5, 2) := by decide +kernel
theorem dX7_fits_111 : decode cX7_fits 111 = .ok (.ifCond .ne 7, 3) := by decide +kernel
theorem dX7_fits_114 : decode cX7_fits 114 = .ok (.iconst 5, 1) := by decide +kernel
theorem dX7_fits_115 : decode cX7_fits 115 = .ok (.goto 26, 3) := by decide +kernel
theorem dX7_fits_118 : decode cX7_fits 118 = .ok (.iload 5, 2) := by decide +kernel
theorem dX7_fits_120 : decode cX7_fits 120 = .ok (.iconst 1, 1) := by decide +kernel
theorem dX7_fits_121 : decode cX7_fits 121 = .ok (.if_icmp .ne 8, 3) := by decide +kernel
theorem dX7_fits_124 : decode cX7_fits 124 = .ok (.bipush 20, 2) := by decide +kernel
theorem dX7_fits_126 : decode cX7_fits 126 = .ok (.goto 15, 3) := by decide +kernel
theorem dX7_fits_129 : decode cX7_fits 129 = .ok (.iload 5, 2) := by decide +kernel
theorem dX7_fits_131 : decode cX7_fits 131 = .ok (.iconst 2, 1) := by decide +kernel
theorem dX7_fits_132 : decode cX7_fits 132 = .ok (.if_icmp .ne 8, 3) := by decide +kernel
theorem dX7_fits_135 : decode cX7_fits 135 = .ok (.bipush 30, 2) := by decide +kernel
theorem dX7_fits_137 : decode cX7_fits 137 = .ok (.goto 4, 3) := by decide +kernel
theorem dX7_fits_140 : decode cX7_fits 140 = .ok (.iconst 1, 1) := by decide +kernel
theorem dX7_fits_141 : decode cX7_fits 141 = .ok (.istore 8, 2) := by decide +kernel
theorem dX7_fits_143 : decode cX7_fits 143 = .ok (.iconst 0, 1) := by decide +kernel
theorem dX7_fits_144 : decode cX7_fits 144 = .ok (.istore 9, 2) := by decide +kernel
theorem dX7_fits_146 : decode cX7_fits 146 = .ok (.iload 5, 2) := by decide +kernel
theorem dX7_fits_148 : decode cX7_fits 148 = .ok (.iconst 2, 1) := by decide +kernel
theorem dX7_fits_149 : decode cX7_fits 149 = .ok (.irem, 1) := by decide +kernel
theorem dX7_fits_150 : decode cX7_fits 150 = .ok (.ifCond .ne 7, 3) := by decide +kernel
theorem dX7_fits_153 : decode cX7_fits 153 = .ok (.iconst 1, 1) := by decide +kernel
theorem dX7_fits_154 : decode cX7_fits 154 = .ok (.goto 4, 3) := by decide +kernel
theorem dX7_fits_157 : decode cX7_fits 157 = .ok (.iconst 0, 1) := by decide +kernel
theorem dX7_fits_158 : decode cX7_fits 158 = .ok (.istore 10, 2) := by decide +kernel
theorem dX7_fits_160 : decode cX7_fits 160 = .ok (.iload 10, 2) := by decide +kernel
theorem dX7_fits_162 : decode cX7_fits 162 = .ok (.iload 8, 2) := by decide +kernel
theorem dX7_fits_164 : decode cX7_fits 164 = .ok (.if_icmp .gt 74, 3) := by decide +kernel
theorem dX7_fits_167 : decode cX7_fits 167 = .ok (.aload_n 0, 1) := by decide +kernel
theorem dX7_fits_168 : decode cX7_fits 168 = .ok (.getfield 19, 3) := by decide +kernel
theorem dX7_fits_171 : decode cX7_fits 171 = .ok (.iload 7, 2) := by decide +kernel
theorem dX7_fits_173 : decode cX7_fits 173 = .ok (.iload 10, 2) := by decide +kernel
theorem dX7_fits_175 : decode cX7_fits 175 = .ok (.iastore, 1) := by decide +kernel
theorem dX7_fits_176 : decode cX7_fits 176 = .ok (.iload 5, 2) := by decide +kernel
theorem dX7_fits_178 : decode cX7_fits 178 = .ok (.ifCond .ne 25, 3) := by decide +kernel
theorem dX7_fits_181 : decode cX7_fits 181 = .ok (.iload 10, 2) := by decide +kernel
theorem dX7_fits_183 : decode cX7_fits 183 = .ok (.invokestatic 164, 3) := by decide +kernel
theorem dX7_fits_186 : decode cX7_fits 186 = .ok (.ifCond .ne 17, 3) := by decide +kernel
theorem dX7_fits_189 : decode cX7_fits 189 = .ok (.aload_n 0, 1) := by decide +kernel
theorem dX7_fits_190 : decode cX7_fits 190 = .ok (.getfield 19, 3) := by decide +kernel
theorem dX7_fits_193 : decode cX7_fits 193 = .ok (.iconst 4, 1) := by decide +kernel
theorem dX7_fits_194 : decode cX7_fits 194 = .ok (.dup2, 1) := by decide +kernel
theorem dX7_fits_195 : decode cX7_fits 195 = .ok (.iaload, 1) := by decide +kernel
theorem dX7_fits_196 : decode cX7_fits 196 = .ok (.iconst 1, 1) := by decide +kernel
theorem dX7_fits_197 : decode cX7_fits 197 = .ok (.iload_n 1, 1) := by decide +kernel
theorem dX7_fits_198 : decode cX7_fits 198 = .ok (.ishl, 1) := by decide +kernel
theorem dX7_fits_199 : decode cX7_fits 199 = .ok (.iconst (-1), 1) := by decide +kernel
theorem dX7_fits_200 : decode cX7_fits 200 = .ok (.ixor, 1) := by decide +kernel
theorem dX7_fits_201 : decode cX7_fits 201 = .ok (.iand, 1) := by decide +kernel
theorem dX7_fits_202 : decode cX7_fits 202 = .ok (.iastore, 1) := by decide +kernel
theorem dX7_fits_203 : decode cX7_fits 203 = .ok (.iload 9, 2) := by decide +kernel
theorem dX7_fits_205 : decode cX7_fits 205 = .ok (.aload_n 0, 1) := by decide +kernel
theorem dX7_fits_206 : decode cX7_fits 206 = .ok (.iload_n 1, 1) := by decide +kernel
theorem dX7_fits_207 : decode cX7_fits 207 = .ok (.bipush 40, 2) := by decide +kernel
theorem dX7_fits_209 : decode cX7_fits 209 = .ok (.iload_n 2, 1) := by decide +kernel
theorem dX7_fits_210 : decode cX7_fits 210 = .ok (.imul, 1) := by decide +kernel
theorem dX7_fits_211 : decode cX7_fits 211 = .ok (.iload_n 3, 1) := by decide +kernel
theorem dX7_fits_212 : decode cX7_fits 212 = .ok (.iadd, 1) := by decide +kernel
theorem dX7_fits_213 : decode cX7_fits 213 = .ok (.iload 4, 2) := by decide +kernel
theorem dX7_fits_215 : decode cX7_fits 215 = .ok (.invokevirtual 237, 3) := by decide +kernel
theorem dX7_fits_218 : decode cX7_fits 218 = .ok (.ifCond .eq 10, 3) := by decide +kernel
theorem dX7_fits_221 : decode cX7_fits 221 = .ok (.iconst 1, 1) := by decide +kernel
theorem dX7_fits_222 : decode cX7_fits 222 = .ok (.iload 10, 2) := by decide +kernel
theorem dX7_fits_224 : decode cX7_fits 224 = .ok (.ishl, 1) := by decide +kernel
theorem dX7_fits_225 : decode cX7_fits 225 = .ok (.goto 4, 3) := by decide +kernel
theorem dX7_fits_228 : decode cX7_fits 228 = .ok (.iconst 0, 1) := by decide +kernel
theorem dX7_fits_229 : decode cX7_fits 229 = .ok (.ior, 1) := by decide +kernel
theorem dX7_fits_230 : decode cX7_fits 230 = .ok (.istore 9, 2) := by decide +kernel
theorem dX7_fits_232 : decode cX7_fits 232 = .ok (.iinc 10 1, 3) := by decide +kernel
theorem dX7_fits_235 : decode cX7_fits 235 = .ok (.goto (-75), 3) := by decide +kernel
theorem dX7_fits_238 : decode cX7_fits 238 = .ok (.aload_n 0, 1) := by decide +kernel
theorem dX7_fits_239 : decode cX7_fits 239 = .ok (.iload 9, 2) := by decide +kernel
theorem dX7_fits_241 : decode cX7_fits 241 = .ok (.invokevirtual 72, 3) := by decide +kernel
theorem dX7_fits_244 : decode cX7_fits 244 = .ok (.ireturn, 1) := by decide +kernel
theorem dX7_rain_0 : decode cX7_rain 0 = .ok (.aload_n 0, 1) := by decide +kernel
theorem dX7_rain_1 : decode cX7_rain 1 = .ok (.iload_n 1, 1) := by decide +kernel
theorem dX7_rain_2 : decode cX7_rain 2 = .ok (.invokevirtual 180, 3) := by decide +kernel
theorem dX7_rain_5 : decode cX7_rain 5 = .ok (.ifCond .eq 35, 3) := by decide +kernel
theorem dX7_rain_8 : decode cX7_rain 8 = .ok (.iload_n 2, 1) := by decide +kernel
theorem dX7_rain_9 : decode cX7_rain 9 = .ok (.i2l, 1) := by decide +kernel
theorem dX7_rain_10 : decode cX7_rain 10 = .ok (.lconst 0, 1) := by decide +kernel
theorem dX7_rain_11 : decode cX7_rain 11 = .ok (.ldc2_w 195, 3) := by decide +kernel
theorem dX7_rain_14 : decode cX7_rain 14 = .ok (.invokestatic 57, 3) := by decide +kernel
theorem dX7_rain_17 : decode cX7_rain 17 = .ok (.ifCond .eq 23, 3) := by decide +kernel
theorem dX7_rain_20 : decode cX7_rain 20 = .ok (.iload_n 3, 1) := by decide +kernel
theorem dX7_rain_21 : decode cX7_rain 21 = .ok (.i2l, 1) := by decide +kernel
theorem dX7_rain_22 : decode cX7_rain 22 = .ok (.lconst 0, 1) := by decide +kernel
theorem dX7_rain_23 : decode cX7_rain 23 = .ok (.ldc2_w 241, 3) := by decide +kernel
theorem dX7_rain_26 : decode cX7_rain 26 = .ok (.invokestatic 57, 3) := by decide +kernel
theorem dX7_rain_29 : decode cX7_rain 29 = .ok (.ifCond .eq 11, 3) := by decide +kernel
theorem dX7_rain_32 : decode cX7_rain 32 = .ok (.iload 4, 2) := by decide +kernel
theorem dX7_rain_34 : decode cX7_rain 34 = .ok (.invokestatic 197, 3) := by decide +kernel
theorem dX7_rain_37 : decode cX7_rain 37 = .ok (.ifCond .ne 6, 3) := by decide +kernel
theorem dX7_rain_40 : decode cX7_rain 40 = .ok (.ldc 67, 2) := by decide +kernel
theorem dX7_rain_42 : decode cX7_rain 42 = .ok (.ireturn, 1) := by decide +kernel
theorem dX7_rain_43 : decode cX7_rain 43 = .ok (.aload_n 0, 1) := by decide +kernel
theorem dX7_rain_44 : decode cX7_rain 44 = .ok (.invokevirtual 200, 3) := by decide +kernel
theorem dX7_rain_47 : decode cX7_rain 47 = .ok (.iconst 1, 1) := by decide +kernel
theorem dX7_rain_48 : decode cX7_rain 48 = .ok (.aload_n 0, 1) := by decide +kernel
theorem dX7_rain_49 : decode cX7_rain 49 = .ok (.getfield 19, 3) := by decide +kernel
theorem dX7_rain_52 : decode cX7_rain 52 = .ok (.iconst 0, 1) := by decide +kernel
theorem dX7_rain_53 : decode cX7_rain 53 = .ok (.iaload, 1) := by decide +kernel
theorem dX7_rain_54 : decode cX7_rain 54 = .ok (.ishl, 1) := by decide +kernel
theorem dX7_rain_55 : decode cX7_rain 55 = .ok (.iconst 1, 1) := by decide +kernel
theorem dX7_rain_56 : decode cX7_rain 56 = .ok (.isub, 1) := by decide +kernel
theorem dX7_rain_57 : decode cX7_rain 57 = .ok (.aload_n 0, 1) := by decide +kernel
theorem dX7_rain_58 : decode cX7_rain 58 = .ok (.getfield 19, 3) := by decide +kernel
theorem dX7_rain_61 : decode cX7_rain 61 = .ok (.iconst 5, 1) := by decide +kernel
theorem dX7_rain_62 : decode cX7_rain 62 = .ok (.iaload, 1) := by decide +kernel
theorem dX7_rain_63 : decode cX7_rain 63 = .ok (.iconst (-1), 1) := by decide +kernel
theorem dX7_rain_64 : decode cX7_rain 64 = .ok (.ixor, 1) := by decide +kernel
theorem dX7_rain_65 : decode cX7_rain 65 = .ok (.iand, 1) := by decide +kernel
theorem dX7_rain_66 : decode cX7_rain 66 = .ok (.istore 5, 2) := by decide +kernel
theorem dX7_rain_68 : decode cX7_rain 68 = .ok (.iconst 0, 1) := by decide +kernel
theorem dX7_rain_69 : decode cX7_rain 69 = .ok (.istore 6, 2) := by decide +kernel
theorem dX7_rain_71 : decode cX7_rain 71 = .ok (.iconst 1, 1) := by decide +kernel
theorem dX7_rain_72 : decode cX7_rain 72 = .ok (.istore 7, 2) := by decide +kernel
theorem dX7_rain_74 : decode cX7_rain 74 = .ok (.iload 5, 2) := by decide +kernel
theorem dX7_rain_76 : decode cX7_rain 76 = .ok (.invokestatic 218, 3) := by decide +kernel
theorem dX7_rain_79 : decode cX7_rain 79 = .ok (.istore 8, 2) := by decide +kernel
theorem dX7_rain_81 : decode cX7_rain 81 = .ok (.iload 8, 2) := by decide +kernel
theorem dX7_rain_83 : decode cX7_rain 83 = .ok (.ifCond .le 16, 3) := by decide +kernel
theorem dX7_rain_86 : decode cX7_rain 86 = .ok (.iload 7, 2) := by decide +kernel
theorem dX7_rain_88 : decode cX7_rain 88 = .ok (.bipush 10, 2) := by decide +kernel
theorem dX7_rain_90 : decode cX7_rain 90 = .ok (.imul, 1) := by decide +kernel
theorem dX7_rain_91 : decode cX7_rain 91 = .ok (.istore 7, 2) := by decide +kernel
theorem dX7_rain_93 : decode cX7_rain 93 = .ok (.iinc 8 (-1), 3) := by decide +kernel
theorem dX7_rain_96 : decode cX7_rain 96 = .ok (.goto (-15), 3) := by decide +kernel
theorem dX7_rain_99 : decode cX7_rain 99 = .ok (.iconst 0, 1) := by decide +kernel
theorem dX7_rain_100 : decode cX7_rain 100 = .ok (.istore 8, 2) := by decide +kernel
theorem dX7_rain_102 : decode cX7_rain 102 = .ok (.iload 8, 2) := by decide +kernel
theorem dX7_rain_104 : decode cX7_rain 104 = .ok (.iload 5, 2) := by decide +kernel
theorem dX7_rain_106 : decode cX7_rain 106 = .ok (.if_icmp .gt 119, 3) := by decide +kernel
theorem dX7_rain_109 : decode cX7_rain 109 = .ok (.iload 8, 2) := by decide +kernel
theorem dX7_rain_111 : decode cX7_rain 111 = .ok (.iload 5, 2) := by decide +kernel
theorem dX7_rain_113 : decode cX7_rain 113 = .ok (.iconst (-1), 1) := by decide +kernel
theorem dX7_rain_114 : decode cX7_rain 114 = .ok (.ixor, 1) := by decide +kernel
theorem dX7_rain_115 : decode cX7_rain 115 = .ok (.iand, 1) := by decide +kernel
theorem dX7_rain_116 : decode cX7_rain 116 = .ok (.ifCond .ne 103, 3) := by decide +kernel
theorem dX7_rain_119 : decode cX7_rain 119 = .ok (.iconst 1, 1) := by decide +kernel
theorem dX7_rain_120 : decode cX7_rain 120 = .ok (.istore 9, 2) := by decide +kernel
theorem dX7_rain_122 : decode cX7_rain 122 = .ok (.iconst 0, 1) := by decide +kernel
theorem dX7_rain_123 : decode cX7_rain 123 = .ok (.istore 10, 2) := by decide +kernel
theorem dX7_rain_125 : decode cX7_rain 125 = .ok (.iload 10, 2) := by decide +kernel
theorem dX7_rain_127 : decode cX7_rain 127 = .ok (.aload_n 0, 1) := by decide +kernel
theorem dX7_rain_128 : decode cX7_rain 128 = .ok (.getfield 19, 3) := by decide +kernel
theorem dX7_rain_131 : decode cX7_rain 131 = .ok (.iconst 0, 1) := by decide +kernel
theorem dX7_rain_132 : decode cX7_rain 132 = .ok (.iaload, 1) := by decide +kernel
theorem dX7_rain_133 : decode cX7_rain 133 = .ok (.if_icmp .ge 63, 3) := by decide +kernel
theorem dX7_rain_136 : decode cX7_rain 136 = .ok (.iload 9, 2) := by decide +kernel
theorem dX7_rain_138 : decode cX7_rain 138 = .ok (.iload 5, 2) := by decide +kernel
theorem dX7_rain_140 : decode cX7_rain 140 = .ok (.iload 10, 2) := by decide +kernel
theorem dX7_rain_142 : decode cX7_rain 142 = .ok (.invokestatic 145, 3) := by decide +kernel
theorem dX7_rain_145 : decode cX7_rain 145 = .ok (.ifCond .ne 7, 3) := by decide +kernel
theorem dX7_rain_148 : decode cX7_rain 148 = .ok (.iconst 1, 1) := by decide +kernel
theorem dX7_rain_149 : decode cX7_rain 149 = .ok (.goto 21, 3) := by decide +kernel
theorem dX7_rain_152 : decode cX7_rain 152 = .ok (.iload 8, 2) := by decide +kernel
theorem dX7_rain_154 : decode cX7_rain 154 = .ok (.iload 10, 2) := by decide +kernel
theorem dX7_rain_156 : decode cX7_rain 156 = .ok (.invokestatic 145, 3) := by decide +kernel
theorem dX7_rain_159 : decode cX7_rain 159 = .ok (.ifCond .eq 7, 3) := by decide +kernel
theorem dX7_rain_162 : decode cX7_rain 162 = .ok (.iload_n 3, 1) := by decide +kernel
theorem dX7_rain_163 : decode cX7_rain 163 = .ok (.goto 7, 3) := by decide +kernel
theorem dX7_rain_166 : decode cX7_rain 166 = .ok (.bipush 10, 2) := by decide +kernel
theorem dX7_rain_168 : decode cX7_rain 168 = .ok (.iload_n 3, 1) := by decide +kernel
theorem dX7_rain_169 : decode cX7_rain 169 = .ok (.isub, 1) := by decide +kernel
theorem dX7_rain_170 : decode cX7_rain 170 = .ok (.imul, 1) := by decide +kernel
theorem dX7_rain_171 : decode cX7_rain 171 = .ok (.istore 9, 2) := by decide +kernel
theorem dX7_rain_173 : decode cX7_rain 173 = .ok (.iload 8, 2) := by decide +kernel
theorem dX7_rain_175 : decode cX7_rain 175 = .ok (.iload 10, 2) := by decide +kernel
theorem dX7_rain_177 : decode cX7_rain 177 = .ok (.invokestatic 145, 3) := by decide +kernel
theorem dX7_rain_180 : decode cX7_rain 180 = .ok (.ifCond .eq 10, 3) := by decide +kernel
theorem dX7_rain_183 : decode cX7_rain 183 = .ok (.aload_n 0, 1) := by decide +kernel
theorem dX7_rain_184 : decode cX7_rain 184 = .ok (.iload 10, 2) := by decide +kernel
theorem dX7_rain_186 : decode cX7_rain 186 = .ok (.iconst 3, 1) := by decide +kernel
theorem dX7_rain_187 : decode cX7_rain 187 = .ok (.invokevirtual 188, 3) := by decide +kernel
theorem dX7_rain_190 : decode cX7_rain 190 = .ok (.iinc 10 1, 3) := by decide +kernel
theorem dX7_rain_193 : decode cX7_rain 193 = .ok (.goto (-68), 3) := by decide +kernel
theorem dX7_rain_196 : decode cX7_rain 196 = .ok (.iload 6, 2) := by decide +kernel
theorem dX7_rain_198 : decode cX7_rain 198 = .ok (.aload_n 0, 1) := by decide +kernel
theorem dX7_rain_199 : decode cX7_rain 199 = .ok (.iload_n 2, 1) := by decide +kernel
theorem dX7_rain_200 : decode cX7_rain 200 = .ok (.invokevirtual 221, 3) := by decide +kernel
theorem dX7_rain_203 : decode cX7_rain 203 = .ok (.iload_n 1, 1) := by decide +kernel
theorem dX7_rain_204 : decode cX7_rain 204 = .ok (.invokestatic 145, 3) := by decide +kernel
theorem dX7_rain_207 : decode cX7_rain 207 = .ok (.ifCond .eq 8, 3) := by decide +kernel
theorem dX7_rain_210 : decode cX7_rain 210 = .ok (.iload 9, 2) := by decide +kernel
theorem dX7_rain_212 : decode cX7_rain 212 = .ok (.goto 4, 3) := by decide +kernel
theorem dX7_rain_215 : decode cX7_rain 215 = .ok (.iconst 0, 1) := by decide +kernel
theorem dX7_rain_216 : decode cX7_rain 216 = .ok (.iadd, 1) := by decide +kernel
theorem dX7_rain_217 : decode cX7_rain 217 = .ok (.istore 6, 2) := by decide +kernel
theorem dX7_rain_219 : decode cX7_rain 219 = .ok (.iinc 8 1, 3) := by decide +kernel
theorem dX7_rain_222 : decode cX7_rain 222 = .ok (.goto (-120), 3) := by decide +kernel
theorem dX7_rain_225 : decode cX7_rain 225 = .ok (.iload 6, 2) := by decide +kernel
theorem dX7_rain_227 : decode cX7_rain 227 = .ok (.istore 8, 2) := by decide +kernel
theorem dX7_rain_229 : decode cX7_rain 229 = .ok (.iload 7, 2) := by decide +kernel
theorem dX7_rain_231 : decode cX7_rain 231 = .ok (.istore 9, 2) := by decide +kernel
theorem dX7_rain_233 : decode cX7_rain 233 = .ok (.iload 9, 2) := by decide +kernel
theorem dX7_rain_235 : decode cX7_rain 235 = .ok (.ifCond .eq 21, 3) := by decide +kernel
theorem dX7_rain_238 : decode cX7_rain 238 = .ok (.iload 8, 2) := by decide +kernel
theorem dX7_rain_240 : decode cX7_rain 240 = .ok (.iload 9, 2) := by decide +kernel
theorem dX7_rain_242 : decode cX7_rain 242 = .ok (.irem, 1) := by decide +kernel
theorem dX7_rain_243 : decode cX7_rain 243 = .ok (.istore 10, 2) := by decide +kernel
theorem dX7_rain_245 : decode cX7_rain 245 = .ok (.iload 9, 2) := by decide +kernel
theorem dX7_rain_247 : decode cX7_rain 247 = .ok (.istore 8, 2) := by decide +kernel
theorem dX7_rain_249 : decode cX7_rain 249 = .ok (.iload 10, 2) := by decide +kernel
theorem dX7_rain_251 : decode cX7_rain 251 = .ok (.istore 9, 2) := by decide +kernel
theorem dX7_rain_253 : decode cX7_rain 253 = .ok (.goto (-20), 3) := by decide +kernel
theorem dX7_rain_256 : decode cX7_rain 256 = .ok (.iload 4, 2) := by decide +kernel
theorem dX7_rain_258 : decode cX7_rain 258 = .ok (.ifCond .ne 11, 3) := by decide +kernel
theorem dX7_rain_261 : decode cX7_rain 261 = .ok (.iload 6, 2) := by decide +kernel
theorem dX7_rain_263 : decode cX7_rain 263 = .ok (.iload 8, 2) := by decide +kernel
theorem dX7_rain_265 : decode cX7_rain 265 = .ok (.idiv, 1) := by decide +kernel
theorem dX7_rain_266 : decode cX7_rain 266 = .ok (.goto 8, 3) := by decide +kernel
theorem dX7_rain_269 : decode cX7_rain 269 = .ok (.iload 7, 2) := by decide +kernel
theorem dX7_rain_271 : decode cX7_rain 271 = .ok (.iload 8, 2) := by decide +kernel
theorem dX7_rain_273 : decode cX7_rain 273 = .ok (.idiv, 1) := by decide +kernel
theorem dX7_rain_274 : decode cX7_rain 274 = .ok (.ireturn, 1) := by decide +kernel
theorem dX7_drawn_0 : decode cX7_drawn 0 = .ok (.aload_n 0, 1) := by decide +kernel
theorem dX7_drawn_1 : decode cX7_drawn 1 = .ok (.getfield 135, 3) := by decide +kernel
theorem dX7_drawn_4 : decode cX7_drawn 4 = .ok (.ifCond .ne 6, 3) := by decide +kernel
theorem dX7_drawn_7 : decode cX7_drawn 7 = .ok (.ldc 171, 2) := by decide +kernel
theorem dX7_drawn_9 : decode cX7_drawn 9 = .ok (.ireturn, 1) := by decide +kernel
theorem dX7_drawn_10 : decode cX7_drawn 10 = .ok (.iload_n 1, 1) := by decide +kernel
theorem dX7_drawn_11 : decode cX7_drawn 11 = .ok (.i2l, 1) := by decide +kernel
theorem dX7_drawn_12 : decode cX7_drawn 12 = .ok (.lconst 0, 1) := by decide +kernel
theorem dX7_drawn_13 : decode cX7_drawn 13 = .ok (.ldc2_w 195, 3) := by decide +kernel
theorem dX7_drawn_16 : decode cX7_drawn 16 = .ok (.invokestatic 57, 3) := by decide +kernel
theorem dX7_drawn_19 : decode cX7_drawn 19 = .ok (.ifCond .eq 22, 3) := by decide +kernel
theorem dX7_drawn_22 : decode cX7_drawn 22 = .ok (.iload_n 2, 1) := by decide +kernel
theorem dX7_drawn_23 : decode cX7_drawn 23 = .ok (.i2l, 1) := by decide +kernel
theorem dX7_drawn_24 : decode cX7_drawn 24 = .ok (.lconst 1, 1) := by decide +kernel
theorem dX7_drawn_25 : decode cX7_drawn 25 = .ok (.ldc2_w 243, 3) := by decide +kernel
theorem dX7_drawn_28 : decode cX7_drawn 28 = .ok (.invokestatic 57, 3) := by decide +kernel
theorem dX7_drawn_31 : decode cX7_drawn 31 = .ok (.ifCond .eq 10, 3) := by decide +kernel
theorem dX7_drawn_34 : decode cX7_drawn 34 = .ok (.iload_n 3, 1) := by decide +kernel
theorem dX7_drawn_35 : decode cX7_drawn 35 = .ok (.invokestatic 197, 3) := by decide +kernel
theorem dX7_drawn_38 : decode cX7_drawn 38 = .ok (.ifCond .ne 6, 3) := by decide +kernel
theorem dX7_drawn_41 : decode cX7_drawn 41 = .ok (.ldc 67, 2) := by decide +kernel
theorem dX7_drawn_43 : decode cX7_drawn 43 = .ok (.ireturn, 1) := by decide +kernel
theorem dX7_drawn_44 : decode cX7_drawn 44 = .ok (.aload_n 0, 1) := by decide +kernel
theorem dX7_drawn_45 : decode cX7_drawn 45 = .ok (.invokevirtual 200, 3) := by decide +kernel
theorem dX7_drawn_48 : decode cX7_drawn 48 = .ok (.iload_n 2, 1) := by decide +kernel
theorem dX7_drawn_49 : decode cX7_drawn 49 = .ok (.i2l, 1) := by decide +kernel
theorem dX7_drawn_50 : decode cX7_drawn 50 = .ok (.lstore 4, 2) := by decide +kernel
theorem dX7_drawn_52 : decode cX7_drawn 52 = .ok (.iconst 0, 1) := by decide +kernel
theorem dX7_drawn_53 : decode cX7_drawn 53 = .ok (.istore 6, 2) := by decide +kernel
theorem dX7_drawn_55 : decode cX7_drawn 55 = .ok (.iconst 0, 1) := by decide +kernel
theorem dX7_drawn_56 : decode cX7_drawn 56 = .ok (.istore 7, 2) := by decide +kernel
theorem dX7_drawn_58 : decode cX7_drawn 58 = .ok (.iload 7, 2) := by decide +kernel
theorem dX7_drawn_60 : decode cX7_drawn 60 = .ok (.iload_n 1, 1) := by decide +kernel
theorem dX7_drawn_61 : decode cX7_drawn 61 = .ok (.if_icmp .ge 155, 3) := by decide +kernel
theorem dX7_drawn_64 : decode cX7_drawn 64 = .ok (.lload 4, 2) := by decide +kernel
theorem dX7_drawn_66 : decode cX7_drawn 66 = .ok (.ldc2_w 245, 3) := by decide +kernel
theorem dX7_drawn_69 : decode cX7_drawn 69 = .ok (.lmul, 1) := by decide +kernel
theorem dX7_drawn_70 : decode cX7_drawn 70 = .ok (.ldc2_w 247, 3) := by decide +kernel
theorem dX7_drawn_73 : decode cX7_drawn 73 = .ok (.lrem, 1) := by decide +kernel
theorem dX7_drawn_74 : decode cX7_drawn 74 = .ok (.lstore 4, 2) := by decide +kernel
theorem dX7_drawn_76 : decode cX7_drawn 76 = .ok (.lload 4, 2) := by decide +kernel
theorem dX7_drawn_78 : decode cX7_drawn 78 = .ok (.aload_n 0, 1) := by decide +kernel
theorem dX7_drawn_79 : decode cX7_drawn 79 = .ok (.getfield 19, 3) := by decide +kernel
theorem dX7_drawn_82 : decode cX7_drawn 82 = .ok (.iconst 0, 1) := by decide +kernel
theorem dX7_drawn_83 : decode cX7_drawn 83 = .ok (.iaload, 1) := by decide +kernel
theorem dX7_drawn_84 : decode cX7_drawn 84 = .ok (.i2l, 1) := by decide +kernel
theorem dX7_drawn_85 : decode cX7_drawn 85 = .ok (.lrem, 1) := by decide +kernel
theorem dX7_drawn_86 : decode cX7_drawn 86 = .ok (.l2i, 1) := by decide +kernel
theorem dX7_drawn_87 : decode cX7_drawn 87 = .ok (.istore 8, 2) := by decide +kernel
theorem dX7_drawn_89 : decode cX7_drawn 89 = .ok (.aload_n 0, 1) := by decide +kernel
theorem dX7_drawn_90 : decode cX7_drawn 90 = .ok (.iload 8, 2) := by decide +kernel
theorem dX7_drawn_92 : decode cX7_drawn 92 = .ok (.invokevirtual 183, 3) := by decide +kernel
theorem dX7_drawn_95 : decode cX7_drawn 95 = .ok (.ifCond .eq 30, 3) := by decide +kernel
theorem dX7_drawn_98 : decode cX7_drawn 98 = .ok (.lload 4, 2) := by decide +kernel
theorem dX7_drawn_100 : decode cX7_drawn 100 = .ok (.ldc2_w 65, 3) := by decide +kernel
theorem dX7_drawn_103 : decode cX7_drawn 103 = .ok (.lrem, 1) := by decide +kernel
theorem dX7_drawn_104 : decode cX7_drawn 104 = .ok (.lconst 0, 1) := by decide +kernel
theorem dX7_drawn_105 : decode cX7_drawn 105 = .ok (.lcmp, 1) := by decide +kernel
theorem dX7_drawn_106 : decode cX7_drawn 106 = .ok (.ifCond .ne 19, 3) := by decide +kernel
theorem dX7_drawn_109 : decode cX7_drawn 109 = .ok (.aload_n 0, 1) := by decide +kernel
theorem dX7_drawn_110 : decode cX7_drawn 110 = .ok (.getfield 19, 3) := by decide +kernel
theorem dX7_drawn_113 : decode cX7_drawn 113 = .ok (.iconst 4, 1) := by decide +kernel
theorem dX7_drawn_114 : decode cX7_drawn 114 = .ok (.dup2, 1) := by decide +kernel
theorem dX7_drawn_115 : decode cX7_drawn 115 = .ok (.iaload, 1) := by decide +kernel
theorem dX7_drawn_116 : decode cX7_drawn 116 = .ok (.iconst 1, 1) := by decide +kernel
theorem dX7_drawn_117 : decode cX7_drawn 117 = .ok (.iload 8, 2) := by decide +kernel
theorem dX7_drawn_119 : decode cX7_drawn 119 = .ok (.ishl, 1) := by decide +kernel
theorem dX7_drawn_120 : decode cX7_drawn 120 = .ok (.ior, 1) := by decide +kernel
theorem dX7_drawn_121 : decode cX7_drawn 121 = .ok (.iastore, 1) := by decide +kernel
theorem dX7_drawn_122 : decode cX7_drawn 122 = .ok (.goto 41, 3) := by decide +kernel
theorem dX7_drawn_125 : decode cX7_drawn 125 = .ok (.lload 4, 2) := by decide +kernel
theorem dX7_drawn_127 : decode cX7_drawn 127 = .ok (.ldc2_w 249, 3) := by decide +kernel
theorem dX7_drawn_130 : decode cX7_drawn 130 = .ok (.lrem, 1) := by decide +kernel
theorem dX7_drawn_131 : decode cX7_drawn 131 = .ok (.lconst 0, 1) := by decide +kernel
theorem dX7_drawn_132 : decode cX7_drawn 132 = .ok (.lcmp, 1) := by decide +kernel
theorem dX7_drawn_133 : decode cX7_drawn 133 = .ok (.ifCond .ne 30, 3) := by decide +kernel
theorem dX7_drawn_136 : decode cX7_drawn 136 = .ok (.aload_n 0, 1) := by decide +kernel
theorem dX7_drawn_137 : decode cX7_drawn 137 = .ok (.getfield 19, 3) := by decide +kernel
theorem dX7_drawn_140 : decode cX7_drawn 140 = .ok (.iconst 5, 1) := by decide +kernel
theorem dX7_drawn_141 : decode cX7_drawn 141 = .ok (.iaload, 1) := by decide +kernel
theorem dX7_drawn_142 : decode cX7_drawn 142 = .ok (.iload 8, 2) := by decide +kernel
theorem dX7_drawn_144 : decode cX7_drawn 144 = .ok (.invokestatic 145, 3) := by decide +kernel
theorem dX7_drawn_147 : decode cX7_drawn 147 = .ok (.ifCond .ne 16, 3) := by decide +kernel
theorem dX7_drawn_150 : decode cX7_drawn 150 = .ok (.aload_n 0, 1) := by decide +kernel
theorem dX7_drawn_151 : decode cX7_drawn 151 = .ok (.iload 8, 2) := by decide +kernel
theorem dX7_drawn_153 : decode cX7_drawn 153 = .ok (.lload 4, 2) := by decide +kernel
theorem dX7_drawn_155 : decode cX7_drawn 155 = .ok (.ldc2_w 251, 3) := by decide +kernel
theorem dX7_drawn_158 : decode cX7_drawn 158 = .ok (.lrem, 1) := by decide +kernel
theorem dX7_drawn_159 : decode cX7_drawn 159 = .ok (.l2i, 1) := by decide +kernel
theorem dX7_drawn_160 : decode cX7_drawn 160 = .ok (.invokevirtual 188, 3) := by decide +kernel
theorem dX7_drawn_163 : decode cX7_drawn 163 = .ok (.aload_n 0, 1) := by decide +kernel
theorem dX7_drawn_164 : decode cX7_drawn 164 = .ok (.getfield 19, 3) := by decide +kernel
theorem dX7_drawn_167 : decode cX7_drawn 167 = .ok (.iconst 2, 1) := by decide +kernel
theorem dX7_drawn_168 : decode cX7_drawn 168 = .ok (.lload 4, 2) := by decide +kernel
theorem dX7_drawn_170 : decode cX7_drawn 170 = .ok (.ldc2_w 55, 3) := by decide +kernel
theorem dX7_drawn_173 : decode cX7_drawn 173 = .ok (.lrem, 1) := by decide +kernel
theorem dX7_drawn_174 : decode cX7_drawn 174 = .ok (.lconst 0, 1) := by decide +kernel
theorem dX7_drawn_175 : decode cX7_drawn 175 = .ok (.lcmp, 1) := by decide +kernel
theorem dX7_drawn_176 : decode cX7_drawn 176 = .ok (.ifCond .ne 14, 3) := by decide +kernel
theorem dX7_drawn_179 : decode cX7_drawn 179 = .ok (.iconst 1, 1) := by decide +kernel
theorem dX7_drawn_180 : decode cX7_drawn 180 = .ok (.aload_n 0, 1) := by decide +kernel
theorem dX7_drawn_181 : decode cX7_drawn 181 = .ok (.getfield 19, 3) := by decide +kernel
theorem dX7_drawn_184 : decode cX7_drawn 184 = .ok (.iconst 2, 1) := by decide +kernel
theorem dX7_drawn_185 : decode cX7_drawn 185 = .ok (.iaload, 1) := by decide +kernel
theorem dX7_drawn_186 : decode cX7_drawn 186 = .ok (.isub, 1) := by decide +kernel
theorem dX7_drawn_187 : decode cX7_drawn 187 = .ok (.goto 9, 3) := by decide +kernel
theorem dX7_drawn_190 : decode cX7_drawn 190 = .ok (.aload_n 0, 1) := by decide +kernel
theorem dX7_drawn_191 : decode cX7_drawn 191 = .ok (.getfield 19, 3) := by decide +kernel
theorem dX7_drawn_194 : decode cX7_drawn 194 = .ok (.iconst 2, 1) := by decide +kernel
theorem dX7_drawn_195 : decode cX7_drawn 195 = .ok (.iaload, 1) := by decide +kernel
theorem dX7_drawn_196 : decode cX7_drawn 196 = .ok (.iastore, 1) := by decide +kernel
theorem dX7_drawn_197 : decode cX7_drawn 197 = .ok (.aload_n 0, 1) := by decide +kernel
theorem dX7_drawn_198 : decode cX7_drawn 198 = .ok (.invokevirtual 177, 3) := by decide +kernel
theorem dX7_drawn_201 : decode cX7_drawn 201 = .ok (.iload 6, 2) := by decide +kernel
theorem dX7_drawn_203 : decode cX7_drawn 203 = .ok (.aload_n 0, 1) := by decide +kernel
theorem dX7_drawn_204 : decode cX7_drawn 204 = .ok (.getfield 158, 3) := by decide +kernel
theorem dX7_drawn_207 : decode cX7_drawn 207 = .ok (.iadd, 1) := by decide +kernel
theorem dX7_drawn_208 : decode cX7_drawn 208 = .ok (.istore 6, 2) := by decide +kernel
theorem dX7_drawn_210 : decode cX7_drawn 210 = .ok (.iinc 7 1, 3) := by decide +kernel
theorem dX7_drawn_213 : decode cX7_drawn 213 = .ok (.goto (-155), 3) := by decide +kernel
theorem dX7_drawn_216 : decode cX7_drawn 216 = .ok (.aload_n 0, 1) := by decide +kernel
theorem dX7_drawn_217 : decode cX7_drawn 217 = .ok (.invokevirtual 214, 3) := by decide +kernel
theorem dX7_drawn_220 : decode cX7_drawn 220 = .ok (.invokestatic 218, 3) := by decide +kernel
theorem dX7_drawn_223 : decode cX7_drawn 223 = .ok (.istore 7, 2) := by decide +kernel
theorem dX7_drawn_225 : decode cX7_drawn 225 = .ok (.aload_n 0, 1) := by decide +kernel
theorem dX7_drawn_226 : decode cX7_drawn 226 = .ok (.invokevirtual 207, 3) := by decide +kernel
theorem dX7_drawn_229 : decode cX7_drawn 229 = .ok (.iload_n 3, 1) := by decide +kernel
theorem dX7_drawn_230 : decode cX7_drawn 230 = .ok (.ifCond .ne 8, 3) := by decide +kernel
theorem dX7_drawn_233 : decode cX7_drawn 233 = .ok (.iload 7, 2) := by decide +kernel
theorem dX7_drawn_235 : decode cX7_drawn 235 = .ok (.goto 5, 3) := by decide +kernel
theorem dX7_drawn_238 : decode cX7_drawn 238 = .ok (.iload 6, 2) := by decide +kernel
theorem dX7_drawn_240 : decode cX7_drawn 240 = .ok (.ireturn, 1) := by decide +kernel
theorem dX7_image_0 : decode cX7_image 0 = .ok (.iload_n 1, 1) := by decide +kernel
theorem dX7_image_1 : decode cX7_image 1 = .ok (.i2l, 1) := by decide +kernel
theorem dX7_image_2 : decode cX7_image 2 = .ok (.lconst 0, 1) := by decide +kernel
theorem dX7_image_3 : decode cX7_image 3 = .ok (.lconst 1, 1) := by decide +kernel
theorem dX7_image_4 : decode cX7_image 4 = .ok (.invokestatic 57, 3) := by decide +kernel
theorem dX7_image_7 : decode cX7_image 7 = .ok (.ifCond .ne 6, 3) := by decide +kernel
theorem dX7_image_10 : decode cX7_image 10 = .ok (.ldc 67, 2) := by decide +kernel
theorem dX7_image_12 : decode cX7_image 12 = .ok (.ireturn, 1) := by decide +kernel
theorem dX7_image_13 : decode cX7_image 13 = .ok (.aload_n 0, 1) := by decide +kernel
theorem dX7_image_14 : decode cX7_image 14 = .ok (.getfield 135, 3) := by decide +kernel
theorem dX7_image_17 : decode cX7_image 17 = .ok (.ifCond .ne 6, 3) := by decide +kernel
theorem dX7_image_20 : decode cX7_image 20 = .ok (.ldc 171, 2) := by decide +kernel
theorem dX7_image_22 : decode cX7_image 22 = .ok (.ireturn, 1) := by decide +kernel
theorem dX7_image_23 : decode cX7_image 23 = .ok (.iconst 0, 1) := by decide +kernel
theorem dX7_image_24 : decode cX7_image 24 = .ok (.istore_n 2, 1) := by decide +kernel
theorem dX7_image_25 : decode cX7_image 25 = .ok (.iload_n 2, 1) := by decide +kernel
theorem dX7_image_26 : decode cX7_image 26 = .ok (.bipush 38, 2) := by decide +kernel
theorem dX7_image_28 : decode cX7_image 28 = .ok (.if_icmp .ge 26, 3) := by decide +kernel
theorem dX7_image_31 : decode cX7_image 31 = .ok (.aload_n 0, 1) := by decide +kernel
theorem dX7_image_32 : decode cX7_image 32 = .ok (.getfield 44, 3) := by decide +kernel
theorem dX7_image_35 : decode cX7_image 35 = .ok (.bipush 38, 2) := by decide +kernel
theorem dX7_image_37 : decode cX7_image 37 = .ok (.iload_n 1, 1) := by decide +kernel
theorem dX7_image_38 : decode cX7_image 38 = .ok (.imul, 1) := by decide +kernel
theorem dX7_image_39 : decode cX7_image 39 = .ok (.iload_n 2, 1) := by decide +kernel
theorem dX7_image_40 : decode cX7_image 40 = .ok (.iadd, 1) := by decide +kernel
theorem dX7_image_41 : decode cX7_image 41 = .ok (.aload_n 0, 1) := by decide +kernel
theorem dX7_image_42 : decode cX7_image 42 = .ok (.getfield 19, 3) := by decide +kernel
theorem dX7_image_45 : decode cX7_image 45 = .ok (.iload_n 2, 1) := by decide +kernel
theorem dX7_image_46 : decode cX7_image 46 = .ok (.iaload, 1) := by decide +kernel
theorem dX7_image_47 : decode cX7_image 47 = .ok (.iastore, 1) := by decide +kernel
theorem dX7_image_48 : decode cX7_image 48 = .ok (.iinc 2 1, 3) := by decide +kernel
theorem dX7_image_51 : decode cX7_image 51 = .ok (.goto (-26), 3) := by decide +kernel
theorem dX7_image_54 : decode cX7_image 54 = .ok (.aload_n 0, 1) := by decide +kernel
theorem dX7_image_55 : decode cX7_image 55 = .ok (.getfield 40, 3) := by decide +kernel
theorem dX7_image_58 : decode cX7_image 58 = .ok (.iload_n 1, 1) := by decide +kernel
theorem dX7_image_59 : decode cX7_image 59 = .ok (.iconst 1, 1) := by decide +kernel
theorem dX7_image_60 : decode cX7_image 60 = .ok (.bastore, 1) := by decide +kernel
theorem dX7_image_61 : decode cX7_image 61 = .ok (.iconst 1, 1) := by decide +kernel
theorem dX7_image_62 : decode cX7_image 62 = .ok (.ireturn, 1) := by decide +kernel
theorem dX7_restore_0 : decode cX7_restore 0 = .ok (.iload_n 1, 1) := by decide +kernel
theorem dX7_restore_1 : decode cX7_restore 1 = .ok (.i2l, 1) := by decide +kernel
theorem dX7_restore_2 : decode cX7_restore 2 = .ok (.lconst 0, 1) := by decide +kernel
theorem dX7_restore_3 : decode cX7_restore 3 = .ok (.lconst 1, 1) := by decide +kernel
theorem dX7_restore_4 : decode cX7_restore 4 = .ok (.invokestatic 57, 3) := by decide +kernel
theorem dX7_restore_7 : decode cX7_restore 7 = .ok (.ifCond .ne 6, 3) := by decide +kernel
theorem dX7_restore_10 : decode cX7_restore 10 = .ok (.ldc 67, 2) := by decide +kernel
theorem dX7_restore_12 : decode cX7_restore 12 = .ok (.ireturn, 1) := by decide +kernel
theorem dX7_restore_13 : decode cX7_restore 13 = .ok (.aload_n 0, 1) := by decide +kernel
theorem dX7_restore_14 : decode cX7_restore 14 = .ok (.getfield 40, 3) := by decide +kernel
theorem dX7_restore_17 : decode cX7_restore 17 = .ok (.iload_n 1, 1) := by decide +kernel
theorem dX7_restore_18 : decode cX7_restore 18 = .ok (.baload, 1) := by decide +kernel
theorem dX7_restore_19 : decode cX7_restore 19 = .ok (.ifCond .ne 6, 3) := by decide +kernel
theorem dX7_restore_22 : decode cX7_restore 22 = .ok (.ldc 171, 2) := by decide +kernel
theorem dX7_restore_24 : decode cX7_restore 24 = .ok (.ireturn, 1) := by decide +kernel
theorem dX7_restore_25 : decode cX7_restore 25 = .ok (.iconst 0, 1) := by decide +kernel
theorem dX7_restore_26 : decode cX7_restore 26 = .ok (.istore_n 2, 1) := by decide +kernel
theorem dX7_restore_27 : decode cX7_restore 27 = .ok (.iload_n 2, 1) := by decide +kernel
theorem dX7_restore_28 : decode cX7_restore 28 = .ok (.bipush 38, 2) := by decide +kernel
theorem dX7_restore_30 : decode cX7_restore 30 = .ok (.if_icmp .ge 26, 3) := by decide +kernel
theorem dX7_restore_33 : decode cX7_restore 33 = .ok (.aload_n 0, 1) := by decide +kernel
theorem dX7_restore_34 : decode cX7_restore 34 = .ok (.getfield 19, 3) := by decide +kernel
