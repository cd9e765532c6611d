theorem dX0_init_0 : decode cX0_init 0 = .ok (.aload_n 0, 1) := by decide +kernel
theorem dX0_init_1 : decode cX0_init 1 = .ok (.invokespecial 3, 3) := by decide +kernel
theorem dX0_init_4 : decode cX0_init 4 = .ok (.aload_n 0, 1) := by decide +kernel
theorem dX0_init_5 : decode cX0_init 5 = .ok (.iconst 0, 1) := by decide +kernel
theorem dX0_init_6 : decode cX0_init 6 = .ok (.putfield 9, 3) := by decide +kernel
theorem dX0_init_9 : decode cX0_init 9 = .ok (.aload_n 0, 1) := by decide +kernel
theorem dX0_init_10 : decode cX0_init 10 = .ok (.iconst 0, 1) := by decide +kernel
theorem dX0_init_11 : decode cX0_init 11 = .ok (.putfield 15, 3) := by decide +kernel
theorem dX0_init_14 : decode cX0_init 14 = .ok (.aload_n 0, 1) := by decide +kernel
theorem dX0_init_15 : decode cX0_init 15 = .ok (.sipush 192, 3) := by decide +kernel
theorem dX0_init_18 : decode cX0_init 18 = .ok (.newarray .int, 2) := by decide +kernel
theorem dX0_init_20 : decode cX0_init 20 = .ok (.putfield 18, 3) := by decide +kernel
theorem dX0_init_23 : decode cX0_init 23 = .ok (.aload_n 0, 1) := by decide +kernel
theorem dX0_init_24 : decode cX0_init 24 = .ok (.sipush 192, 3) := by decide +kernel
theorem dX0_init_27 : decode cX0_init 27 = .ok (.newarray .int, 2) := by decide +kernel
theorem dX0_init_29 : decode cX0_init 29 = .ok (.putfield 22, 3) := by decide +kernel
theorem dX0_init_32 : decode cX0_init 32 = .ok (.aload_n 0, 1) := by decide +kernel
theorem dX0_init_33 : decode cX0_init 33 = .ok (.sipush 192, 3) := by decide +kernel
theorem dX0_init_36 : decode cX0_init 36 = .ok (.newarray .int, 2) := by decide +kernel
theorem dX0_init_38 : decode cX0_init 38 = .ok (.putfield 25, 3) := by decide +kernel
theorem dX0_init_41 : decode cX0_init 41 = .ok (.aload_n 0, 1) := by decide +kernel
theorem dX0_init_42 : decode cX0_init 42 = .ok (.bipush 24, 2) := by decide +kernel
theorem dX0_init_44 : decode cX0_init 44 = .ok (.newarray .int, 2) := by decide +kernel
theorem dX0_init_46 : decode cX0_init 46 = .ok (.putfield 28, 3) := by decide +kernel
theorem dX0_init_49 : decode cX0_init 49 = .ok (.aload_n 0, 1) := by decide +kernel
theorem dX0_init_50 : decode cX0_init 50 = .ok (.bipush 24, 2) := by decide +kernel
theorem dX0_init_52 : decode cX0_init 52 = .ok (.newarray .int, 2) := by decide +kernel
theorem dX0_init_54 : decode cX0_init 54 = .ok (.putfield 31, 3) := by decide +kernel
theorem dX0_init_57 : decode cX0_init 57 = .ok (.aload_n 0, 1) := by decide +kernel
theorem dX0_init_58 : decode cX0_init 58 = .ok (.bipush 24, 2) := by decide +kernel
theorem dX0_init_60 : decode cX0_init 60 = .ok (.newarray .int, 2) := by decide +kernel
theorem dX0_init_62 : decode cX0_init 62 = .ok (.putfield 34, 3) := by decide +kernel
theorem dX0_init_65 : decode cX0_init 65 = .ok (.aload_n 0, 1) := by decide +kernel
theorem dX0_init_66 : decode cX0_init 66 = .ok (.bipush 24, 2) := by decide +kernel
theorem dX0_init_68 : decode cX0_init 68 = .ok (.newarray .int, 2) := by decide +kernel
theorem dX0_init_70 : decode cX0_init 70 = .ok (.putfield 37, 3) := by decide +kernel
theorem dX0_init_73 : decode cX0_init 73 = .ok (.aload_n 0, 1) := by decide +kernel
theorem dX0_init_74 : decode cX0_init 74 = .ok (.bipush 24, 2) := by decide +kernel
theorem dX0_init_76 : decode cX0_init 76 = .ok (.newarray .int, 2) := by decide +kernel
theorem dX0_init_78 : decode cX0_init 78 = .ok (.putfield 40, 3) := by decide +kernel
theorem dX0_init_81 : decode cX0_init 81 = .ok (.return_, 1) := by decide +kernel
theorem dX0_forget_0 : decode cX0_forget 0 = .ok (.aload_n 0, 1) := by decide +kernel
theorem dX0_forget_1 : decode cX0_forget 1 = .ok (.iconst 0, 1) := by decide +kernel
theorem dX0_forget_2 : decode cX0_forget 2 = .ok (.putfield 9, 3) := by decide +kernel
theorem dX0_forget_5 : decode cX0_forget 5 = .ok (.return_, 1) := by decide +kernel
theorem dX0_keep_0 : decode cX0_keep 0 = .ok (.aload_n 1, 1) := by decide +kernel
theorem dX0_keep_1 : decode cX0_keep 1 = .ok (.getfield 43, 3) := by decide +kernel
theorem dX0_keep_4 : decode cX0_keep 4 = .ok (.iconst 0, 1) := by decide +kernel
theorem dX0_keep_5 : decode cX0_keep 5 = .ok (.aload_n 0, 1) := by decide +kernel
theorem dX0_keep_6 : decode cX0_keep 6 = .ok (.getfield 18, 3) := by decide +kernel
theorem dX0_keep_9 : decode cX0_keep 9 = .ok (.aload_n 0, 1) := by decide +kernel
theorem dX0_keep_10 : decode cX0_keep 10 = .ok (.getfield 15, 3) := by decide +kernel
theorem dX0_keep_13 : decode cX0_keep 13 = .ok (.bipush 8, 2) := by decide +kernel
theorem dX0_keep_15 : decode cX0_keep 15 = .ok (.imul, 1) := by decide +kernel
theorem dX0_keep_16 : decode cX0_keep 16 = .ok (.bipush 8, 2) := by decide +kernel
theorem dX0_keep_18 : decode cX0_keep 18 = .ok (.invokestatic 46, 3) := by decide +kernel
theorem dX0_keep_21 : decode cX0_keep 21 = .ok (.aload_n 1, 1) := by decide +kernel
theorem dX0_keep_22 : decode cX0_keep 22 = .ok (.getfield 52, 3) := by decide +kernel
theorem dX0_keep_25 : decode cX0_keep 25 = .ok (.iconst 0, 1) := by decide +kernel
theorem dX0_keep_26 : decode cX0_keep 26 = .ok (.aload_n 0, 1) := by decide +kernel
theorem dX0_keep_27 : decode cX0_keep 27 = .ok (.getfield 22, 3) := by decide +kernel
theorem dX0_keep_30 : decode cX0_keep 30 = .ok (.aload_n 0, 1) := by decide +kernel
theorem dX0_keep_31 : decode cX0_keep 31 = .ok (.getfield 15, 3) := by decide +kernel
theorem dX0_keep_34 : decode cX0_keep 34 = .ok (.bipush 8, 2) := by decide +kernel
theorem dX0_keep_36 : decode cX0_keep 36 = .ok (.imul, 1) := by decide +kernel
theorem dX0_keep_37 : decode cX0_keep 37 = .ok (.bipush 8, 2) := by decide +kernel
theorem dX0_keep_39 : decode cX0_keep 39 = .ok (.invokestatic 46, 3) := by decide +kernel
theorem dX0_keep_42 : decode cX0_keep 42 = .ok (.aload_n 1, 1) := by decide +kernel
theorem dX0_keep_43 : decode cX0_keep 43 = .ok (.getfield 53, 3) := by decide +kernel
theorem dX0_keep_46 : decode cX0_keep 46 = .ok (.iconst 0, 1) := by decide +kernel
theorem dX0_keep_47 : decode cX0_keep 47 = .ok (.aload_n 0, 1) := by decide +kernel
theorem dX0_keep_48 : decode cX0_keep 48 = .ok (.getfield 25, 3) := by decide +kernel
theorem dX0_keep_51 : decode cX0_keep 51 = .ok (.aload_n 0, 1) := by decide +kernel
theorem dX0_keep_52 : decode cX0_keep 52 = .ok (.getfield 15, 3) := by decide +kernel
theorem dX0_keep_55 : decode cX0_keep 55 = .ok (.bipush 8, 2) := by decide +kernel
theorem dX0_keep_57 : decode cX0_keep 57 = .ok (.imul, 1) := by decide +kernel
theorem dX0_keep_58 : decode cX0_keep 58 = .ok (.bipush 8, 2) := by decide +kernel
theorem dX0_keep_60 : decode cX0_keep 60 = .ok (.invokestatic 46, 3) := by decide +kernel
theorem dX0_keep_63 : decode cX0_keep 63 = .ok (.aload_n 0, 1) := by decide +kernel
theorem dX0_keep_64 : decode cX0_keep 64 = .ok (.getfield 28, 3) := by decide +kernel
theorem dX0_keep_67 : decode cX0_keep 67 = .ok (.aload_n 0, 1) := by decide +kernel
theorem dX0_keep_68 : decode cX0_keep 68 = .ok (.getfield 15, 3) := by decide +kernel
theorem dX0_keep_71 : decode cX0_keep 71 = .ok (.aload_n 1, 1) := by decide +kernel
theorem dX0_keep_72 : decode cX0_keep 72 = .ok (.getfield 54, 3) := by decide +kernel
theorem dX0_keep_75 : decode cX0_keep 75 = .ok (.iastore, 1) := by decide +kernel
theorem dX0_keep_76 : decode cX0_keep 76 = .ok (.aload_n 0, 1) := by decide +kernel
theorem dX0_keep_77 : decode cX0_keep 77 = .ok (.getfield 31, 3) := by decide +kernel
theorem dX0_keep_80 : decode cX0_keep 80 = .ok (.aload_n 0, 1) := by decide +kernel
theorem dX0_keep_81 : decode cX0_keep 81 = .ok (.getfield 15, 3) := by decide +kernel
theorem dX0_keep_84 : decode cX0_keep 84 = .ok (.aload_n 1, 1) := by decide +kernel
theorem dX0_keep_85 : decode cX0_keep 85 = .ok (.getfield 56, 3) := by decide +kernel
theorem dX0_keep_88 : decode cX0_keep 88 = .ok (.iastore, 1) := by decide +kernel
theorem dX0_keep_89 : decode cX0_keep 89 = .ok (.aload_n 0, 1) := by decide +kernel
theorem dX0_keep_90 : decode cX0_keep 90 = .ok (.getfield 34, 3) := by decide +kernel
theorem dX0_keep_93 : decode cX0_keep 93 = .ok (.aload_n 0, 1) := by decide +kernel
theorem dX0_keep_94 : decode cX0_keep 94 = .ok (.getfield 15, 3) := by decide +kernel
theorem dX0_keep_97 : decode cX0_keep 97 = .ok (.aload_n 1, 1) := by decide +kernel
theorem dX0_keep_98 : decode cX0_keep 98 = .ok (.getfield 58, 3) := by decide +kernel
theorem dX0_keep_101 : decode cX0_keep 101 = .ok (.iastore, 1) := by decide +kernel
theorem dX0_keep_102 : decode cX0_keep 102 = .ok (.aload_n 0, 1) := by decide +kernel
theorem dX0_keep_103 : decode cX0_keep 103 = .ok (.getfield 37, 3) := by decide +kernel
theorem dX0_keep_106 : decode cX0_keep 106 = .ok (.aload_n 0, 1) := by decide +kernel
theorem dX0_keep_107 : decode cX0_keep 107 = .ok (.getfield 15, 3) := by decide +kernel
theorem dX0_keep_110 : decode cX0_keep 110 = .ok (.aload_n 1, 1) := by decide +kernel
theorem dX0_keep_111 : decode cX0_keep 111 = .ok (.getfield 60, 3) := by decide +kernel
theorem dX0_keep_114 : decode cX0_keep 114 = .ok (.iastore, 1) := by decide +kernel
theorem dX0_keep_115 : decode cX0_keep 115 = .ok (.aload_n 0, 1) := by decide +kernel
theorem dX0_keep_116 : decode cX0_keep 116 = .ok (.getfield 40, 3) := by decide +kernel
theorem dX0_keep_119 : decode cX0_keep 119 = .ok (.aload_n 0, 1) := by decide +kernel
theorem dX0_keep_120 : decode cX0_keep 120 = .ok (.getfield 15, 3) := by decide +kernel
theorem dX0_keep_123 : decode cX0_keep 123 = .ok (.aload_n 1, 1) := by decide +kernel
theorem dX0_keep_124 : decode cX0_keep 124 = .ok (.getfield 62, 3) := by decide +kernel
theorem dX0_keep_127 : decode cX0_keep 127 = .ok (.iastore, 1) := by decide +kernel
theorem dX0_keep_128 : decode cX0_keep 128 = .ok (.aload_n 0, 1) := by decide +kernel
theorem dX0_keep_129 : decode cX0_keep 129 = .ok (.aload_n 0, 1) := by decide +kernel
theorem dX0_keep_130 : decode cX0_keep 130 = .ok (.getfield 15, 3) := by decide +kernel
theorem dX0_keep_133 : decode cX0_keep 133 = .ok (.iconst 1, 1) := by decide +kernel
theorem dX0_keep_134 : decode cX0_keep 134 = .ok (.iadd, 1) := by decide +kernel
theorem dX0_keep_135 : decode cX0_keep 135 = .ok (.bipush 24, 2) := by decide +kernel
theorem dX0_keep_137 : decode cX0_keep 137 = .ok (.irem, 1) := by decide +kernel
theorem dX0_keep_138 : decode cX0_keep 138 = .ok (.putfield 15, 3) := by decide +kernel
theorem dX0_keep_141 : decode cX0_keep 141 = .ok (.aload_n 0, 1) := by decide +kernel
theorem dX0_keep_142 : decode cX0_keep 142 = .ok (.bipush 24, 2) := by decide +kernel
theorem dX0_keep_144 : decode cX0_keep 144 = .ok (.aload_n 0, 1) := by decide +kernel
theorem dX0_keep_145 : decode cX0_keep 145 = .ok (.getfield 9, 3) := by decide +kernel
theorem dX0_keep_148 : decode cX0_keep 148 = .ok (.iconst 1, 1) := by decide +kernel
theorem dX0_keep_149 : decode cX0_keep 149 = .ok (.iadd, 1) := by decide +kernel
theorem dX0_keep_150 : decode cX0_keep 150 = .ok (.invokestatic 64, 3) := by decide +kernel
theorem dX0_keep_153 : decode cX0_keep 153 = .ok (.putfield 9, 3) := by decide +kernel
theorem dX0_keep_156 : decode cX0_keep 156 = .ok (.return_, 1) := by decide +kernel
theorem dX0_takeBack_0 : decode cX0_takeBack 0 = .ok (.aload_n 0, 1) := by decide +kernel
theorem dX0_takeBack_1 : decode cX0_takeBack 1 = .ok (.getfield 9, 3) := by decide +kernel
theorem dX0_takeBack_4 : decode cX0_takeBack 4 = .ok (.ifCond .ne 4, 3) := by decide +kernel
theorem dX0_takeBack_7 : decode cX0_takeBack 7 = .ok (.return_, 1) := by decide +kernel
theorem dX0_takeBack_8 : decode cX0_takeBack 8 = .ok (.aload_n 0, 1) := by decide +kernel
theorem dX0_takeBack_9 : decode cX0_takeBack 9 = .ok (.aload_n 0, 1) := by decide +kernel
theorem dX0_takeBack_10 : decode cX0_takeBack 10 = .ok (.getfield 15, 3) := by decide +kernel
theorem dX0_takeBack_13 : decode cX0_takeBack 13 = .ok (.bipush 24, 2) := by decide +kernel
theorem dX0_takeBack_15 : decode cX0_takeBack 15 = .ok (.iadd, 1) := by decide +kernel
theorem dX0_takeBack_16 : decode cX0_takeBack 16 = .ok (.iconst 1, 1) := by decide +kernel
theorem dX0_takeBack_17 : decode cX0_takeBack 17 = .ok (.isub, 1) := by decide +kernel
theorem dX0_takeBack_18 : decode cX0_takeBack 18 = .ok (.bipush 24, 2) := by decide +kernel
theorem dX0_takeBack_20 : decode cX0_takeBack 20 = .ok (.irem, 1) := by decide +kernel
theorem dX0_takeBack_21 : decode cX0_takeBack 21 = .ok (.putfield 15, 3) := by decide +kernel
theorem dX0_takeBack_24 : decode cX0_takeBack 24 = .ok (.aload_n 0, 1) := by decide +kernel
theorem dX0_takeBack_25 : decode cX0_takeBack 25 = .ok (.dup, 1) := by decide +kernel
theorem dX0_takeBack_26 : decode cX0_takeBack 26 = .ok (.getfield 9, 3) := by decide +kernel
theorem dX0_takeBack_29 : decode cX0_takeBack 29 = .ok (.iconst 1, 1) := by decide +kernel
theorem dX0_takeBack_30 : decode cX0_takeBack 30 = .ok (.isub, 1) := by decide +kernel
theorem dX0_takeBack_31 : decode cX0_takeBack 31 = .ok (.putfield 9, 3) := by decide +kernel
theorem dX0_takeBack_34 : decode cX0_takeBack 34 = .ok (.aload_n 0, 1) := by decide +kernel
theorem dX0_takeBack_35 : decode cX0_takeBack 35 = .ok (.getfield 18, 3) := by decide +kernel
theorem dX0_takeBack_38 : decode cX0_takeBack 38 = .ok (.aload_n 0, 1) := by decide +kernel
theorem dX0_takeBack_39 : decode cX0_takeBack 39 = .ok (.getfield 15, 3) := by decide +kernel
theorem dX0_takeBack_42 : decode cX0_takeBack 42 = .ok (.bipush 8, 2) := by decide +kernel
theorem dX0_takeBack_44 : decode cX0_takeBack 44 = .ok (.imul, 1) := by decide +kernel
theorem dX0_takeBack_45 : decode cX0_takeBack 45 = .ok (.aload_n 1, 1) := by decide +kernel
theorem dX0_takeBack_46 : decode cX0_takeBack 46 = .ok (.getfield 43, 3) := by decide +kernel
theorem dX0_takeBack_49 : decode cX0_takeBack 49 = .ok (.iconst 0, 1) := by decide +kernel
theorem dX0_takeBack_50 : decode cX0_takeBack 50 = .ok (.bipush 8, 2) := by decide +kernel
theorem dX0_takeBack_52 : decode cX0_takeBack 52 = .ok (.invokestatic 46, 3) := by decide +kernel
theorem dX0_takeBack_55 : decode cX0_takeBack 55 = .ok (.aload_n 0, 1) := by decide +kernel
theorem dX0_takeBack_56 : decode cX0_takeBack 56 = .ok (.getfield 22, 3) := by decide +kernel
theorem dX0_takeBack_59 : decode cX0_takeBack 59 = .ok (.aload_n 0, 1) := by decide +kernel
theorem dX0_takeBack_60 : decode cX0_takeBack 60 = .ok (.getfield 15, 3) := by decide +kernel
theorem dX0_takeBack_63 : decode cX0_takeBack 63 = .ok (.bipush 8, 2) := by decide +kernel
theorem dX0_takeBack_65 : decode cX0_takeBack 65 = .ok (.imul, 1) := by decide +kernel
theorem dX0_takeBack_66 : decode cX0_takeBack 66 = .ok (.aload_n 1, 1) := by decide +kernel
theorem dX0_takeBack_67 : decode cX0_takeBack 67 = .ok (.getfield 52, 3) := by decide +kernel
theorem dX0_takeBack_70 : decode cX0_takeBack 70 = .ok (.iconst 0, 1) := by decide +kernel
theorem dX0_takeBack_71 : decode cX0_takeBack 71 = .ok (.bipush 8, 2) := by decide +kernel
theorem dX0_takeBack_73 : decode cX0_takeBack 73 = .ok (.invokestatic 46, 3) := by decide +kernel
theorem dX0_takeBack_76 : decode cX0_takeBack 76 = .ok (.aload_n 0, 1) := by decide +kernel
theorem dX0_takeBack_77 : decode cX0_takeBack 77 = .ok (.getfield 25, 3) := by decide +kernel
theorem dX0_takeBack_80 : decode cX0_takeBack 80 = .ok (.aload_n 0, 1) := by decide +kernel
theorem dX0_takeBack_81 : decode cX0_takeBack 81 = .ok (.getfield 15, 3) := by decide +kernel
theorem dX0_takeBack_84 : decode cX0_takeBack 84 = .ok (.bipush 8, 2) := by decide +kernel
theorem dX0_takeBack_86 : decode cX0_takeBack 86 = .ok (.imul, 1) := by decide +kernel
theorem dX0_takeBack_87 : decode cX0_takeBack 87 = .ok (.aload_n 1, 1) := by decide +kernel
theorem dX0_takeBack_88 : decode cX0_takeBack 88 = .ok (.getfield 53, 3) := by decide +kernel
theorem dX0_takeBack_91 : decode cX0_takeBack 91 = .ok (.iconst 0, 1) := by decide +kernel
theorem dX0_takeBack_92 : decode cX0_takeBack 92 = .ok (.bipush 8, 2) := by decide +kernel
theorem dX0_takeBack_94 : decode cX0_takeBack 94 = .ok (.invokestatic 46, 3) := by decide +kernel
theorem dX0_takeBack_97 : decode cX0_takeBack 97 = .ok (.aload_n 1, 1) := by decide +kernel
theorem dX0_takeBack_98 : decode cX0_takeBack 98 = .ok (.aload_n 0, 1) := by decide +kernel
theorem dX0_takeBack_99 : decode cX0_takeBack 99 = .ok (.getfield 28, 3) := by decide +kernel
theorem dX0_takeBack_102 : decode cX0_takeBack 102 = .ok (.aload_n 0, 1) := by decide +kernel
theorem dX0_takeBack_103 : decode cX0_takeBack 103 = .ok (.getfield 15, 3) := by decide +kernel
theorem dX0_takeBack_106 : decode cX0_takeBack 106 = .ok (.iaload, 1) := by decide +kernel
theorem dX0_takeBack_107 : decode cX0_takeBack 107 = .ok (.putfield 54, 3) := by decide +kernel
theorem dX0_takeBack_110 : decode cX0_takeBack 110 = .ok (.aload_n 1, 1) := by decide +kernel
theorem dX0_takeBack_111 : decode cX0_takeBack 111 = .ok (.aload_n 0, 1) := by decide +kernel
theorem dX0_takeBack_112 : decode cX0_takeBack 112 = .ok (.getfield 31, 3) := by decide +kernel
theorem dX0_takeBack_115 : decode cX0_takeBack 115 = .ok (.aload_n 0, 1) := by decide +kernel
theorem dX0_takeBack_116 : decode cX0_takeBack 116 = .ok (.getfield 15, 3) := by decide +kernel
theorem dX0_takeBack_119 : decode cX0_takeBack 119 = .ok (.iaload, 1) := by decide +kernel
theorem dX0_takeBack_120 : decode cX0_takeBack 120 = .ok (.putfield 56, 3) := by decide +kernel
theorem dX0_takeBack_123 : decode cX0_takeBack 123 = .ok (.aload_n 1, 1) := by decide +kernel
theorem dX0_takeBack_124 : decode cX0_takeBack 124 = .ok (.aload_n 0, 1) := by decide +kernel
theorem dX0_takeBack_125 : decode cX0_takeBack 125 = .ok (.getfield 34, 3) := by decide +kernel
theorem dX0_takeBack_128 : decode cX0_takeBack 128 = .ok (.aload_n 0, 1) := by decide +kernel
theorem dX0_takeBack_129 : decode cX0_takeBack 129 = .ok (.getfield 15, 3) := by decide +kernel
theorem dX0_takeBack_132 : decode cX0_takeBack 132 = .ok (.iaload, 1) := by decide +kernel
theorem dX0_takeBack_133 : decode cX0_takeBack 133 = .ok (.putfield 58, 3) := by decide +kernel
theorem dX0_takeBack_136 : decode cX0_takeBack 136 = .ok (.aload_n 1, 1) := by decide +kernel
theorem dX0_takeBack_137 : decode cX0_takeBack 137 = .ok (.aload_n 0, 1) := by decide +kernel
theorem dX0_takeBack_138 : decode cX0_takeBack 138 = .ok (.getfield 37, 3) := by decide +kernel
theorem dX0_takeBack_141 : decode cX0_takeBack 141 = .ok (.aload_n 0, 1) := by decide +kernel
theorem dX0_takeBack_142 : decode cX0_takeBack 142 = .ok (.getfield 15, 3) := by decide +kernel
theorem dX0_takeBack_145 : decode cX0_takeBack 145 = .ok (.iaload, 1) := by decide +kernel
theorem dX0_takeBack_146 : decode cX0_takeBack 146 = .ok (.putfield 60, 3) := by decide +kernel
theorem dX0_takeBack_149 : decode cX0_takeBack 149 = .ok (.aload_n 1, 1) := by decide +kernel
theorem dX0_takeBack_150 : decode cX0_takeBack 150 = .ok (.aload_n 0, 1) := by decide +kernel
theorem dX0_takeBack_151 : decode cX0_takeBack 151 = .ok (.getfield 40, 3) := by decide +kernel
theorem dX0_takeBack_154 : decode cX0_takeBack 154 = .ok (.aload_n 0, 1) := by decide +kernel
theorem dX0_takeBack_155 : decode cX0_takeBack 155 = .ok (.getfield 15, 3) := by decide +kernel
theorem dX0_takeBack_158 : decode cX0_takeBack 158 = .ok (.iaload, 1) := by decide +kernel
theorem dX0_takeBack_159 : decode cX0_takeBack 159 = .ok (.putfield 62, 3) := by decide +kernel
theorem dX0_takeBack_162 : decode cX0_takeBack 162 = .ok (.return_, 1) := by decide +kernel
theorem dX1_init_0 : decode cX1_init 0 = .ok (.aload_n 0, 1) := by decide +kernel
theorem dX1_init_1 : decode cX1_init 1 = .ok (.invokespecial 3, 3) := by decide +kernel
theorem dX1_init_4 : decode cX1_init 4 = .ok (.aload_n 0, 1) := by decide +kernel
theorem dX1_init_5 : decode cX1_init 5 = .ok (.bipush 16, 2) := by decide +kernel
theorem dX1_init_7 : decode cX1_init 7 = .ok (.newarray .int, 2) := by decide +kernel
theorem dX1_init_9 : decode cX1_init 9 = .ok (.putfield 11, 3) := by decide +kernel
theorem dX1_init_12 : decode cX1_init 12 = .ok (.aload_n 0, 1) := by decide +kernel
theorem dX1_init_13 : decode cX1_init 13 = .ok (.iconst 0, 1) := by decide +kernel
theorem dX1_init_14 : decode cX1_init 14 = .ok (.putfield 15, 3) := by decide +kernel
theorem dX1_init_17 : decode cX1_init 17 = .ok (.aload_n 0, 1) := by decide +kernel
theorem dX1_init_18 : decode cX1_init 18 = .ok (.iconst 0, 1) := by decide +kernel
theorem dX1_init_19 : decode cX1_init 19 = .ok (.putfield 19, 3) := by decide +kernel
theorem dX1_init_22 : decode cX1_init 22 = .ok (.aload_n 0, 1) := by decide +kernel
theorem dX1_init_23 : decode cX1_init 23 = .ok (.iconst 0, 1) := by decide +kernel
theorem dX1_init_24 : decode cX1_init 24 = .ok (.putfield 22, 3) := by decide +kernel
theorem dX1_init_27 : decode cX1_init 27 = .ok (.aload_n 0, 1) := by decide +kernel
theorem dX1_init_28 : decode cX1_init 28 = .ok (.iconst 0, 1) := by decide +kernel
theorem dX1_init_29 : decode cX1_init 29 = .ok (.putfield 25, 3) := by decide +kernel
theorem dX1_init_32 : decode cX1_init 32 = .ok (.aload_n 0, 1) := by decide +kernel
theorem dX1_init_33 : decode cX1_init 33 = .ok (.iconst 0, 1) := by decide +kernel
theorem dX1_init_34 : decode cX1_init 34 = .ok (.putfield 28, 3) := by decide +kernel
theorem dX1_init_37 : decode cX1_init 37 = .ok (.return_, 1) := by decide +kernel
theorem dX1_answer_0 : decode cX1_answer 0 = .ok (.aload_n 0, 1) := by decide +kernel
theorem dX1_answer_1 : decode cX1_answer 1 = .ok (.iload_n 2, 1) := by decide +kernel
theorem dX1_answer_2 : decode cX1_answer 2 = .ok (.putfield 19, 3) := by decide +kernel
theorem dX1_answer_5 : decode cX1_answer 5 = .ok (.aload_n 0, 1) := by decide +kernel
theorem dX1_answer_6 : decode cX1_answer 6 = .ok (.aload_n 1, 1) := by decide +kernel
theorem dX1_answer_7 : decode cX1_answer 7 = .ok (.getfield 31, 3) := by decide +kernel
theorem dX1_answer_10 : decode cX1_answer 10 = .ok (.iload_n 2, 1) := by decide +kernel
theorem dX1_answer_11 : decode cX1_answer 11 = .ok (.iaload, 1) := by decide +kernel
theorem dX1_answer_12 : decode cX1_answer 12 = .ok (.putfield 22, 3) := by decide +kernel
theorem dX1_answer_15 : decode cX1_answer 15 = .ok (.aload_n 0, 1) := by decide +kernel
theorem dX1_answer_16 : decode cX1_answer 16 = .ok (.aload_n 1, 1) := by decide +kernel
theorem dX1_answer_17 : decode cX1_answer 17 = .ok (.getfield 36, 3) := by decide +kernel
theorem dX1_answer_20 : decode cX1_answer 20 = .ok (.iload_n 2, 1) := by decide +kernel
theorem dX1_answer_21 : decode cX1_answer 21 = .ok (.iaload, 1) := by decide +kernel
theorem dX1_answer_22 : decode cX1_answer 22 = .ok (.putfield 25, 3) := by decide +kernel
theorem dX1_answer_25 : decode cX1_answer 25 = .ok (.aload_n 0, 1) := by decide +kernel
theorem dX1_answer_26 : decode cX1_answer 26 = .ok (.aload_n 1, 1) := by decide +kernel
theorem dX1_answer_27 : decode cX1_answer 27 = .ok (.getfield 38, 3) := by decide +kernel
theorem dX1_answer_30 : decode cX1_answer 30 = .ok (.iload_n 2, 1) := by decide +kernel
theorem dX1_answer_31 : decode cX1_answer 31 = .ok (.iaload, 1) := by decide +kernel
theorem dX1_answer_32 : decode cX1_answer 32 = .ok (.putfield 28, 3) := by decide +kernel
theorem dX1_answer_35 : decode cX1_answer 35 = .ok (.aload_n 0, 1) := by decide +kernel
theorem dX1_answer_36 : decode cX1_answer 36 = .ok (.iconst 0, 1) := by decide +kernel
theorem dX1_answer_37 : decode cX1_answer 37 = .ok (.putfield 15, 3) := by decide +kernel
theorem dX1_answer_40 : decode cX1_answer 40 = .ok (.iload_n 3, 1) := by decide +kernel
theorem dX1_answer_41 : decode cX1_answer 41 = .ok (.ifCond .eq 11, 3) := by decide +kernel
theorem dX1_answer_44 : decode cX1_answer 44 = .ok (.aload_n 0, 1) := by decide +kernel
theorem dX1_answer_45 : decode cX1_answer 45 = .ok (.iconst 0, 1) := by decide +kernel
theorem dX1_answer_46 : decode cX1_answer 46 = .ok (.invokevirtual 40, 3) := by decide +kernel
theorem dX1_answer_49 : decode cX1_answer 49 = .ok (.goto 8, 3) := by decide +kernel
theorem dX1_answer_52 : decode cX1_answer 52 = .ok (.aload_n 0, 1) := by decide +kernel
theorem dX1_answer_53 : decode cX1_answer 53 = .ok (.iconst 0, 1) := by decide +kernel
theorem dX1_answer_54 : decode cX1_answer 54 = .ok (.invokevirtual 44, 3) := by decide +kernel
theorem dX1_answer_57 : decode cX1_answer 57 = .ok (.ireturn, 1) := by decide +kernel
theorem dX1_askSize_0 : decode cX1_askSize 0 = .ok (.iload_n 1, 1) := by decide +kernel
theorem dX1_askSize_1 : decode cX1_askSize 1 = .ok (.bipush 16, 2) := by decide +kernel
theorem dX1_askSize_3 : decode cX1_askSize 3 = .ok (.if_icmp .le 5, 3) := by decide +kernel
theorem dX1_askSize_6 : decode cX1_askSize 6 = .ok (.iconst 0, 1) := by decide +kernel
theorem dX1_askSize_7 : decode cX1_askSize 7 = .ok (.ireturn, 1) := by decide +kernel
theorem dX1_askSize_8 : decode cX1_askSize 8 = .ok (.aload_n 0, 1) := by decide +kernel
theorem dX1_askSize_9 : decode cX1_askSize 9 = .ok (.getfield 22, 3) := by decide +kernel
theorem dX1_askSize_12 : decode cX1_askSize 12 = .ok (.tableswitch 62 1 5 #[36, 44, 36, 52, 57], 36) := by decide +kernel
theorem dX1_askSize_48 : decode cX1_askSize 48 = .ok (.aload_n 0, 1) := by decide +kernel
theorem dX1_askSize_49 : decode cX1_askSize 49 = .ok (.iload_n 1, 1) := by decide +kernel
theorem dX1_askSize_50 : decode cX1_askSize 50 = .ok (.iconst 1, 1) := by decide +kernel
theorem dX1_askSize_51 : decode cX1_askSize 51 = .ok (.iadd, 1) := by decide +kernel
theorem dX1_askSize_52 : decode cX1_askSize 52 = .ok (.invokevirtual 47, 3) := by decide +kernel
theorem dX1_askSize_55 : decode cX1_askSize 55 = .ok (.ireturn, 1) := by decide +kernel
theorem dX1_askSize_56 : decode cX1_askSize 56 = .ok (.aload_n 0, 1) := by decide +kernel
theorem dX1_askSize_57 : decode cX1_askSize 57 = .ok (.iload_n 1, 1) := by decide +kernel
theorem dX1_askSize_58 : decode cX1_askSize 58 = .ok (.iconst 1, 1) := by decide +kernel
theorem dX1_askSize_59 : decode cX1_askSize 59 = .ok (.iadd, 1) := by decide +kernel
theorem dX1_askSize_60 : decode cX1_askSize 60 = .ok (.invokevirtual 50, 3) := by decide +kernel
theorem dX1_askSize_63 : decode cX1_askSize 63 = .ok (.ireturn, 1) := by decide +kernel
theorem dX1_askSize_64 : decode cX1_askSize 64 = .ok (.aload_n 0, 1) := by decide +kernel
theorem dX1_askSize_65 : decode cX1_askSize 65 = .ok (.invokevirtual 53, 3) := by decide +kernel
theorem dX1_askSize_68 : decode cX1_askSize 68 = .ok (.ireturn, 1) := by decide +kernel
theorem dX1_askSize_69 : decode cX1_askSize 69 = .ok (.aload_n 0, 1) := by decide +kernel
theorem dX1_askSize_70 : decode cX1_askSize 70 = .ok (.invokevirtual 57, 3) := by decide +kernel
theorem dX1_askSize_73 : decode cX1_askSize 73 = .ok (.ireturn, 1) := by decide +kernel
theorem dX1_askSize_74 : decode cX1_askSize 74 = .ok (.aload_n 0, 1) := by decide +kernel
theorem dX1_askSize_75 : decode cX1_askSize 75 = .ok (.invokevirtual 60, 3) := by decide +kernel
theorem dX1_askSize_78 : decode cX1_askSize 78 = .ok (.ireturn, 1) := by decide +kernel
theorem dX1_askMark_0 : decode cX1_askMark 0 = .ok (.iload_n 1, 1) := by decide +kernel
theorem dX1_askMark_1 : decode cX1_askMark 1 = .ok (.bipush 16, 2) := by decide +kernel
theorem dX1_askMark_3 : decode cX1_askMark 3 = .ok (.if_icmp .le 5, 3) := by decide +kernel
theorem dX1_askMark_6 : decode cX1_askMark 6 = .ok (.iconst 0, 1) := by decide +kernel
theorem dX1_askMark_7 : decode cX1_askMark 7 = .ok (.ireturn, 1) := by decide +kernel
theorem dX1_askMark_8 : decode cX1_askMark 8 = .ok (.aload_n 0, 1) := by decide +kernel
theorem dX1_askMark_9 : decode cX1_askMark 9 = .ok (.getfield 22, 3) := by decide +kernel
theorem dX1_askMark_12 : decode cX1_askMark 12 = .ok (.tableswitch 59 1 5 #[36, 54, 41, 46, 46], 36) := by decide +kernel
theorem dX1_askMark_48 : decode cX1_askMark 48 = .ok (.aload_n 0, 1) := by decide +kernel
theorem dX1_askMark_49 : decode cX1_askMark 49 = .ok (.invokevirtual 63, 3) := by decide +kernel
theorem dX1_askMark_52 : decode cX1_askMark 52 = .ok (.ireturn, 1) := by decide +kernel
theorem dX1_askMark_53 : decode cX1_askMark 53 = .ok (.aload_n 0, 1) := by decide +kernel
theorem dX1_askMark_54 : decode cX1_askMark 54 = .ok (.invokevirtual 66, 3) := by decide +kernel
theorem dX1_askMark_57 : decode cX1_askMark 57 = .ok (.ireturn, 1) := by decide +kernel
theorem dX1_askMark_58 : decode cX1_askMark 58 = .ok (.aload_n 0, 1) := by decide +kernel
theorem dX1_askMark_59 : decode cX1_askMark 59 = .ok (.iload_n 1, 1) := by decide +kernel
theorem dX1_askMark_60 : decode cX1_askMark 60 = .ok (.iconst 1, 1) := by decide +kernel
theorem dX1_askMark_61 : decode cX1_askMark 61 = .ok (.iadd, 1) := by decide +kernel
theorem dX1_askMark_62 : decode cX1_askMark 62 = .ok (.invokevirtual 69, 3) := by decide +kernel
theorem dX1_askMark_65 : decode cX1_askMark 65 = .ok (.ireturn, 1) := by decide +kernel
theorem dX1_askMark_66 : decode cX1_askMark 66 = .ok (.aload_n 0, 1) := by decide +kernel
theorem dX1_askMark_67 : decode cX1_askMark 67 = .ok (.invokevirtual 72, 3) := by decide +kernel
theorem dX1_askMark_70 : decode cX1_askMark 70 = .ok (.ireturn, 1) := by decide +kernel
theorem dX1_askMark_71 : decode cX1_askMark 71 = .ok (.aload_n 0, 1) := by decide +kernel
theorem dX1_askMark_72 : decode cX1_askMark 72 = .ok (.invokevirtual 75, 3) := by decide +kernel
theorem dX1_askMark_75 : decode cX1_askMark 75 = .ok (.ireturn, 1) := by decide +kernel
theorem dX1_body10_0 : decode cX1_body10 0 = .ok (.aload_n 0, 1) := by decide +kernel
theorem dX1_body10_1 : decode cX1_body10 1 = .ok (.bipush 10, 2) := by decide +kernel
theorem dX1_body10_3 : decode cX1_body10 3 = .ok (.invokevirtual 78, 3) := by decide +kernel
theorem dX1_body10_6 : decode cX1_body10 6 = .ok (.aload_n 0, 1) := by decide +kernel
theorem dX1_body10_7 : decode cX1_body10 7 = .ok (.getfield 25, 3) := by decide +kernel
theorem dX1_body10_10 : decode cX1_body10 10 = .ok (.ireturn, 1) := by decide +kernel
theorem dX1_body11_0 : decode cX1_body11 0 = .ok (.aload_n 0, 1) := by decide +kernel
theorem dX1_body11_1 : decode cX1_body11 1 = .ok (.bipush 11, 2) := by decide +kernel
theorem dX1_body11_3 : decode cX1_body11 3 = .ok (.invokevirtual 78, 3) := by decide +kernel
theorem dX1_body11_6 : decode cX1_body11 6 = .ok (.aload_n 0, 1) := by decide +kernel
theorem dX1_body11_7 : decode cX1_body11 7 = .ok (.invokevirtual 60, 3) := by decide +kernel
theorem dX1_body11_10 : decode cX1_body11 10 = .ok (.istore_n 2, 1) := by decide +kernel
theorem dX1_body11_11 : decode cX1_body11 11 = .ok (.iload_n 2, 1) := by decide +kernel
theorem dX1_body11_12 : decode cX1_body11 12 = .ok (.aload_n 0, 1) := by decide +kernel
theorem dX1_body11_13 : decode cX1_body11 13 = .ok (.iload_n 1, 1) := by decide +kernel
theorem dX1_body11_14 : decode cX1_body11 14 = .ok (.invokevirtual 44, 3) := by decide +kernel
theorem dX1_body11_17 : decode cX1_body11 17 = .ok (.iadd, 1) := by decide +kernel
theorem dX1_body11_18 : decode cX1_body11 18 = .ok (.ireturn, 1) := by decide +kernel
theorem dX1_body12_0 : decode cX1_body12 0 = .ok (.aload_n 0, 1) := by decide +kernel
theorem dX1_body12_1 : decode cX1_body12 1 = .ok (.bipush 12, 2) := by decide +kernel
theorem dX1_body12_3 : decode cX1_body12 3 = .ok (.invokevirtual 78, 3) := by decide +kernel
theorem dX1_body12_6 : decode cX1_body12 6 = .ok (.aload_n 0, 1) := by decide +kernel
theorem dX1_body12_7 : decode cX1_body12 7 = .ok (.iload_n 1, 1) := by decide +kernel
theorem dX1_body12_8 : decode cX1_body12 8 = .ok (.invokevirtual 47, 3) := by decide +kernel
theorem dX1_body12_11 : decode cX1_body12 11 = .ok (.ineg, 1) := by decide +kernel
theorem dX1_body12_12 : decode cX1_body12 12 = .ok (.ireturn, 1) := by decide +kernel
theorem dX1_body13_0 : decode cX1_body13 0 = .ok (.aload_n 0, 1) := by decide +kernel
theorem dX1_body13_1 : decode cX1_body13 1 = .ok (.bipush 13, 2) := by decide +kernel
theorem dX1_body13_3 : decode cX1_body13 3 = .ok (.invokevirtual 78, 3) := by decide +kernel
theorem dX1_body13_6 : decode cX1_body13 6 = .ok (.aload_n 0, 1) := by decide +kernel
theorem dX1_body13_7 : decode cX1_body13 7 = .ok (.invokevirtual 60, 3) := by decide +kernel
theorem dX1_body13_10 : decode cX1_body13 10 = .ok (.bipush 100, 2) := by decide +kernel
theorem dX1_body13_12 : decode cX1_body13 12 = .ok (.isub, 1) := by decide +kernel
theorem dX1_body13_13 : decode cX1_body13 13 = .ok (.ireturn, 1) := by decide +kernel
theorem dX1_body14_0 : decode cX1_body14 0 = .ok (.aload_n 0, 1) := by decide +kernel
theorem dX1_body14_1 : decode cX1_body14 1 = .ok (.bipush 14, 2) := by decide +kernel
theorem dX1_body14_3 : decode cX1_body14 3 = .ok (.invokevirtual 78, 3) := by decide +kernel
theorem dX1_body14_6 : decode cX1_body14 6 = .ok (.iconst 2, 1) := by decide +kernel
theorem dX1_body14_7 : decode cX1_body14 7 = .ok (.aload_n 0, 1) := by decide +kernel
theorem dX1_body14_8 : decode cX1_body14 8 = .ok (.invokevirtual 53, 3) := by decide +kernel
theorem dX1_body14_11 : decode cX1_body14 11 = .ok (.imul, 1) := by decide +kernel
theorem dX1_body14_12 : decode cX1_body14 12 = .ok (.ireturn, 1) := by decide +kernel
theorem dX1_body20_0 : decode cX1_body20 0 = .ok (.aload_n 0, 1) := by decide +kernel
theorem dX1_body20_1 : decode cX1_body20 1 = .ok (.bipush 20, 2) := by decide +kernel
theorem dX1_body20_3 : decode cX1_body20 3 = .ok (.invokevirtual 78, 3) := by decide +kernel
theorem dX1_body20_6 : decode cX1_body20 6 = .ok (.aload_n 0, 1) := by decide +kernel
theorem dX1_body20_7 : decode cX1_body20 7 = .ok (.getfield 19, 3) := by decide +kernel
theorem dX1_body20_10 : decode cX1_body20 10 = .ok (.ireturn, 1) := by decide +kernel
theorem dX1_body21_0 : decode cX1_body21 0 = .ok (.aload_n 0, 1) := by decide +kernel
theorem dX1_body21_1 : decode cX1_body21 1 = .ok (.bipush 21, 2) := by decide +kernel
theorem dX1_body21_3 : decode cX1_body21 3 = .ok (.invokevirtual 78, 3) := by decide +kernel
theorem dX1_body21_6 : decode cX1_body21 6 = .ok (.aload_n 0, 1) := by decide +kernel
theorem dX1_body21_7 : decode cX1_body21 7 = .ok (.invokevirtual 75, 3) := by decide +kernel
theorem dX1_body21_10 : decode cX1_body21 10 = .ok (.aload_n 0, 1) := by decide +kernel
theorem dX1_body21_11 : decode cX1_body21 11 = .ok (.getfield 28, 3) := by decide +kernel
theorem dX1_body21_14 : decode cX1_body21 14 = .ok (.iadd, 1) := by decide +kernel
theorem dX1_body21_15 : decode cX1_body21 15 = .ok (.ireturn, 1) := by decide +kernel
theorem dX1_body22_0 : decode cX1_body22 0 = .ok (.aload_n 0, 1) := by decide +kernel
theorem dX1_body22_1 : decode cX1_body22 1 = .ok (.bipush 22, 2) := by decide +kernel
theorem dX1_body22_3 : decode cX1_body22 3 = .ok (.invokevirtual 78, 3) := by decide +kernel
theorem dX1_body22_6 : decode cX1_body22 6 = .ok (.aload_n 0, 1) := by decide +kernel
theorem dX1_body22_7 : decode cX1_body22 7 = .ok (.invokevirtual 63, 3) := by decide +kernel
theorem dX1_body22_10 : decode cX1_body22 10 = .ok (.sipush 1000, 3) := by decide +kernel
theorem dX1_body22_13 : decode cX1_body22 13 = .ok (.isub, 1) := by decide +kernel
theorem dX1_body22_14 : decode cX1_body22 14 = .ok (.ireturn, 1) := by decide +kernel
theorem dX1_body23_0 : decode cX1_body23 0 = .ok (.aload_n 0, 1) := by decide +kernel
theorem dX1_body23_1 : decode cX1_body23 1 = .ok (.bipush 23, 2) := by decide +kernel
theorem dX1_body23_3 : decode cX1_body23 3 = .ok (.invokevirtual 78, 3) := by decide +kernel
theorem dX1_body23_6 : decode cX1_body23 6 = .ok (.aload_n 0, 1) := by decide +kernel
theorem dX1_body23_7 : decode cX1_body23 7 = .ok (.invokevirtual 75, 3) := by decide +kernel
theorem dX1_body23_10 : decode cX1_body23 10 = .ok (.istore_n 2, 1) := by decide +kernel
theorem dX1_body23_11 : decode cX1_body23 11 = .ok (.iload_n 2, 1) := by decide +kernel
theorem dX1_body23_12 : decode cX1_body23 12 = .ok (.aload_n 0, 1) := by decide +kernel
theorem dX1_body23_13 : decode cX1_body23 13 = .ok (.iload_n 1, 1) := by decide +kernel
theorem dX1_body23_14 : decode cX1_body23 14 = .ok (.invokevirtual 40, 3) := by decide +kernel
theorem dX1_body23_17 : decode cX1_body23 17 = .ok (.isub, 1) := by decide +kernel
theorem dX1_body23_18 : decode cX1_body23 18 = .ok (.ireturn, 1) := by decide +kernel
theorem dX1_body24_0 : decode cX1_body24 0 = .ok (.aload_n 0, 1) := by decide +kernel
theorem dX1_body24_1 : decode cX1_body24 1 = .ok (.bipush 24, 2) := by decide +kernel
theorem dX1_body24_3 : decode cX1_body24 3 = .ok (.invokevirtual 78, 3) := by decide +kernel
theorem dX1_body24_6 : decode cX1_body24 6 = .ok (.iconst 2, 1) := by decide +kernel
theorem dX1_body24_7 : decode cX1_body24 7 = .ok (.aload_n 0, 1) := by decide +kernel
theorem dX1_body24_8 : decode cX1_body24 8 = .ok (.invokevirtual 63, 3) := by decide +kernel
theorem dX1_body24_11 : decode cX1_body24 11 = .ok (.imul, 1) := by decide +kernel
theorem dX1_body24_12 : decode cX1_body24 12 = .ok (.ireturn, 1) := by decide +kernel
theorem dX1_leaveTrace_0 : decode cX1_leaveTrace 0 = .ok (.aload_n 0, 1) := by decide +kernel
theorem dX1_leaveTrace_1 : decode cX1_leaveTrace 1 = .ok (.getfield 15, 3) := by decide +kernel
theorem dX1_leaveTrace_4 : decode cX1_leaveTrace 4 = .ok (.bipush 16, 2) := by decide +kernel
theorem dX1_leaveTrace_6 : decode cX1_leaveTrace 6 = .ok (.if_icmp .ge 23, 3) := by decide +kernel
theorem dX1_leaveTrace_9 : decode cX1_leaveTrace 9 = .ok (.aload_n 0, 1) := by decide +kernel
theorem dX1_leaveTrace_10 : decode cX1_leaveTrace 10 = .ok (.getfield 11, 3) := by decide +kernel
theorem dX1_leaveTrace_13 : decode cX1_leaveTrace 13 = .ok (.aload_n 0, 1) := by decide +kernel
theorem dX1_leaveTrace_14 : decode cX1_leaveTrace 14 = .ok (.getfield 15, 3) := by decide +kernel
theorem dX1_leaveTrace_17 : decode cX1_leaveTrace 17 = .ok (.iload_n 1, 1) := by decide +kernel
theorem dX1_leaveTrace_18 : decode cX1_leaveTrace 18 = .ok (.iastore, 1) := by decide +kernel
theorem dX1_leaveTrace_19 : decode cX1_leaveTrace 19 = .ok (.aload_n 0, 1) := by decide +kernel
theorem dX1_leaveTrace_20 : decode cX1_leaveTrace 20 = .ok (.dup, 1) := by decide +kernel
theorem dX1_leaveTrace_21 : decode cX1_leaveTrace 21 = .ok (.getfield 15, 3) := by decide +kernel
theorem dX1_leaveTrace_24 : decode cX1_leaveTrace 24 = .ok (.iconst 1, 1) := by decide +kernel
theorem dX1_leaveTrace_25 : decode cX1_leaveTrace 25 = .ok (.iadd, 1) := by decide +kernel
theorem dX1_leaveTrace_26 : decode cX1_leaveTrace 26 = .ok (.putfield 15, 3) := by decide +kernel
theorem dX1_leaveTrace_29 : decode cX1_leaveTrace 29 = .ok (.return_, 1) := by decide +kernel
theorem dX2_init_0 : decode cX2_init 0 = .ok (.aload_n 0, 1) := by decide +kernel
theorem dX2_init_1 : decode cX2_init 1 = .ok (.invokespecial 3, 3) := by decide +kernel
theorem dX2_init_4 : decode cX2_init 4 = .ok (.aload_n 0, 1) := by decide +kernel
theorem dX2_init_5 : decode cX2_init 5 = .ok (.new 9, 3) := by decide +kernel
theorem dX2_init_8 : decode cX2_init 8 = .ok (.dup, 1) := by decide +kernel
theorem dX2_init_9 : decode cX2_init 9 = .ok (.invokespecial 11, 3) := by decide +kernel
theorem dX2_init_12 : decode cX2_init 12 = .ok (.putfield 12, 3) := by decide +kernel
theorem dX2_init_15 : decode cX2_init 15 = .ok (.return_, 1) := by decide +kernel
theorem dX2_hoursOn_0 : decode cX2_hoursOn 0 = .ok (.aload_n 0, 1) := by decide +kernel
theorem dX2_hoursOn_1 : decode cX2_hoursOn 1 = .ok (.getfield 12, 3) := by decide +kernel
theorem dX2_hoursOn_4 : decode cX2_hoursOn 4 = .ok (.aload_n 1, 1) := by decide +kernel
theorem dX2_hoursOn_5 : decode cX2_hoursOn 5 = .ok (.invokevirtual 18, 3) := by decide +kernel
theorem dX2_hoursOn_8 : decode cX2_hoursOn 8 = .ok (.aload_n 0, 1) := by decide +kernel
theorem dX2_hoursOn_9 : decode cX2_hoursOn 9 = .ok (.iload_n 2, 1) := by decide +kernel
theorem dX2_hoursOn_10 : decode cX2_hoursOn 10 = .ok (.invokevirtual 22, 3) := by decide +kernel
theorem dX2_hoursOn_13 : decode cX2_hoursOn 13 = .ok (.aload_n 0, 1) := by decide +kernel
theorem dX2_hoursOn_14 : decode cX2_hoursOn 14 = .ok (.getfield 12, 3) := by decide +kernel
theorem dX2_hoursOn_17 : decode cX2_hoursOn 17 = .ok (.areturn, 1) := by decide +kernel
theorem dX2_caughtBehind_0 : decode cX2_caughtBehind 0 = .ok (.aload_n 0, 1) := by decide +kernel
theorem dX2_caughtBehind_1 : decode cX2_caughtBehind 1 = .ok (.getfield 12, 3) := by decide +kernel
theorem dX2_caughtBehind_4 : decode cX2_caughtBehind 4 = .ok (.aload_n 1, 1) := by decide +kernel
theorem dX2_caughtBehind_5 : decode cX2_caughtBehind 5 = .ok (.invokevirtual 18, 3) := by decide +kernel
theorem dX2_caughtBehind_8 : decode cX2_caughtBehind 8 = .ok (.aload_n 0, 1) := by decide +kernel
theorem dX2_caughtBehind_9 : decode cX2_caughtBehind 9 = .ok (.iload_n 2, 1) := by decide +kernel
theorem dX2_caughtBehind_10 : decode cX2_caughtBehind 10 = .ok (.bipush 60, 2) := by decide +kernel
theorem dX2_caughtBehind_12 : decode cX2_caughtBehind 12 = .ok (.invokevirtual 26, 3) := by decide +kernel
theorem dX2_caughtBehind_15 : decode cX2_caughtBehind 15 = .ok (.ireturn, 1) := by decide +kernel
theorem dX2_ashBehind_0 : decode cX2_ashBehind 0 = .ok (.aload_n 0, 1) := by decide +kernel
theorem dX2_ashBehind_1 : decode cX2_ashBehind 1 = .ok (.getfield 12, 3) := by decide +kernel
theorem dX2_ashBehind_4 : decode cX2_ashBehind 4 = .ok (.aload_n 1, 1) := by decide +kernel
theorem dX2_ashBehind_5 : decode cX2_ashBehind 5 = .ok (.invokevirtual 18, 3) := by decide +kernel
theorem dX2_ashBehind_8 : decode cX2_ashBehind 8 = .ok (.iconst 0, 1) := by decide +kernel
theorem dX2_ashBehind_9 : decode cX2_ashBehind 9 = .ok (.istore_n 3, 1) := by decide +kernel
theorem dX2_ashBehind_10 : decode cX2_ashBehind 10 = .ok (.iload_n 3, 1) := by decide +kernel
theorem dX2_ashBehind_11 : decode cX2_ashBehind 11 = .ok (.bipush 60, 2) := by decide +kernel
theorem dX2_ashBehind_13 : decode cX2_ashBehind 13 = .ok (.if_icmp .gt 29, 3) := by decide +kernel
theorem dX2_ashBehind_16 : decode cX2_ashBehind 16 = .ok (.aload_n 0, 1) := by decide +kernel
theorem dX2_ashBehind_17 : decode cX2_ashBehind 17 = .ok (.getfield 12, 3) := by decide +kernel
theorem dX2_ashBehind_20 : decode cX2_ashBehind 20 = .ok (.iload_n 2, 1) := by decide +kernel
theorem dX2_ashBehind_21 : decode cX2_ashBehind 21 = .ok (.invokevirtual 30, 3) := by decide +kernel
theorem dX2_ashBehind_24 : decode cX2_ashBehind 24 = .ok (.ifCond .eq 5, 3) := by decide +kernel
theorem dX2_ashBehind_27 : decode cX2_ashBehind 27 = .ok (.iload_n 3, 1) := by decide +kernel
theorem dX2_ashBehind_28 : decode cX2_ashBehind 28 = .ok (.ireturn, 1) := by decide +kernel
theorem dX2_ashBehind_29 : decode cX2_ashBehind 29 = .ok (.aload_n 0, 1) := by decide +kernel
theorem dX2_ashBehind_30 : decode cX2_ashBehind 30 = .ok (.getfield 12, 3) := by decide +kernel
theorem dX2_ashBehind_33 : decode cX2_ashBehind 33 = .ok (.invokevirtual 34, 3) := by decide +kernel
theorem dX2_ashBehind_36 : decode cX2_ashBehind 36 = .ok (.iinc 3 1, 3) := by decide +kernel
theorem dX2_ashBehind_39 : decode cX2_ashBehind 39 = .ok (.goto (-29), 3) := by decide +kernel
theorem dX2_ashBehind_42 : decode cX2_ashBehind 42 = .ok (.ldc 37, 2) := by decide +kernel
theorem dX2_ashBehind_44 : decode cX2_ashBehind 44 = .ok (.ireturn, 1) := by decide +kernel
theorem dX2_deadBehind_0 : decode cX2_deadBehind 0 = .ok (.aload_n 0, 1) := by decide +kernel
theorem dX2_deadBehind_1 : decode cX2_deadBehind 1 = .ok (.getfield 12, 3) := by decide +kernel
theorem dX2_deadBehind_4 : decode cX2_deadBehind 4 = .ok (.aload_n 1, 1) := by decide +kernel
theorem dX2_deadBehind_5 : decode cX2_deadBehind 5 = .ok (.invokevirtual 18, 3) := by decide +kernel
theorem dX2_deadBehind_8 : decode cX2_deadBehind 8 = .ok (.iconst 0, 1) := by decide +kernel
theorem dX2_deadBehind_9 : decode cX2_deadBehind 9 = .ok (.istore_n 2, 1) := by decide +kernel
theorem dX2_deadBehind_10 : decode cX2_deadBehind 10 = .ok (.iload_n 2, 1) := by decide +kernel
theorem dX2_deadBehind_11 : decode cX2_deadBehind 11 = .ok (.sipush 200, 3) := by decide +kernel
theorem dX2_deadBehind_14 : decode cX2_deadBehind 14 = .ok (.if_icmp .gt 28, 3) := by decide +kernel
theorem dX2_deadBehind_17 : decode cX2_deadBehind 17 = .ok (.aload_n 0, 1) := by decide +kernel
theorem dX2_deadBehind_18 : decode cX2_deadBehind 18 = .ok (.getfield 12, 3) := by decide +kernel
theorem dX2_deadBehind_21 : decode cX2_deadBehind 21 = .ok (.getfield 38, 3) := by decide +kernel
theorem dX2_deadBehind_24 : decode cX2_deadBehind 24 = .ok (.ifCond .ne 5, 3) := by decide +kernel
theorem dX2_deadBehind_27 : decode cX2_deadBehind 27 = .ok (.iload_n 2, 1) := by decide +kernel
theorem dX2_deadBehind_28 : decode cX2_deadBehind 28 = .ok (.ireturn, 1) := by decide +kernel
theorem dX2_deadBehind_29 : decode cX2_deadBehind 29 = .ok (.aload_n 0, 1) := by decide +kernel
theorem dX2_deadBehind_30 : decode cX2_deadBehind 30 = .ok (.getfield 12, 3) := by decide +kernel
theorem dX2_deadBehind_33 : decode cX2_deadBehind 33 = .ok (.invokevirtual 34, 3) := by decide +kernel
theorem dX2_deadBehind_36 : decode cX2_deadBehind 36 = .ok (.iinc 2 1, 3) := by decide +kernel
theorem dX2_deadBehind_39 : decode cX2_deadBehind 39 = .ok (.goto (-29), 3) := by decide +kernel
theorem dX2_deadBehind_42 : decode cX2_deadBehind 42 = .ok (.ldc 37, 2) := by decide +kernel
theorem dX2_deadBehind_44 : decode cX2_deadBehind 44 = .ok (.ireturn, 1) := by decide +kernel
theorem dX2_leftWhenDead_0 : decode cX2_leftWhenDead 0 = .ok (.aload_n 0, 1) := by decide +kernel
theorem dX2_leftWhenDead_1 : decode cX2_leftWhenDead 1 = .ok (.getfield 12, 3) := by decide +kernel
theorem dX2_leftWhenDead_4 : decode cX2_leftWhenDead 4 = .ok (.aload_n 1, 1) := by decide +kernel
theorem dX2_leftWhenDead_5 : decode cX2_leftWhenDead 5 = .ok (.invokevirtual 18, 3) := by decide +kernel
theorem dX2_leftWhenDead_8 : decode cX2_leftWhenDead 8 = .ok (.aload_n 0, 1) := by decide +kernel
theorem dX2_leftWhenDead_9 : decode cX2_leftWhenDead 9 = .ok (.sipush 200, 3) := by decide +kernel
theorem dX2_leftWhenDead_12 : decode cX2_leftWhenDead 12 = .ok (.invokevirtual 22, 3) := by decide +kernel
theorem dX2_leftWhenDead_15 : decode cX2_leftWhenDead 15 = .ok (.aload_n 0, 1) := by decide +kernel
theorem dX2_leftWhenDead_16 : decode cX2_leftWhenDead 16 = .ok (.getfield 12, 3) := by decide +kernel
theorem dX2_leftWhenDead_19 : decode cX2_leftWhenDead 19 = .ok (.invokevirtual 42, 3) := by decide +kernel
theorem dX2_leftWhenDead_22 : decode cX2_leftWhenDead 22 = .ok (.aload_n 0, 1) := by decide +kernel
theorem dX2_leftWhenDead_23 : decode cX2_leftWhenDead 23 = .ok (.getfield 12, 3) := by decide +kernel
theorem dX2_leftWhenDead_26 : decode cX2_leftWhenDead 26 = .ok (.invokevirtual 46, 3) := by decide +kernel
theorem dX2_leftWhenDead_29 : decode cX2_leftWhenDead 29 = .ok (.iconst (-1), 1) := by decide +kernel
theorem dX2_leftWhenDead_30 : decode cX2_leftWhenDead 30 = .ok (.ixor, 1) := by decide +kernel
theorem dX2_leftWhenDead_31 : decode cX2_leftWhenDead 31 = .ok (.iand, 1) := by decide +kernel
theorem dX2_leftWhenDead_32 : decode cX2_leftWhenDead 32 = .ok (.aload_n 0, 1) := by decide +kernel
theorem dX2_leftWhenDead_33 : decode cX2_leftWhenDead 33 = .ok (.getfield 12, 3) := by decide +kernel
theorem dX2_leftWhenDead_36 : decode cX2_leftWhenDead 36 = .ok (.getfield 49, 3) := by decide +kernel
theorem dX2_leftWhenDead_39 : decode cX2_leftWhenDead 39 = .ok (.iconst (-1), 1) := by decide +kernel
theorem dX2_leftWhenDead_40 : decode cX2_leftWhenDead 40 = .ok (.ixor, 1) := by decide +kernel
theorem dX2_leftWhenDead_41 : decode cX2_leftWhenDead 41 = .ok (.iand, 1) := by decide +kernel
theorem dX2_leftWhenDead_42 : decode cX2_leftWhenDead 42 = .ok (.ireturn, 1) := by decide +kernel
theorem dX2_fewestToLight_0 : decode cX2_fewestToLight 0 = .ok (.iload_n 2, 1) := by decide +kernel
theorem dX2_fewestToLight_1 : decode cX2_fewestToLight 1 = .ok (.aload_n 1, 1) := by decide +kernel
theorem dX2_fewestToLight_2 : decode cX2_fewestToLight 2 = .ok (.invokevirtual 46, 3) := by decide +kernel
theorem dX2_fewestToLight_5 : decode cX2_fewestToLight 5 = .ok (.aload_n 1, 1) := by decide +kernel
theorem dX2_fewestToLight_6 : decode cX2_fewestToLight 6 = .ok (.invokevirtual 52, 3) := by decide +kernel
theorem dX2_fewestToLight_9 : decode cX2_fewestToLight 9 = .ok (.ior, 1) := by decide +kernel
theorem dX2_fewestToLight_10 : decode cX2_fewestToLight 10 = .ok (.iconst (-1), 1) := by decide +kernel
theorem dX2_fewestToLight_11 : decode cX2_fewestToLight 11 = .ok (.ixor, 1) := by decide +kernel
theorem dX2_fewestToLight_12 : decode cX2_fewestToLight 12 = .ok (.iand, 1) := by decide +kernel
theorem dX2_fewestToLight_13 : decode cX2_fewestToLight 13 = .ok (.ifCond .eq 6, 3) := by decide +kernel
theorem dX2_fewestToLight_16 : decode cX2_fewestToLight 16 = .ok (.ldc 37, 2) := by decide +kernel
theorem dX2_fewestToLight_18 : decode cX2_fewestToLight 18 = .ok (.ireturn, 1) := by decide +kernel
theorem dX2_fewestToLight_19 : decode cX2_fewestToLight 19 = .ok (.aload_n 1, 1) := by decide +kernel
theorem dX2_fewestToLight_20 : decode cX2_fewestToLight 20 = .ok (.invokevirtual 55, 3) := by decide +kernel
theorem dX2_fewestToLight_23 : decode cX2_fewestToLight 23 = .ok (.iconst (-1), 1) := by decide +kernel
theorem dX2_fewestToLight_24 : decode cX2_fewestToLight 24 = .ok (.ixor, 1) := by decide +kernel
theorem dX2_fewestToLight_25 : decode cX2_fewestToLight 25 = .ok (.istore 4, 2) := by decide +kernel
theorem dX2_fewestToLight_27 : decode cX2_fewestToLight 27 = .ok (.ldc 37, 2) := by decide +kernel
theorem dX2_fewestToLight_29 : decode cX2_fewestToLight 29 = .ok (.istore 5, 2) := by decide +kernel
theorem dX2_fewestToLight_31 : decode cX2_fewestToLight 31 = .ok (.bipush 9, 2) := by decide +kernel
theorem dX2_fewestToLight_33 : decode cX2_fewestToLight 33 = .ok (.istore 6, 2) := by decide +kernel
theorem dX2_fewestToLight_35 : decode cX2_fewestToLight 35 = .ok (.iconst 0, 1) := by decide +kernel
theorem dX2_fewestToLight_36 : decode cX2_fewestToLight 36 = .ok (.istore 7, 2) := by decide +kernel
theorem dX2_fewestToLight_38 : decode cX2_fewestToLight 38 = .ok (.iload 7, 2) := by decide +kernel
theorem dX2_fewestToLight_40 : decode cX2_fewestToLight 40 = .ok (.aload_n 1, 1) := by decide +kernel
theorem dX2_fewestToLight_41 : decode cX2_fewestToLight 41 = .ok (.invokevirtual 42, 3) := by decide +kernel
theorem dX2_fewestToLight_44 : decode cX2_fewestToLight 44 = .ok (.if_icmp .gt 51, 3) := by decide +kernel
theorem dX2_fewestToLight_47 : decode cX2_fewestToLight 47 = .ok (.iload 7, 2) := by decide +kernel
theorem dX2_fewestToLight_49 : decode cX2_fewestToLight 49 = .ok (.invokestatic 58, 3) := by decide +kernel
theorem dX2_fewestToLight_52 : decode cX2_fewestToLight 52 = .ok (.istore 8, 2) := by decide +kernel
theorem dX2_fewestToLight_54 : decode cX2_fewestToLight 54 = .ok (.iload 7, 2) := by decide +kernel
theorem dX2_fewestToLight_56 : decode cX2_fewestToLight 56 = .ok (.iload 4, 2) := by decide +kernel
theorem dX2_fewestToLight_58 : decode cX2_fewestToLight 58 = .ok (.iand, 1) := by decide +kernel
theorem dX2_fewestToLight_59 : decode cX2_fewestToLight 59 = .ok (.ifCond .ne 30, 3) := by decide +kernel
theorem dX2_fewestToLight_62 : decode cX2_fewestToLight 62 = .ok (.iload 8, 2) := by decide +kernel
theorem dX2_fewestToLight_64 : decode cX2_fewestToLight 64 = .ok (.iload 6, 2) := by decide +kernel
theorem dX2_fewestToLight_66 : decode cX2_fewestToLight 66 = .ok (.if_icmp .ge 23, 3) := by decide +kernel
theorem dX2_fewestToLight_69 : decode cX2_fewestToLight 69 = .ok (.aload_n 0, 1) := by decide +kernel
theorem dX2_fewestToLight_70 : decode cX2_fewestToLight 70 = .ok (.aload_n 1, 1) := by decide +kernel
theorem dX2_fewestToLight_71 : decode cX2_fewestToLight 71 = .ok (.iload 7, 2) := by decide +kernel
theorem dX2_fewestToLight_73 : decode cX2_fewestToLight 73 = .ok (.iload_n 2, 1) := by decide +kernel
theorem dX2_fewestToLight_74 : decode cX2_fewestToLight 74 = .ok (.iload_n 3, 1) := by decide +kernel
theorem dX2_fewestToLight_75 : decode cX2_fewestToLight 75 = .ok (.invokevirtual 64, 3) := by decide +kernel
theorem dX2_fewestToLight_78 : decode cX2_fewestToLight 78 = .ok (.ifCond .eq 11, 3) := by decide +kernel
theorem dX2_fewestToLight_81 : decode cX2_fewestToLight 81 = .ok (.iload 7, 2) := by decide +kernel
theorem dX2_fewestToLight_83 : decode cX2_fewestToLight 83 = .ok (.istore 5, 2) := by decide +kernel
theorem dX2_fewestToLight_85 : decode cX2_fewestToLight 85 = .ok (.iload 8, 2) := by decide +kernel
theorem dX2_fewestToLight_87 : decode cX2_fewestToLight 87 = .ok (.istore 6, 2) := by decide +kernel
theorem dX2_fewestToLight_89 : decode cX2_fewestToLight 89 = .ok (.iinc 7 1, 3) := by decide +kernel
theorem dX2_fewestToLight_92 : decode cX2_fewestToLight 92 = .ok (.goto (-54), 3) := by decide +kernel
theorem dX2_fewestToLight_95 : decode cX2_fewestToLight 95 = .ok (.iload 5, 2) := by decide +kernel
theorem dX2_fewestToLight_97 : decode cX2_fewestToLight 97 = .ok (.ireturn, 1) := by decide +kernel
theorem dX2_leastWater_0 : decode cX2_leastWater 0 = .ok (.iconst 0, 1) := by decide +kernel
theorem dX2_leastWater_1 : decode cX2_leastWater 1 = .ok (.istore 4, 2) := by decide +kernel
theorem dX2_leastWater_3 : decode cX2_leastWater 3 = .ok (.iload 4, 2) := by decide +kernel
theorem dX2_leastWater_5 : decode cX2_leastWater 5 = .ok (.bipush 20, 2) := by decide +kernel
theorem dX2_leastWater_7 : decode cX2_leastWater 7 = .ok (.if_icmp .gt 46, 3) := by decide +kernel
theorem dX2_leastWater_10 : decode cX2_leastWater 10 = .ok (.aload_n 0, 1) := by decide +kernel
theorem dX2_leastWater_11 : decode cX2_leastWater 11 = .ok (.getfield 12, 3) := by decide +kernel
theorem dX2_leastWater_14 : decode cX2_leastWater 14 = .ok (.aload_n 1, 1) := by decide +kernel
theorem dX2_leastWater_15 : decode cX2_leastWater 15 = .ok (.invokevirtual 18, 3) := by decide +kernel
theorem dX2_leastWater_18 : decode cX2_leastWater 18 = .ok (.iload 4, 2) := by decide +kernel
theorem dX2_leastWater_20 : decode cX2_leastWater 20 = .ok (.ifCond .le 13, 3) := by decide +kernel
theorem dX2_leastWater_23 : decode cX2_leastWater 23 = .ok (.aload_n 0, 1) := by decide +kernel
theorem dX2_leastWater_24 : decode cX2_leastWater 24 = .ok (.getfield 12, 3) := by decide +kernel
theorem dX2_leastWater_27 : decode cX2_leastWater 27 = .ok (.iload_n 2, 1) := by decide +kernel
theorem dX2_leastWater_28 : decode cX2_leastWater 28 = .ok (.iload 4, 2) := by decide +kernel
theorem dX2_leastWater_30 : decode cX2_leastWater 30 = .ok (.invokevirtual 68, 3) := by decide +kernel
theorem dX2_leastWater_33 : decode cX2_leastWater 33 = .ok (.aload_n 0, 1) := by decide +kernel
theorem dX2_leastWater_34 : decode cX2_leastWater 34 = .ok (.iload_n 2, 1) := by decide +kernel
theorem dX2_leastWater_35 : decode cX2_leastWater 35 = .ok (.iload_n 3, 1) := by decide +kernel
theorem dX2_leastWater_36 : decode cX2_leastWater 36 = .ok (.invokevirtual 26, 3) := by decide +kernel
theorem dX2_leastWater_39 : decode cX2_leastWater 39 = .ok (.ldc 37, 2) := by decide +kernel
theorem dX2_leastWater_41 : decode cX2_leastWater 41 = .ok (.if_icmp .ne 6, 3) := by decide +kernel
theorem dX2_leastWater_44 : decode cX2_leastWater 44 = .ok (.iload 4, 2) := by decide +kernel
theorem dX2_leastWater_46 : decode cX2_leastWater 46 = .ok (.ireturn, 1) := by decide +kernel
theorem dX2_leastWater_47 : decode cX2_leastWater 47 = .ok (.iinc 4 1, 3) := by decide +kernel
theorem dX2_leastWater_50 : decode cX2_leastWater 50 = .ok (.goto (-47), 3) := by decide +kernel
theorem dX2_leastWater_53 : decode cX2_leastWater 53 = .ok (.ldc 37, 2) := by decide +kernel
theorem dX2_leastWater_55 : decode cX2_leastWater 55 = .ok (.ireturn, 1) := by decide +kernel
theorem dX2_bestLaying_0 : decode cX2_bestLaying 0 = .ok (.ldc 37, 2) := by decide +kernel
theorem dX2_bestLaying_2 : decode cX2_bestLaying 2 = .ok (.istore 4, 2) := by decide +kernel
theorem dX2_bestLaying_4 : decode cX2_bestLaying 4 = .ok (.ldc 37, 2) := by decide +kernel
theorem dX2_bestLaying_6 : decode cX2_bestLaying 6 = .ok (.istore 5, 2) := by decide +kernel
theorem dX2_bestLaying_8 : decode cX2_bestLaying 8 = .ok (.iconst 0, 1) := by decide +kernel
theorem dX2_bestLaying_9 : decode cX2_bestLaying 9 = .ok (.istore 6, 2) := by decide +kernel
theorem dX2_bestLaying_11 : decode cX2_bestLaying 11 = .ok (.iload 6, 2) := by decide +kernel
theorem dX2_bestLaying_13 : decode cX2_bestLaying 13 = .ok (.aload_n 1, 1) := by decide +kernel
theorem dX2_bestLaying_14 : decode cX2_bestLaying 14 = .ok (.getfield 72, 3) := by decide +kernel
theorem dX2_bestLaying_17 : decode cX2_bestLaying 17 = .ok (.if_icmp .ge 87, 3) := by decide +kernel
theorem dX2_bestLaying_20 : decode cX2_bestLaying 20 = .ok (.iload 6, 2) := by decide +kernel
theorem dX2_bestLaying_22 : decode cX2_bestLaying 22 = .ok (.iconst 1, 1) := by decide +kernel
theorem dX2_bestLaying_23 : decode cX2_bestLaying 23 = .ok (.iadd, 1) := by decide +kernel
theorem dX2_bestLaying_24 : decode cX2_bestLaying 24 = .ok (.istore 7, 2) := by decide +kernel
theorem dX2_bestLaying_26 : decode cX2_bestLaying 26 = .ok (.iload 7, 2) := by decide +kernel
theorem dX2_bestLaying_28 : decode cX2_bestLaying 28 = .ok (.aload_n 1, 1) := by decide +kernel
theorem dX2_bestLaying_29 : decode cX2_bestLaying 29 = .ok (.getfield 72, 3) := by decide +kernel
theorem dX2_bestLaying_32 : decode cX2_bestLaying 32 = .ok (.if_icmp .ge 66, 3) := by decide +kernel
theorem dX2_bestLaying_35 : decode cX2_bestLaying 35 = .ok (.aload_n 0, 1) := by decide +kernel
theorem dX2_bestLaying_36 : decode cX2_bestLaying 36 = .ok (.getfield 12, 3) := by decide +kernel
theorem dX2_bestLaying_39 : decode cX2_bestLaying 39 = .ok (.aload_n 1, 1) := by decide +kernel
theorem dX2_bestLaying_40 : decode cX2_bestLaying 40 = .ok (.invokevirtual 18, 3) := by decide +kernel
theorem dX2_bestLaying_43 : decode cX2_bestLaying 43 = .ok (.aload_n 0, 1) := by decide +kernel
theorem dX2_bestLaying_44 : decode cX2_bestLaying 44 = .ok (.getfield 12, 3) := by decide +kernel
theorem dX2_bestLaying_47 : decode cX2_bestLaying 47 = .ok (.iload 6, 2) := by decide +kernel
theorem dX2_bestLaying_49 : decode cX2_bestLaying 49 = .ok (.iload 7, 2) := by decide +kernel
theorem dX2_bestLaying_51 : decode cX2_bestLaying 51 = .ok (.invokevirtual 75, 3) := by decide +kernel
theorem dX2_bestLaying_54 : decode cX2_bestLaying 54 = .ok (.aload_n 0, 1) := by decide +kernel
theorem dX2_bestLaying_55 : decode cX2_bestLaying 55 = .ok (.iload_n 2, 1) := by decide +kernel
theorem dX2_bestLaying_56 : decode cX2_bestLaying 56 = .ok (.invokevirtual 22, 3) := by decide +kernel
theorem dX2_bestLaying_59 : decode cX2_bestLaying 59 = .ok (.aload_n 0, 1) := by decide +kernel
theorem dX2_bestLaying_60 : decode cX2_bestLaying 60 = .ok (.getfield 12, 3) := by decide +kernel
theorem dX2_bestLaying_63 : decode cX2_bestLaying 63 = .ok (.invokevirtual 46, 3) := by decide +kernel
theorem dX2_bestLaying_66 : decode cX2_bestLaying 66 = .ok (.invokestatic 58, 3) := by decide +kernel
theorem dX2_bestLaying_69 : decode cX2_bestLaying 69 = .ok (.istore 8, 2) := by decide +kernel
theorem dX2_bestLaying_71 : decode cX2_bestLaying 71 = .ok (.iload 8, 2) := by decide +kernel
theorem dX2_bestLaying_73 : decode cX2_bestLaying 73 = .ok (.iload 5, 2) := by decide +kernel
theorem dX2_bestLaying_75 : decode cX2_bestLaying 75 = .ok (.if_icmp .le 17, 3) := by decide +kernel
theorem dX2_bestLaying_78 : decode cX2_bestLaying 78 = .ok (.bipush 10, 2) := by decide +kernel
theorem dX2_bestLaying_80 : decode cX2_bestLaying 80 = .ok (.iload 6, 2) := by decide +kernel
theorem dX2_bestLaying_82 : decode cX2_bestLaying 82 = .ok (.imul, 1) := by decide +kernel
theorem dX2_bestLaying_83 : decode cX2_bestLaying 83 = .ok (.iload 7, 2) := by decide +kernel
theorem dX2_bestLaying_85 : decode cX2_bestLaying 85 = .ok (.iadd, 1) := by decide +kernel
theorem dX2_bestLaying_86 : decode cX2_bestLaying 86 = .ok (.istore 4, 2) := by decide +kernel
theorem dX2_bestLaying_88 : decode cX2_bestLaying 88 = .ok (.iload 8, 2) := by decide +kernel
theorem dX2_bestLaying_90 : decode cX2_bestLaying 90 = .ok (.istore 5, 2) := by decide +kernel
theorem dX2_bestLaying_92 : decode cX2_bestLaying 92 = .ok (.iinc 7 1, 3) := by decide +kernel
theorem dX2_bestLaying_95 : decode cX2_bestLaying 95 = .ok (.goto (-69), 3) := by decide +kernel
theorem dX2_bestLaying_98 : decode cX2_bestLaying 98 = .ok (.iinc 6 1, 3) := by decide +kernel
theorem dX2_bestLaying_101 : decode cX2_bestLaying 101 = .ok (.goto (-90), 3) := by decide +kernel
theorem dX2_bestLaying_104 : decode cX2_bestLaying 104 = .ok (.iload_n 3, 1) := by decide +kernel
theorem dX2_bestLaying_105 : decode cX2_bestLaying 105 = .ok (.ifCond .eq 8, 3) := by decide +kernel
theorem dX2_bestLaying_108 : decode cX2_bestLaying 108 = .ok (.iload 4, 2) := by decide +kernel
theorem dX2_bestLaying_110 : decode cX2_bestLaying 110 = .ok (.goto 5, 3) := by decide +kernel
theorem dX2_bestLaying_113 : decode cX2_bestLaying 113 = .ok (.iload 5, 2) := by decide +kernel
theorem dX2_bestLaying_115 : decode cX2_bestLaying 115 = .ok (.ireturn, 1) := by decide +kernel
theorem dX2_whatFits_0 : decode cX2_whatFits 0 = .ok (.iconst 0, 1) := by decide +kernel
theorem dX2_whatFits_1 : decode cX2_whatFits 1 = .ok (.istore 7, 2) := by decide +kernel
theorem dX2_whatFits_3 : decode cX2_whatFits 3 = .ok (.getstatic 78, 3) := by decide +kernel
theorem dX2_whatFits_6 : decode cX2_whatFits 6 = .ok (.iload 6, 2) := by decide +kernel
theorem dX2_whatFits_8 : decode cX2_whatFits 8 = .ok (.iaload, 1) := by decide +kernel
theorem dX2_whatFits_9 : decode cX2_whatFits 9 = .ok (.istore 8, 2) := by decide +kernel
theorem dX2_whatFits_11 : decode cX2_whatFits 11 = .ok (.iload 8, 2) := by decide +kernel
theorem dX2_whatFits_13 : decode cX2_whatFits 13 = .ok (.getstatic 82, 3) := by decide +kernel
theorem dX2_whatFits_16 : decode cX2_whatFits 16 = .ok (.iload 6, 2) := by decide +kernel
theorem dX2_whatFits_18 : decode cX2_whatFits 18 = .ok (.iaload, 1) := by decide +kernel
theorem dX2_whatFits_19 : decode cX2_whatFits 19 = .ok (.if_icmp .gt 48, 3) := by decide +kernel
theorem dX2_whatFits_22 : decode cX2_whatFits 22 = .ok (.aload_n 0, 1) := by decide +kernel
theorem dX2_whatFits_23 : decode cX2_whatFits 23 = .ok (.getfield 12, 3) := by decide +kernel
theorem dX2_whatFits_26 : decode cX2_whatFits 26 = .ok (.aload_n 1, 1) := by decide +kernel
theorem dX2_whatFits_27 : decode cX2_whatFits 27 = .ok (.invokevirtual 18, 3) := by decide +kernel
theorem dX2_whatFits_30 : decode cX2_whatFits 30 = .ok (.aload_n 0, 1) := by decide +kernel
theorem dX2_whatFits_31 : decode cX2_whatFits 31 = .ok (.iload_n 2, 1) := by decide +kernel
theorem dX2_whatFits_32 : decode cX2_whatFits 32 = .ok (.iload 6, 2) := by decide +kernel
theorem dX2_whatFits_34 : decode cX2_whatFits 34 = .ok (.iload 8, 2) := by decide +kernel
theorem dX2_whatFits_36 : decode cX2_whatFits 36 = .ok (.invokevirtual 85, 3) := by decide +kernel
theorem dX2_whatFits_39 : decode cX2_whatFits 39 = .ok (.aload_n 0, 1) := by decide +kernel
theorem dX2_whatFits_40 : decode cX2_whatFits 40 = .ok (.iload_n 2, 1) := by decide +kernel
theorem dX2_whatFits_41 : decode cX2_whatFits 41 = .ok (.aload_n 3, 1) := by decide +kernel
theorem dX2_whatFits_42 : decode cX2_whatFits 42 = .ok (.iload 4, 2) := by decide +kernel
theorem dX2_whatFits_44 : decode cX2_whatFits 44 = .ok (.iload 5, 2) := by decide +kernel
theorem dX2_whatFits_46 : decode cX2_whatFits 46 = .ok (.invokevirtual 89, 3) := by decide +kernel
theorem dX2_whatFits_49 : decode cX2_whatFits 49 = .ok (.ifCond .eq 12, 3) := by decide +kernel
theorem dX2_whatFits_52 : decode cX2_whatFits 52 = .ok (.iload 7, 2) := by decide +kernel
theorem dX2_whatFits_54 : decode cX2_whatFits 54 = .ok (.iconst 1, 1) := by decide +kernel
theorem dX2_whatFits_55 : decode cX2_whatFits 55 = .ok (.iload 8, 2) := by decide +kernel
theorem dX2_whatFits_57 : decode cX2_whatFits 57 = .ok (.ishl, 1) := by decide +kernel
theorem dX2_whatFits_58 : decode cX2_whatFits 58 = .ok (.ior, 1) := by decide +kernel
theorem dX2_whatFits_59 : decode cX2_whatFits 59 = .ok (.istore 7, 2) := by decide +kernel
theorem dX2_whatFits_61 : decode cX2_whatFits 61 = .ok (.iinc 8 1, 3) := by decide +kernel
theorem dX2_whatFits_64 : decode cX2_whatFits 64 = .ok (.goto (-53), 3) := by decide +kernel
theorem dX2_whatFits_67 : decode cX2_whatFits 67 = .ok (.iload 7, 2) := by decide +kernel
theorem dX2_whatFits_69 : decode cX2_whatFits 69 = .ok (.ireturn, 1) := by decide +kernel
theorem dX2_ashInRain_0 : decode cX2_ashInRain 0 = .ok (.aload_n 1, 1) := by decide +kernel
theorem dX2_ashInRain_1 : decode cX2_ashInRain 1 = .ok (.invokevirtual 52, 3) := by decide +kernel
theorem dX2_ashInRain_4 : decode cX2_ashInRain 4 = .ok (.istore 6, 2) := by decide +kernel
theorem dX2_ashInRain_6 : decode cX2_ashInRain 6 = .ok (.iconst 0, 1) := by decide +kernel
theorem dX2_ashInRain_7 : decode cX2_ashInRain 7 = .ok (.istore 7, 2) := by decide +kernel
theorem dX2_ashInRain_9 : decode cX2_ashInRain 9 = .ok (.iconst 0, 1) := by decide +kernel
theorem dX2_ashInRain_10 : decode cX2_ashInRain 10 = .ok (.istore 8, 2) := by decide +kernel
theorem dX2_ashInRain_12 : decode cX2_ashInRain 12 = .ok (.iload 8, 2) := by decide +kernel
theorem dX2_ashInRain_14 : decode cX2_ashInRain 14 = .ok (.iload 6, 2) := by decide +kernel
theorem dX2_ashInRain_16 : decode cX2_ashInRain 16 = .ok (.if_icmp .gt 80, 3) := by decide +kernel
theorem dX2_ashInRain_19 : decode cX2_ashInRain 19 = .ok (.iload 8, 2) := by decide +kernel
theorem dX2_ashInRain_21 : decode cX2_ashInRain 21 = .ok (.iload 6, 2) := by decide +kernel
theorem dX2_ashInRain_23 : decode cX2_ashInRain 23 = .ok (.iconst (-1), 1) := by decide +kernel
theorem dX2_ashInRain_24 : decode cX2_ashInRain 24 = .ok (.ixor, 1) := by decide +kernel
theorem dX2_ashInRain_25 : decode cX2_ashInRain 25 = .ok (.iand, 1) := by decide +kernel
theorem dX2_ashInRain_26 : decode cX2_ashInRain 26 = .ok (.ifCond .ne 64, 3) := by decide +kernel
theorem dX2_ashInRain_29 : decode cX2_ashInRain 29 = .ok (.iload 8, 2) := by decide +kernel
theorem dX2_ashInRain_31 : decode cX2_ashInRain 31 = .ok (.invokestatic 58, 3) := by decide +kernel
theorem dX2_ashInRain_34 : decode cX2_ashInRain 34 = .ok (.istore 9, 2) := by decide +kernel
theorem dX2_ashInRain_36 : decode cX2_ashInRain 36 = .ok (.iload 6, 2) := by decide +kernel
theorem dX2_ashInRain_38 : decode cX2_ashInRain 38 = .ok (.invokestatic 58, 3) := by decide +kernel
theorem dX2_ashInRain_41 : decode cX2_ashInRain 41 = .ok (.iload 9, 2) := by decide +kernel
theorem dX2_ashInRain_43 : decode cX2_ashInRain 43 = .ok (.isub, 1) := by decide +kernel
theorem dX2_ashInRain_44 : decode cX2_ashInRain 44 = .ok (.istore 10, 2) := by decide +kernel
theorem dX2_ashInRain_46 : decode cX2_ashInRain 46 = .ok (.iload 4, 2) := by decide +kernel
theorem dX2_ashInRain_48 : decode cX2_ashInRain 48 = .ok (.iload 9, 2) := by decide +kernel
theorem dX2_ashInRain_50 : decode cX2_ashInRain 50 = .ok (.invokestatic 93, 3) := by decide +kernel
theorem dX2_ashInRain_53 : decode cX2_ashInRain 53 = .ok (.bipush 10, 2) := by decide +kernel
theorem dX2_ashInRain_55 : decode cX2_ashInRain 55 = .ok (.iload 4, 2) := by decide +kernel
theorem dX2_ashInRain_57 : decode cX2_ashInRain 57 = .ok (.isub, 1) := by decide +kernel
theorem dX2_ashInRain_58 : decode cX2_ashInRain 58 = .ok (.iload 10, 2) := by decide +kernel
theorem dX2_ashInRain_60 : decode cX2_ashInRain 60 = .ok (.invokestatic 93, 3) := by decide +kernel
theorem dX2_ashInRain_63 : decode cX2_ashInRain 63 = .ok (.imul, 1) := by decide +kernel
theorem dX2_ashInRain_64 : decode cX2_ashInRain 64 = .ok (.istore 11, 2) := by decide +kernel
theorem dX2_ashInRain_66 : decode cX2_ashInRain 66 = .ok (.iload 11, 2) := by decide +kernel
theorem dX2_ashInRain_68 : decode cX2_ashInRain 68 = .ok (.ifCond .le 22, 3) := by decide +kernel
theorem dX2_ashInRain_71 : decode cX2_ashInRain 71 = .ok (.aload_n 0, 1) := by decide +kernel
theorem dX2_ashInRain_72 : decode cX2_ashInRain 72 = .ok (.aload_n 1, 1) := by decide +kernel
theorem dX2_ashInRain_73 : decode cX2_ashInRain 73 = .ok (.iload 8, 2) := by decide +kernel
theorem dX2_ashInRain_75 : decode cX2_ashInRain 75 = .ok (.iload_n 2, 1) := by decide +kernel
theorem dX2_ashInRain_76 : decode cX2_ashInRain 76 = .ok (.iload_n 3, 1) := by decide +kernel
theorem dX2_ashInRain_77 : decode cX2_ashInRain 77 = .ok (.invokevirtual 96, 3) := by decide +kernel
theorem dX2_ashInRain_80 : decode cX2_ashInRain 80 = .ok (.ifCond .eq 10, 3) := by decide +kernel
theorem dX2_ashInRain_83 : decode cX2_ashInRain 83 = .ok (.iload 7, 2) := by decide +kernel
theorem dX2_ashInRain_85 : decode cX2_ashInRain 85 = .ok (.iload 11, 2) := by decide +kernel
theorem dX2_ashInRain_87 : decode cX2_ashInRain 87 = .ok (.iadd, 1) := by decide +kernel
theorem dX2_ashInRain_88 : decode cX2_ashInRain 88 = .ok (.istore 7, 2) := by decide +kernel
theorem dX2_ashInRain_90 : decode cX2_ashInRain 90 = .ok (.iinc 8 1, 3) := by decide +kernel
theorem dX2_ashInRain_93 : decode cX2_ashInRain 93 = .ok (.goto (-81), 3) := by decide +kernel
theorem dX2_ashInRain_96 : decode cX2_ashInRain 96 = .ok (.bipush 10, 2) := by decide +kernel
theorem dX2_ashInRain_98 : decode cX2_ashInRain 98 = .ok (.iload 6, 2) := by decide +kernel
theorem dX2_ashInRain_100 : decode cX2_ashInRain 100 = .ok (.invokestatic 58, 3) := by decide +kernel
theorem dX2_ashInRain_103 : decode cX2_ashInRain 103 = .ok (.invokestatic 93, 3) := by decide +kernel
theorem dX2_ashInRain_106 : decode cX2_ashInRain 106 = .ok (.istore 8, 2) := by decide +kernel
theorem dX2_ashInRain_108 : decode cX2_ashInRain 108 = .ok (.iload 7, 2) := by decide +kernel
theorem dX2_ashInRain_110 : decode cX2_ashInRain 110 = .ok (.iload 8, 2) := by decide +kernel
theorem dX2_ashInRain_112 : decode cX2_ashInRain 112 = .ok (.invokestatic 99, 3) := by decide +kernel
theorem dX2_ashInRain_115 : decode cX2_ashInRain 115 = .ok (.istore 9, 2) := by decide +kernel
theorem dX2_ashInRain_117 : decode cX2_ashInRain 117 = .ok (.iload 5, 2) := by decide +kernel
theorem dX2_ashInRain_119 : decode cX2_ashInRain 119 = .ok (.ifCond .eq 8, 3) := by decide +kernel
theorem dX2_ashInRain_122 : decode cX2_ashInRain 122 = .ok (.iload 7, 2) := by decide +kernel
theorem dX2_ashInRain_124 : decode cX2_ashInRain 124 = .ok (.goto 5, 3) := by decide +kernel
theorem dX2_ashInRain_127 : decode cX2_ashInRain 127 = .ok (.iload 8, 2) := by decide +kernel
theorem dX2_ashInRain_129 : decode cX2_ashInRain 129 = .ok (.istore 10, 2) := by decide +kernel
theorem dX2_ashInRain_131 : decode cX2_ashInRain 131 = .ok (.iload 9, 2) := by decide +kernel
theorem dX2_ashInRain_133 : decode cX2_ashInRain 133 = .ok (.ifCond .ne 8, 3) := by decide +kernel
theorem dX2_ashInRain_136 : decode cX2_ashInRain 136 = .ok (.iload 10, 2) := by decide +kernel
theorem dX2_ashInRain_138 : decode cX2_ashInRain 138 = .ok (.goto 8, 3) := by decide +kernel
theorem dX2_ashInRain_141 : decode cX2_ashInRain 141 = .ok (.iload 10, 2) := by decide +kernel
theorem dX2_ashInRain_143 : decode cX2_ashInRain 143 = .ok (.iload 9, 2) := by decide +kernel
theorem dX2_ashInRain_145 : decode cX2_ashInRain 145 = .ok (.idiv, 1) := by decide +kernel
theorem dX2_ashInRain_146 : decode cX2_ashInRain 146 = .ok (.ireturn, 1) := by decide +kernel
theorem dX2_yearByDraws_0 : decode cX2_yearByDraws 0 = .ok (.aload_n 0, 1) := by decide +kernel
theorem dX2_yearByDraws_1 : decode cX2_yearByDraws 1 = .ok (.getfield 12, 3) := by decide +kernel
theorem dX2_yearByDraws_4 : decode cX2_yearByDraws 4 = .ok (.aload_n 1, 1) := by decide +kernel
theorem dX2_yearByDraws_5 : decode cX2_yearByDraws 5 = .ok (.invokevirtual 18, 3) := by decide +kernel
theorem dX2_yearByDraws_8 : decode cX2_yearByDraws 8 = .ok (.aload_n 0, 1) := by decide +kernel
theorem dX2_yearByDraws_9 : decode cX2_yearByDraws 9 = .ok (.getfield 12, 3) := by decide +kernel
theorem dX2_yearByDraws_12 : decode cX2_yearByDraws 12 = .ok (.iconst 0, 1) := by decide +kernel
theorem dX2_yearByDraws_13 : decode cX2_yearByDraws 13 = .ok (.putfield 102, 3) := by decide +kernel
theorem dX2_yearByDraws_16 : decode cX2_yearByDraws 16 = .ok (.iload_n 3, 1) := by decide +kernel
theorem dX2_yearByDraws_17 : decode cX2_yearByDraws 17 = .ok (.i2l, 1) := by decide +kernel
theorem dX2_yearByDraws_18 : decode cX2_yearByDraws 18 = .ok (.lstore 4, 2) := by decide +kernel
theorem dX2_yearByDraws_20 : decode cX2_yearByDraws 20 = .ok (.iconst 0, 1) := by decide +kernel
theorem dX2_yearByDraws_21 : decode cX2_yearByDraws 21 = .ok (.istore 6, 2) := by decide +kernel
theorem dX2_yearByDraws_23 : decode cX2_yearByDraws 23 = .ok (.iload 6, 2) := by decide +kernel
theorem dX2_yearByDraws_25 : decode cX2_yearByDraws 25 = .ok (.iload_n 2, 1) := by decide +kernel
theorem dX2_yearByDraws_26 : decode cX2_yearByDraws 26 = .ok (.if_icmp .ge 34, 3) := by decide +kernel
theorem dX2_yearByDraws_29 : decode cX2_yearByDraws 29 = .ok (.lload 4, 2) := by decide +kernel
theorem dX2_yearByDraws_31 : decode cX2_yearByDraws 31 = .ok (.ldc2_w 105, 3) := by decide +kernel
theorem dX2_yearByDraws_34 : decode cX2_yearByDraws 34 = .ok (.lmul, 1) := by decide +kernel
theorem dX2_yearByDraws_35 : decode cX2_yearByDraws 35 = .ok (.ldc2_w 107, 3) := by decide +kernel
theorem dX2_yearByDraws_38 : decode cX2_yearByDraws 38 = .ok (.lrem, 1) := by decide +kernel
theorem dX2_yearByDraws_39 : decode cX2_yearByDraws 39 = .ok (.lstore 4, 2) := by decide +kernel
theorem dX2_yearByDraws_41 : decode cX2_yearByDraws 41 = .ok (.aload_n 0, 1) := by decide +kernel
theorem dX2_yearByDraws_42 : decode cX2_yearByDraws 42 = .ok (.lload 4, 2) := by decide +kernel
theorem dX2_yearByDraws_44 : decode cX2_yearByDraws 44 = .ok (.invokevirtual 109, 3) := by decide +kernel
theorem dX2_yearByDraws_47 : decode cX2_yearByDraws 47 = .ok (.aload_n 0, 1) := by decide +kernel
theorem dX2_yearByDraws_48 : decode cX2_yearByDraws 48 = .ok (.getfield 12, 3) := by decide +kernel
theorem dX2_yearByDraws_51 : decode cX2_yearByDraws 51 = .ok (.invokevirtual 34, 3) := by decide +kernel
theorem dX2_yearByDraws_54 : decode cX2_yearByDraws 54 = .ok (.iinc 6 1, 3) := by decide +kernel
theorem dX2_yearByDraws_57 : decode cX2_yearByDraws 57 = .ok (.goto (-34), 3) := by decide +kernel
theorem dX2_yearByDraws_60 : decode cX2_yearByDraws 60 = .ok (.aload_n 0, 1) := by decide +kernel
theorem dX2_yearByDraws_61 : decode cX2_yearByDraws 61 = .ok (.getfield 12, 3) := by decide +kernel
theorem dX2_yearByDraws_64 : decode cX2_yearByDraws 64 = .ok (.areturn, 1) := by decide +kernel
theorem dX2_tryDraw_0 : decode cX2_tryDraw 0 = .ok (.aload_n 0, 1) := by decide +kernel
theorem dX2_tryDraw_1 : decode cX2_tryDraw 1 = .ok (.getfield 12, 3) := by decide +kernel
theorem dX2_tryDraw_4 : decode cX2_tryDraw 4 = .ok (.invokevirtual 113, 3) := by decide +kernel
theorem dX2_tryDraw_7 : decode cX2_tryDraw 7 = .ok (.ifCond .eq 4, 3) := by decide +kernel
theorem dX2_tryDraw_10 : decode cX2_tryDraw 10 = .ok (.return_, 1) := by decide +kernel
theorem dX2_tryDraw_11 : decode cX2_tryDraw 11 = .ok (.lload_n 1, 1) := by decide +kernel
theorem dX2_tryDraw_12 : decode cX2_tryDraw 12 = .ok (.aload_n 0, 1) := by decide +kernel
theorem dX2_tryDraw_13 : decode cX2_tryDraw 13 = .ok (.getfield 12, 3) := by decide +kernel
theorem dX2_tryDraw_16 : decode cX2_tryDraw 16 = .ok (.getfield 72, 3) := by decide +kernel
theorem dX2_tryDraw_19 : decode cX2_tryDraw 19 = .ok (.i2l, 1) := by decide +kernel
theorem dX2_tryDraw_20 : decode cX2_tryDraw 20 = .ok (.lrem, 1) := by decide +kernel
theorem dX2_tryDraw_21 : decode cX2_tryDraw 21 = .ok (.l2i, 1) := by decide +kernel
theorem dX2_tryDraw_22 : decode cX2_tryDraw 22 = .ok (.istore_n 3, 1) := by decide +kernel
theorem dX2_tryDraw_23 : decode cX2_tryDraw 23 = .ok (.lload_n 1, 1) := by decide +kernel
theorem dX2_tryDraw_24 : decode cX2_tryDraw 24 = .ok (.ldc2_w 117, 3) := by decide +kernel
theorem dX2_tryDraw_27 : decode cX2_tryDraw 27 = .ok (.lrem, 1) := by decide +kernel
theorem dX2_tryDraw_28 : decode cX2_tryDraw 28 = .ok (.lconst 0, 1) := by decide +kernel
theorem dX2_tryDraw_29 : decode cX2_tryDraw 29 = .ok (.lcmp, 1) := by decide +kernel
theorem dX2_tryDraw_30 : decode cX2_tryDraw 30 = .ok (.ifCond .ne 25, 3) := by decide +kernel
theorem dX2_tryDraw_33 : decode cX2_tryDraw 33 = .ok (.aload_n 0, 1) := by decide +kernel
theorem dX2_tryDraw_34 : decode cX2_tryDraw 34 = .ok (.getfield 12, 3) := by decide +kernel
theorem dX2_tryDraw_37 : decode cX2_tryDraw 37 = .ok (.iload_n 3, 1) := by decide +kernel
theorem dX2_tryDraw_38 : decode cX2_tryDraw 38 = .ok (.invokevirtual 119, 3) := by decide +kernel
theorem dX2_tryDraw_41 : decode cX2_tryDraw 41 = .ok (.ifCond .eq 14, 3) := by decide +kernel
theorem dX2_tryDraw_44 : decode cX2_tryDraw 44 = .ok (.aload_n 0, 1) := by decide +kernel
theorem dX2_tryDraw_45 : decode cX2_tryDraw 45 = .ok (.getfield 12, 3) := by decide +kernel
theorem dX2_tryDraw_48 : decode cX2_tryDraw 48 = .ok (.iload_n 3, 1) := by decide +kernel
theorem dX2_tryDraw_49 : decode cX2_tryDraw 49 = .ok (.invokevirtual 122, 3) := by decide +kernel
theorem dX2_tryDraw_52 : decode cX2_tryDraw 52 = .ok (.goto 38, 3) := by decide +kernel
theorem dX2_tryDraw_55 : decode cX2_tryDraw 55 = .ok (.lload_n 1, 1) := by decide +kernel
theorem dX2_tryDraw_56 : decode cX2_tryDraw 56 = .ok (.ldc2_w 125, 3) := by decide +kernel
theorem dX2_tryDraw_59 : decode cX2_tryDraw 59 = .ok (.lrem, 1) := by decide +kernel
theorem dX2_tryDraw_60 : decode cX2_tryDraw 60 = .ok (.lconst 0, 1) := by decide +kernel
theorem dX2_tryDraw_61 : decode cX2_tryDraw 61 = .ok (.lcmp, 1) := by decide +kernel
theorem dX2_tryDraw_62 : decode cX2_tryDraw 62 = .ok (.ifCond .ne 28, 3) := by decide +kernel
theorem dX2_tryDraw_65 : decode cX2_tryDraw 65 = .ok (.aload_n 0, 1) := by decide +kernel
theorem dX2_tryDraw_66 : decode cX2_tryDraw 66 = .ok (.getfield 12, 3) := by decide +kernel
theorem dX2_tryDraw_69 : decode cX2_tryDraw 69 = .ok (.iload_n 3, 1) := by decide +kernel
theorem dX2_tryDraw_70 : decode cX2_tryDraw 70 = .ok (.invokevirtual 127, 3) := by decide +kernel
theorem dX2_tryDraw_73 : decode cX2_tryDraw 73 = .ok (.ifCond .ne 17, 3) := by decide +kernel
theorem dX2_tryDraw_76 : decode cX2_tryDraw 76 = .ok (.aload_n 0, 1) := by decide +kernel
theorem dX2_tryDraw_77 : decode cX2_tryDraw 77 = .ok (.getfield 12, 3) := by decide +kernel
theorem dX2_tryDraw_80 : decode cX2_tryDraw 80 = .ok (.iload_n 3, 1) := by decide +kernel
theorem dX2_tryDraw_81 : decode cX2_tryDraw 81 = .ok (.lload_n 1, 1) := by decide +kernel
theorem dX2_tryDraw_82 : decode cX2_tryDraw 82 = .ok (.ldc2_w 130, 3) := by decide +kernel
theorem dX2_tryDraw_85 : decode cX2_tryDraw 85 = .ok (.lrem, 1) := by decide +kernel
theorem dX2_tryDraw_86 : decode cX2_tryDraw 86 = .ok (.l2i, 1) := by decide +kernel
theorem dX2_tryDraw_87 : decode cX2_tryDraw 87 = .ok (.invokevirtual 68, 3) := by decide +kernel
theorem dX2_tryDraw_90 : decode cX2_tryDraw 90 = .ok (.lload_n 1, 1) := by decide +kernel
theorem dX2_tryDraw_91 : decode cX2_tryDraw 91 = .ok (.ldc2_w 132, 3) := by decide +kernel
theorem dX2_tryDraw_94 : decode cX2_tryDraw 94 = .ok (.lrem, 1) := by decide +kernel
theorem dX2_tryDraw_95 : decode cX2_tryDraw 95 = .ok (.lconst 0, 1) := by decide +kernel
theorem dX2_tryDraw_96 : decode cX2_tryDraw 96 = .ok (.lcmp, 1) := by decide +kernel
theorem dX2_tryDraw_97 : decode cX2_tryDraw 97 = .ok (.ifCond .ne 10, 3) := by decide +kernel
theorem dX2_tryDraw_100 : decode cX2_tryDraw 100 = .ok (.aload_n 0, 1) := by decide +kernel
theorem dX2_tryDraw_101 : decode cX2_tryDraw 101 = .ok (.getfield 12, 3) := by decide +kernel
theorem dX2_tryDraw_104 : decode cX2_tryDraw 104 = .ok (.invokevirtual 134, 3) := by decide +kernel
theorem dX2_tryDraw_107 : decode cX2_tryDraw 107 = .ok (.return_, 1) := by decide +kernel
theorem dX2_tryHours_0 : decode cX2_tryHours 0 = .ok (.iconst 0, 1) := by decide +kernel
theorem dX2_tryHours_1 : decode cX2_tryHours 1 = .ok (.istore_n 2, 1) := by decide +kernel
theorem dX2_tryHours_2 : decode cX2_tryHours 2 = .ok (.iload_n 2, 1) := by decide +kernel
theorem dX2_tryHours_3 : decode cX2_tryHours 3 = .ok (.iload_n 1, 1) := by decide +kernel
theorem dX2_tryHours_4 : decode cX2_tryHours 4 = .ok (.if_icmp .ge 26, 3) := by decide +kernel
theorem dX2_tryHours_7 : decode cX2_tryHours 7 = .ok (.aload_n 0, 1) := by decide +kernel
theorem dX2_tryHours_8 : decode cX2_tryHours 8 = .ok (.getfield 12, 3) := by decide +kernel
theorem dX2_tryHours_11 : decode cX2_tryHours 11 = .ok (.getfield 38, 3) := by decide +kernel
theorem dX2_tryHours_14 : decode cX2_tryHours 14 = .ok (.ifCond .eq 16, 3) := by decide +kernel
theorem dX2_tryHours_17 : decode cX2_tryHours 17 = .ok (.aload_n 0, 1) := by decide +kernel
theorem dX2_tryHours_18 : decode cX2_tryHours 18 = .ok (.getfield 12, 3) := by decide +kernel
theorem dX2_tryHours_21 : decode cX2_tryHours 21 = .ok (.invokevirtual 34, 3) := by decide +kernel
theorem dX2_tryHours_24 : decode cX2_tryHours 24 = .ok (.iinc 2 1, 3) := by decide +kernel
theorem dX2_tryHours_27 : decode cX2_tryHours 27 = .ok (.goto (-25), 3) := by decide +kernel
theorem dX2_tryHours_30 : decode cX2_tryHours 30 = .ok (.return_, 1) := by decide +kernel
theorem dX2_tryUntilLit_0 : decode cX2_tryUntilLit 0 = .ok (.iconst 0, 1) := by decide +kernel
theorem dX2_tryUntilLit_1 : decode cX2_tryUntilLit 1 = .ok (.istore_n 3, 1) := by decide +kernel
theorem dX2_tryUntilLit_2 : decode cX2_tryUntilLit 2 = .ok (.iload_n 3, 1) := by decide +kernel
theorem dX2_tryUntilLit_3 : decode cX2_tryUntilLit 3 = .ok (.iload_n 2, 1) := by decide +kernel
theorem dX2_tryUntilLit_4 : decode cX2_tryUntilLit 4 = .ok (.if_icmp .gt 39, 3) := by decide +kernel
theorem dX2_tryUntilLit_7 : decode cX2_tryUntilLit 7 = .ok (.aload_n 0, 1) := by decide +kernel
theorem dX2_tryUntilLit_8 : decode cX2_tryUntilLit 8 = .ok (.getfield 12, 3) := by decide +kernel
theorem dX2_tryUntilLit_11 : decode cX2_tryUntilLit 11 = .ok (.getfield 38, 3) := by decide +kernel
theorem dX2_tryUntilLit_14 : decode cX2_tryUntilLit 14 = .ok (.ifCond .eq 29, 3) := by decide +kernel
theorem dX2_tryUntilLit_17 : decode cX2_tryUntilLit 17 = .ok (.aload_n 0, 1) := by decide +kernel
theorem dX2_tryUntilLit_18 : decode cX2_tryUntilLit 18 = .ok (.getfield 12, 3) := by decide +kernel
theorem dX2_tryUntilLit_21 : decode cX2_tryUntilLit 21 = .ok (.iload_n 1, 1) := by decide +kernel
theorem dX2_tryUntilLit_22 : decode cX2_tryUntilLit 22 = .ok (.invokevirtual 137, 3) := by decide +kernel
theorem dX2_tryUntilLit_25 : decode cX2_tryUntilLit 25 = .ok (.ifCond .eq 5, 3) := by decide +kernel
theorem dX2_tryUntilLit_28 : decode cX2_tryUntilLit 28 = .ok (.iload_n 3, 1) := by decide +kernel
theorem dX2_tryUntilLit_29 : decode cX2_tryUntilLit 29 = .ok (.ireturn, 1) := by decide +kernel
theorem dX2_tryUntilLit_30 : decode cX2_tryUntilLit 30 = .ok (.aload_n 0, 1) := by decide +kernel
theorem dX2_tryUntilLit_31 : decode cX2_tryUntilLit 31 = .ok (.getfield 12, 3) := by decide +kernel
theorem dX2_tryUntilLit_34 : decode cX2_tryUntilLit 34 = .ok (.invokevirtual 34, 3) := by decide +kernel
theorem dX2_tryUntilLit_37 : decode cX2_tryUntilLit 37 = .ok (.iinc 3 1, 3) := by decide +kernel
theorem dX2_tryUntilLit_40 : decode cX2_tryUntilLit 40 = .ok (.goto (-38), 3) := by decide +kernel
theorem dX2_tryUntilLit_43 : decode cX2_tryUntilLit 43 = .ok (.ldc 37, 2) := by decide +kernel
theorem dX2_tryUntilLit_45 : decode cX2_tryUntilLit 45 = .ok (.ireturn, 1) := by decide +kernel
theorem dX2_makesAsh_0 : decode cX2_makesAsh 0 = .ok (.aload_n 0, 1) := by decide +kernel
theorem dX2_makesAsh_1 : decode cX2_makesAsh 1 = .ok (.getfield 12, 3) := by decide +kernel
theorem dX2_makesAsh_4 : decode cX2_makesAsh 4 = .ok (.aload_n 1, 1) := by decide +kernel
theorem dX2_makesAsh_5 : decode cX2_makesAsh 5 = .ok (.invokevirtual 18, 3) := by decide +kernel
theorem dX2_makesAsh_8 : decode cX2_makesAsh 8 = .ok (.aload_n 0, 1) := by decide +kernel
theorem dX2_makesAsh_9 : decode cX2_makesAsh 9 = .ok (.getfield 12, 3) := by decide +kernel
theorem dX2_makesAsh_12 : decode cX2_makesAsh 12 = .ok (.dup, 1) := by decide +kernel
theorem dX2_makesAsh_13 : decode cX2_makesAsh 13 = .ok (.getfield 38, 3) := by decide +kernel
theorem dX2_makesAsh_16 : decode cX2_makesAsh 16 = .ok (.iload_n 2, 1) := by decide +kernel
theorem dX2_makesAsh_17 : decode cX2_makesAsh 17 = .ok (.ior, 1) := by decide +kernel
theorem dX2_makesAsh_18 : decode cX2_makesAsh 18 = .ok (.putfield 38, 3) := by decide +kernel
theorem dX2_makesAsh_21 : decode cX2_makesAsh 21 = .ok (.aload_n 0, 1) := by decide +kernel
theorem dX2_makesAsh_22 : decode cX2_makesAsh 22 = .ok (.iload 4, 2) := by decide +kernel
theorem dX2_makesAsh_24 : decode cX2_makesAsh 24 = .ok (.invokevirtual 22, 3) := by decide +kernel
theorem dX2_makesAsh_27 : decode cX2_makesAsh 27 = .ok (.iload_n 3, 1) := by decide +kernel
theorem dX2_makesAsh_28 : decode cX2_makesAsh 28 = .ok (.aload_n 0, 1) := by decide +kernel
theorem dX2_makesAsh_29 : decode cX2_makesAsh 29 = .ok (.getfield 12, 3) := by decide +kernel
theorem dX2_makesAsh_32 : decode cX2_makesAsh 32 = .ok (.invokevirtual 46, 3) := by decide +kernel
theorem dX2_makesAsh_35 : decode cX2_makesAsh 35 = .ok (.iconst (-1), 1) := by decide +kernel
theorem dX2_makesAsh_36 : decode cX2_makesAsh 36 = .ok (.ixor, 1) := by decide +kernel
theorem dX2_makesAsh_37 : decode cX2_makesAsh 37 = .ok (.iand, 1) := by decide +kernel
theorem dX2_makesAsh_38 : decode cX2_makesAsh 38 = .ok (.ifCond .ne 7, 3) := by decide +kernel
theorem dX2_makesAsh_41 : decode cX2_makesAsh 41 = .ok (.iconst 1, 1) := by decide +kernel
theorem dX2_makesAsh_42 : decode cX2_makesAsh 42 = .ok (.goto 4, 3) := by decide +kernel
theorem dX2_makesAsh_45 : decode cX2_makesAsh 45 = .ok (.iconst 0, 1) := by decide +kernel
theorem dX2_makesAsh_46 : decode cX2_makesAsh 46 = .ok (.ireturn, 1) := by decide +kernel
theorem dX2_isAshWhenWetted_0 : decode cX2_isAshWhenWetted 0 = .ok (.aload_n 0, 1) := by decide +kernel
theorem dX2_isAshWhenWetted_1 : decode cX2_isAshWhenWetted 1 = .ok (.getfield 12, 3) := by decide +kernel
theorem dX2_isAshWhenWetted_4 : decode cX2_isAshWhenWetted 4 = .ok (.aload_n 1, 1) := by decide +kernel
theorem dX2_isAshWhenWetted_5 : decode cX2_isAshWhenWetted 5 = .ok (.invokevirtual 18, 3) := by decide +kernel
theorem dX2_isAshWhenWetted_8 : decode cX2_isAshWhenWetted 8 = .ok (.iconst 0, 1) := by decide +kernel
theorem dX2_isAshWhenWetted_9 : decode cX2_isAshWhenWetted 9 = .ok (.istore 5, 2) := by decide +kernel
theorem dX2_isAshWhenWetted_11 : decode cX2_isAshWhenWetted 11 = .ok (.iload 5, 2) := by decide +kernel
theorem dX2_isAshWhenWetted_13 : decode cX2_isAshWhenWetted 13 = .ok (.aload_n 0, 1) := by decide +kernel
theorem dX2_isAshWhenWetted_14 : decode cX2_isAshWhenWetted 14 = .ok (.getfield 12, 3) := by decide +kernel
theorem dX2_isAshWhenWetted_17 : decode cX2_isAshWhenWetted 17 = .ok (.getfield 72, 3) := by decide +kernel
theorem dX2_isAshWhenWetted_20 : decode cX2_isAshWhenWetted 20 = .ok (.if_icmp .ge 29, 3) := by decide +kernel
theorem dX2_isAshWhenWetted_23 : decode cX2_isAshWhenWetted 23 = .ok (.iload_n 2, 1) := by decide +kernel
theorem dX2_isAshWhenWetted_24 : decode cX2_isAshWhenWetted 24 = .ok (.iload 5, 2) := by decide +kernel
theorem dX2_isAshWhenWetted_26 : decode cX2_isAshWhenWetted 26 = .ok (.ishr, 1) := by decide +kernel
theorem dX2_isAshWhenWetted_27 : decode cX2_isAshWhenWetted 27 = .ok (.iconst 1, 1) := by decide +kernel
theorem dX2_isAshWhenWetted_28 : decode cX2_isAshWhenWetted 28 = .ok (.iand, 1) := by decide +kernel
theorem dX2_isAshWhenWetted_29 : decode cX2_isAshWhenWetted 29 = .ok (.iconst 1, 1) := by decide +kernel
theorem dX2_isAshWhenWetted_30 : decode cX2_isAshWhenWetted 30 = .ok (.if_icmp .ne 13, 3) := by decide +kernel
theorem dX2_isAshWhenWetted_33 : decode cX2_isAshWhenWetted 33 = .ok (.aload_n 0, 1) := by decide +kernel
theorem dX2_isAshWhenWetted_34 : decode cX2_isAshWhenWetted 34 = .ok (.getfield 12, 3) := by decide +kernel
theorem dX2_isAshWhenWetted_37 : decode cX2_isAshWhenWetted 37 = .ok (.iload 5, 2) := by decide +kernel
theorem dX2_isAshWhenWetted_39 : decode cX2_isAshWhenWetted 39 = .ok (.iconst 3, 1) := by decide +kernel
theorem dX2_isAshWhenWetted_40 : decode cX2_isAshWhenWetted 40 = .ok (.invokevirtual 68, 3) := by decide +kernel
theorem dX2_isAshWhenWetted_43 : decode cX2_isAshWhenWetted 43 = .ok (.iinc 5 1, 3) := by decide +kernel
theorem dX2_isAshWhenWetted_46 : decode cX2_isAshWhenWetted 46 = .ok (.goto (-35), 3) := by decide +kernel
theorem dX2_isAshWhenWetted_49 : decode cX2_isAshWhenWetted 49 = .ok (.iconst 0, 1) := by decide +kernel
theorem dX2_isAshWhenWetted_50 : decode cX2_isAshWhenWetted 50 = .ok (.istore 5, 2) := by decide +kernel
theorem dX2_isAshWhenWetted_52 : decode cX2_isAshWhenWetted 52 = .ok (.iload 5, 2) := by decide +kernel
theorem dX2_isAshWhenWetted_54 : decode cX2_isAshWhenWetted 54 = .ok (.iload 4, 2) := by decide +kernel
theorem dX2_isAshWhenWetted_56 : decode cX2_isAshWhenWetted 56 = .ok (.if_icmp .ge 37, 3) := by decide +kernel
theorem dX2_isAshWhenWetted_59 : decode cX2_isAshWhenWetted 59 = .ok (.aload_n 0, 1) := by decide +kernel
theorem dX2_isAshWhenWetted_60 : decode cX2_isAshWhenWetted 60 = .ok (.getfield 12, 3) := by decide +kernel
theorem dX2_isAshWhenWetted_63 : decode cX2_isAshWhenWetted 63 = .ok (.getfield 38, 3) := by decide +kernel
theorem dX2_isAshWhenWetted_66 : decode cX2_isAshWhenWetted 66 = .ok (.ifCond .eq 27, 3) := by decide +kernel
theorem dX2_isAshWhenWetted_69 : decode cX2_isAshWhenWetted 69 = .ok (.aload_n 0, 1) := by decide +kernel
theorem dX2_isAshWhenWetted_70 : decode cX2_isAshWhenWetted 70 = .ok (.getfield 12, 3) := by decide +kernel
theorem dX2_isAshWhenWetted_73 : decode cX2_isAshWhenWetted 73 = .ok (.iload_n 3, 1) := by decide +kernel
theorem dX2_isAshWhenWetted_74 : decode cX2_isAshWhenWetted 74 = .ok (.invokevirtual 30, 3) := by decide +kernel
theorem dX2_isAshWhenWetted_77 : decode cX2_isAshWhenWetted 77 = .ok (.ifCond .ne 16, 3) := by decide +kernel
theorem dX2_isAshWhenWetted_80 : decode cX2_isAshWhenWetted 80 = .ok (.aload_n 0, 1) := by decide +kernel
theorem dX2_isAshWhenWetted_81 : decode cX2_isAshWhenWetted 81 = .ok (.getfield 12, 3) := by decide +kernel
theorem dX2_isAshWhenWetted_84 : decode cX2_isAshWhenWetted 84 = .ok (.invokevirtual 34, 3) := by decide +kernel
theorem dX2_isAshWhenWetted_87 : decode cX2_isAshWhenWetted 87 = .ok (.iinc 5 1, 3) := by decide +kernel
theorem dX2_isAshWhenWetted_90 : decode cX2_isAshWhenWetted 90 = .ok (.goto (-38), 3) := by decide +kernel
theorem dX2_isAshWhenWetted_93 : decode cX2_isAshWhenWetted 93 = .ok (.aload_n 0, 1) := by decide +kernel
theorem dX2_isAshWhenWetted_94 : decode cX2_isAshWhenWetted 94 = .ok (.getfield 12, 3) := by decide +kernel
theorem dX2_isAshWhenWetted_97 : decode cX2_isAshWhenWetted 97 = .ok (.iload_n 3, 1) := by decide +kernel
theorem dX2_isAshWhenWetted_98 : decode cX2_isAshWhenWetted 98 = .ok (.invokevirtual 30, 3) := by decide +kernel
theorem dX2_isAshWhenWetted_101 : decode cX2_isAshWhenWetted 101 = .ok (.ireturn, 1) := by decide +kernel
theorem dX2_suppose_0 : decode cX2_suppose 0 = .ok (.iload_n 2, 1) := by decide +kernel
theorem dX2_suppose_1 : decode cX2_suppose 1 = .ok (.ifCond .ne 32, 3) := by decide +kernel
theorem dX2_suppose_4 : decode cX2_suppose 4 = .ok (.aload_n 0, 1) := by decide +kernel
theorem dX2_suppose_5 : decode cX2_suppose 5 = .ok (.getfield 12, 3) := by decide +kernel
theorem dX2_suppose_8 : decode cX2_suppose 8 = .ok (.getfield 140, 3) := by decide +kernel
theorem dX2_suppose_11 : decode cX2_suppose 11 = .ok (.iload_n 1, 1) := by decide +kernel
theorem dX2_suppose_12 : decode cX2_suppose 12 = .ok (.iload_n 3, 1) := by decide +kernel
theorem dX2_suppose_13 : decode cX2_suppose 13 = .ok (.iastore, 1) := by decide +kernel
theorem dX2_suppose_14 : decode cX2_suppose 14 = .ok (.iload_n 3, 1) := by decide +kernel
theorem dX2_suppose_15 : decode cX2_suppose 15 = .ok (.iconst 1, 1) := by decide +kernel
theorem dX2_suppose_16 : decode cX2_suppose 16 = .ok (.invokestatic 143, 3) := by decide +kernel
theorem dX2_suppose_19 : decode cX2_suppose 19 = .ok (.ifCond .ne 58, 3) := by decide +kernel
theorem dX2_suppose_22 : decode cX2_suppose 22 = .ok (.aload_n 0, 1) := by decide +kernel
theorem dX2_suppose_23 : decode cX2_suppose 23 = .ok (.getfield 12, 3) := by decide +kernel
theorem dX2_suppose_26 : decode cX2_suppose 26 = .ok (.iload_n 1, 1) := by decide +kernel
theorem dX2_suppose_27 : decode cX2_suppose 27 = .ok (.invokevirtual 147, 3) := by decide +kernel
theorem dX2_suppose_30 : decode cX2_suppose 30 = .ok (.goto 47, 3) := by decide +kernel
theorem dX2_suppose_33 : decode cX2_suppose 33 = .ok (.iload_n 2, 1) := by decide +kernel
theorem dX2_suppose_34 : decode cX2_suppose 34 = .ok (.iconst 1, 1) := by decide +kernel
theorem dX2_suppose_35 : decode cX2_suppose 35 = .ok (.if_icmp .ne 16, 3) := by decide +kernel
theorem dX2_suppose_38 : decode cX2_suppose 38 = .ok (.aload_n 0, 1) := by decide +kernel
theorem dX2_suppose_39 : decode cX2_suppose 39 = .ok (.getfield 12, 3) := by decide +kernel
theorem dX2_suppose_42 : decode cX2_suppose 42 = .ok (.getfield 150, 3) := by decide +kernel
theorem dX2_suppose_45 : decode cX2_suppose 45 = .ok (.iload_n 1, 1) := by decide +kernel
theorem dX2_suppose_46 : decode cX2_suppose 46 = .ok (.iload_n 3, 1) := by decide +kernel
theorem dX2_suppose_47 : decode cX2_suppose 47 = .ok (.iastore, 1) := by decide +kernel
theorem dX2_suppose_48 : decode cX2_suppose 48 = .ok (.goto 29, 3) := by decide +kernel
theorem dX2_suppose_51 : decode cX2_suppose 51 = .ok (.iload_n 2, 1) := by decide +kernel
theorem dX2_suppose_52 : decode cX2_suppose 52 = .ok (.iconst 2, 1) := by decide +kernel
theorem dX2_suppose_53 : decode cX2_suppose 53 = .ok (.if_icmp .ne 16, 3) := by decide +kernel
theorem dX2_suppose_56 : decode cX2_suppose 56 = .ok (.aload_n 0, 1) := by decide +kernel
theorem dX2_suppose_57 : decode cX2_suppose 57 = .ok (.getfield 12, 3) := by decide +kernel
theorem dX2_suppose_60 : decode cX2_suppose 60 = .ok (.getfield 153, 3) := by decide +kernel
theorem dX2_suppose_63 : decode cX2_suppose 63 = .ok (.iload_n 1, 1) := by decide +kernel
theorem dX2_suppose_64 : decode cX2_suppose 64 = .ok (.iload_n 3, 1) := by decide +kernel
theorem dX2_suppose_65 : decode cX2_suppose 65 = .ok (.iastore, 1) := by decide +kernel
theorem dX2_suppose_66 : decode cX2_suppose 66 = .ok (.goto 11, 3) := by decide +kernel
theorem dX2_suppose_69 : decode cX2_suppose 69 = .ok (.aload_n 0, 1) := by decide +kernel
theorem dX2_suppose_70 : decode cX2_suppose 70 = .ok (.getfield 12, 3) := by decide +kernel
theorem dX2_suppose_73 : decode cX2_suppose 73 = .ok (.iload_n 3, 1) := by decide +kernel
theorem dX2_suppose_74 : decode cX2_suppose 74 = .ok (.putfield 156, 3) := by decide +kernel
theorem dX2_suppose_77 : decode cX2_suppose 77 = .ok (.return_, 1) := by decide +kernel
theorem dX2_burnsAsTold_0 : decode cX2_burnsAsTold 0 = .ok (.iconst 0, 1) := by decide +kernel
theorem dX2_burnsAsTold_1 : decode cX2_burnsAsTold 1 = .ok (.istore 5, 2) := by decide +kernel
theorem dX2_burnsAsTold_3 : decode cX2_burnsAsTold 3 = .ok (.iload 5, 2) := by decide +kernel
theorem dX2_burnsAsTold_5 : decode cX2_burnsAsTold 5 = .ok (.iload 4, 2) := by decide +kernel
theorem dX2_burnsAsTold_7 : decode cX2_burnsAsTold 7 = .ok (.if_icmp .ge 39, 3) := by decide +kernel
theorem dX2_burnsAsTold_10 : decode cX2_burnsAsTold 10 = .ok (.aload_n 0, 1) := by decide +kernel
theorem dX2_burnsAsTold_11 : decode cX2_burnsAsTold 11 = .ok (.getfield 12, 3) := by decide +kernel
theorem dX2_burnsAsTold_14 : decode cX2_burnsAsTold 14 = .ok (.invokevirtual 34, 3) := by decide +kernel
theorem dX2_burnsAsTold_17 : decode cX2_burnsAsTold 17 = .ok (.aload_n 0, 1) := by decide +kernel
theorem dX2_burnsAsTold_18 : decode cX2_burnsAsTold 18 = .ok (.getfield 12, 3) := by decide +kernel
theorem dX2_burnsAsTold_21 : decode cX2_burnsAsTold 21 = .ok (.getfield 153, 3) := by decide +kernel
theorem dX2_burnsAsTold_24 : decode cX2_burnsAsTold 24 = .ok (.iload_n 1, 1) := by decide +kernel
theorem dX2_burnsAsTold_25 : decode cX2_burnsAsTold 25 = .ok (.iaload, 1) := by decide +kernel
theorem dX2_burnsAsTold_26 : decode cX2_burnsAsTold 26 = .ok (.aload_n 2, 1) := by decide +kernel
theorem dX2_burnsAsTold_27 : decode cX2_burnsAsTold 27 = .ok (.getfield 159, 3) := by decide +kernel
theorem dX2_burnsAsTold_30 : decode cX2_burnsAsTold 30 = .ok (.iload_n 3, 1) := by decide +kernel
theorem dX2_burnsAsTold_31 : decode cX2_burnsAsTold 31 = .ok (.iload 5, 2) := by decide +kernel
theorem dX2_burnsAsTold_33 : decode cX2_burnsAsTold 33 = .ok (.iadd, 1) := by decide +kernel
theorem dX2_burnsAsTold_34 : decode cX2_burnsAsTold 34 = .ok (.iaload, 1) := by decide +kernel
theorem dX2_burnsAsTold_35 : decode cX2_burnsAsTold 35 = .ok (.if_icmp .eq 5, 3) := by decide +kernel
theorem dX2_burnsAsTold_38 : decode cX2_burnsAsTold 38 = .ok (.iconst 0, 1) := by decide +kernel
theorem dX2_burnsAsTold_39 : decode cX2_burnsAsTold 39 = .ok (.ireturn, 1) := by decide +kernel
theorem dX2_burnsAsTold_40 : decode cX2_burnsAsTold 40 = .ok (.iinc 5 1, 3) := by decide +kernel
theorem dX2_burnsAsTold_43 : decode cX2_burnsAsTold 43 = .ok (.goto (-40), 3) := by decide +kernel
theorem dX2_burnsAsTold_46 : decode cX2_burnsAsTold 46 = .ok (.iconst 1, 1) := by decide +kernel
theorem dX2_burnsAsTold_47 : decode cX2_burnsAsTold 47 = .ok (.ireturn, 1) := by decide +kernel
theorem dX2_power_0 : decode cX2_power 0 = .ok (.iconst 1, 1) := by decide +kernel
theorem dX2_power_1 : decode cX2_power 1 = .ok (.istore_n 2, 1) := by decide +kernel
theorem dX2_power_2 : decode cX2_power 2 = .ok (.iconst 0, 1) := by decide +kernel
theorem dX2_power_3 : decode cX2_power 3 = .ok (.istore_n 3, 1) := by decide +kernel
theorem dX2_power_4 : decode cX2_power 4 = .ok (.iload_n 3, 1) := by decide +kernel
theorem dX2_power_5 : decode cX2_power 5 = .ok (.iload_n 1, 1) := by decide +kernel
theorem dX2_power_6 : decode cX2_power 6 = .ok (.if_icmp .ge 13, 3) := by decide +kernel
theorem dX2_power_9 : decode cX2_power 9 = .ok (.iload_n 2, 1) := by decide +kernel
theorem dX2_power_10 : decode cX2_power 10 = .ok (.iload_n 0, 1) := by decide +kernel
theorem dX2_power_11 : decode cX2_power 11 = .ok (.imul, 1) := by decide +kernel
theorem dX2_power_12 : decode cX2_power 12 = .ok (.istore_n 2, 1) := by decide +kernel
theorem dX2_power_13 : decode cX2_power 13 = .ok (.iinc 3 1, 3) := by decide +kernel
theorem dX2_power_16 : decode cX2_power 16 = .ok (.goto (-12), 3) := by decide +kernel
theorem dX2_power_19 : decode cX2_power 19 = .ok (.iload_n 2, 1) := by decide +kernel
theorem dX2_power_20 : decode cX2_power 20 = .ok (.ireturn, 1) := by decide +kernel
theorem dX2_greatestDivisor_0 : decode cX2_greatestDivisor 0 = .ok (.iload_n 0, 1) := by decide +kernel
theorem dX2_greatestDivisor_1 : decode cX2_greatestDivisor 1 = .ok (.istore_n 2, 1) := by decide +kernel
theorem dX2_greatestDivisor_2 : decode cX2_greatestDivisor 2 = .ok (.iload_n 1, 1) := by decide +kernel
theorem dX2_greatestDivisor_3 : decode cX2_greatestDivisor 3 = .ok (.istore_n 3, 1) := by decide +kernel
theorem dX2_greatestDivisor_4 : decode cX2_greatestDivisor 4 = .ok (.iconst 0, 1) := by decide +kernel
theorem dX2_greatestDivisor_5 : decode cX2_greatestDivisor 5 = .ok (.istore 4, 2) := by decide +kernel
theorem dX2_greatestDivisor_7 : decode cX2_greatestDivisor 7 = .ok (.iload 4, 2) := by decide +kernel
theorem dX2_greatestDivisor_9 : decode cX2_greatestDivisor 9 = .ok (.bipush 64, 2) := by decide +kernel
theorem dX2_greatestDivisor_11 : decode cX2_greatestDivisor 11 = .ok (.if_icmp .ge 23, 3) := by decide +kernel
theorem dX2_greatestDivisor_14 : decode cX2_greatestDivisor 14 = .ok (.iload_n 3, 1) := by decide +kernel
theorem dX2_greatestDivisor_15 : decode cX2_greatestDivisor 15 = .ok (.ifCond .eq 19, 3) := by decide +kernel
theorem dX2_greatestDivisor_18 : decode cX2_greatestDivisor 18 = .ok (.iload_n 2, 1) := by decide +kernel
theorem dX2_greatestDivisor_19 : decode cX2_greatestDivisor 19 = .ok (.iload_n 3, 1) := by decide +kernel
theorem dX2_greatestDivisor_20 : decode cX2_greatestDivisor 20 = .ok (.irem, 1) := by decide +kernel
theorem dX2_greatestDivisor_21 : decode cX2_greatestDivisor 21 = .ok (.istore 5, 2) := by decide +kernel
theorem dX2_greatestDivisor_23 : decode cX2_greatestDivisor 23 = .ok (.iload_n 3, 1) := by decide +kernel
theorem dX2_greatestDivisor_24 : decode cX2_greatestDivisor 24 = .ok (.istore_n 2, 1) := by decide +kernel
theorem dX2_greatestDivisor_25 : decode cX2_greatestDivisor 25 = .ok (.iload 5, 2) := by decide +kernel
theorem dX2_greatestDivisor_27 : decode cX2_greatestDivisor 27 = .ok (.istore_n 3, 1) := by decide +kernel
theorem dX2_greatestDivisor_28 : decode cX2_greatestDivisor 28 = .ok (.iinc 4 1, 3) := by decide +kernel
theorem dX2_greatestDivisor_31 : decode cX2_greatestDivisor 31 = .ok (.goto (-24), 3) := by decide +kernel
theorem dX2_greatestDivisor_34 : decode cX2_greatestDivisor 34 = .ok (.iload_n 2, 1) := by decide +kernel
theorem dX2_greatestDivisor_35 : decode cX2_greatestDivisor 35 = .ok (.ireturn, 1) := by decide +kernel
theorem dX3_init_0 : decode cX3_init 0 = .ok (.aload_n 0, 1) := by decide +kernel
theorem dX3_init_1 : decode cX3_init 1 = .ok (.invokespecial 3, 3) := by decide +kernel
theorem dX3_init_4 : decode cX3_init 4 = .ok (.aload_n 0, 1) := by decide +kernel
theorem dX3_init_5 : decode cX3_init 5 = .ok (.iconst 0, 1) := by decide +kernel
theorem dX3_init_6 : decode cX3_init 6 = .ok (.putfield 9, 3) := by decide +kernel
theorem dX3_init_9 : decode cX3_init 9 = .ok (.aload_n 0, 1) := by decide +kernel
theorem dX3_init_10 : decode cX3_init 10 = .ok (.bipush 8, 2) := by decide +kernel
theorem dX3_init_12 : decode cX3_init 12 = .ok (.newarray .int, 2) := by decide +kernel
theorem dX3_init_14 : decode cX3_init 14 = .ok (.putfield 15, 3) := by decide +kernel
theorem dX3_init_17 : decode cX3_init 17 = .ok (.aload_n 0, 1) := by decide +kernel
theorem dX3_init_18 : decode cX3_init 18 = .ok (.bipush 8, 2) := by decide +kernel
theorem dX3_init_20 : decode cX3_init 20 = .ok (.newarray .int, 2) := by decide +kernel
theorem dX3_init_22 : decode cX3_init 22 = .ok (.putfield 19, 3) := by decide +kernel
theorem dX3_init_25 : decode cX3_init 25 = .ok (.aload_n 0, 1) := by decide +kernel
theorem dX3_init_26 : decode cX3_init 26 = .ok (.bipush 8, 2) := by decide +kernel
theorem dX3_init_28 : decode cX3_init 28 = .ok (.newarray .int, 2) := by decide +kernel
theorem dX3_init_30 : decode cX3_init 30 = .ok (.putfield 22, 3) := by decide +kernel
theorem dX3_init_33 : decode cX3_init 33 = .ok (.aload_n 0, 1) := by decide +kernel
theorem dX3_init_34 : decode cX3_init 34 = .ok (.bipush 8, 2) := by decide +kernel
theorem dX3_init_36 : decode cX3_init 36 = .ok (.newarray .int, 2) := by decide +kernel
theorem dX3_init_38 : decode cX3_init 38 = .ok (.putfield 25, 3) := by decide +kernel
theorem dX3_init_41 : decode cX3_init 41 = .ok (.aload_n 0, 1) := by decide +kernel
theorem dX3_init_42 : decode cX3_init 42 = .ok (.iconst 0, 1) := by decide +kernel
theorem dX3_init_43 : decode cX3_init 43 = .ok (.putfield 28, 3) := by decide +kernel
theorem dX3_init_46 : decode cX3_init 46 = .ok (.aload_n 0, 1) := by decide +kernel
theorem dX3_init_47 : decode cX3_init 47 = .ok (.iconst 0, 1) := by decide +kernel
theorem dX3_init_48 : decode cX3_init 48 = .ok (.putfield 31, 3) := by decide +kernel
theorem dX3_init_51 : decode cX3_init 51 = .ok (.aload_n 0, 1) := by decide +kernel
theorem dX3_init_52 : decode cX3_init 52 = .ok (.iconst 0, 1) := by decide +kernel
theorem dX3_init_53 : decode cX3_init 53 = .ok (.putfield 34, 3) := by decide +kernel
theorem dX3_init_56 : decode cX3_init 56 = .ok (.aload_n 0, 1) := by decide +kernel
theorem dX3_init_57 : decode cX3_init 57 = .ok (.iconst 0, 1) := by decide +kernel
theorem dX3_init_58 : decode cX3_init 58 = .ok (.putfield 37, 3) := by decide +kernel
theorem dX3_init_61 : decode cX3_init 61 = .ok (.aload_n 0, 1) := by decide +kernel
theorem dX3_init_62 : decode cX3_init 62 = .ok (.iconst 0, 1) := by decide +kernel
theorem dX3_init_63 : decode cX3_init 63 = .ok (.putfield 40, 3) := by decide +kernel
theorem dX3_init_66 : decode cX3_init 66 = .ok (.return_, 1) := by decide +kernel
theorem dX3_isNone_0 : decode cX3_isNone 0 = .ok (.aload_n 0, 1) := by decide +kernel
theorem dX3_isNone_1 : decode cX3_isNone 1 = .ok (.getfield 9, 3) := by decide +kernel
theorem dX3_isNone_4 : decode cX3_isNone 4 = .ok (.ifCond .ne 7, 3) := by decide +kernel
theorem dX3_isNone_7 : decode cX3_isNone 7 = .ok (.iconst 1, 1) := by decide +kernel
theorem dX3_isNone_8 : decode cX3_isNone 8 = .ok (.goto 4, 3) := by decide +kernel
theorem dX3_isNone_11 : decode cX3_isNone 11 = .ok (.iconst 0, 1) := by decide +kernel
theorem dX3_isNone_12 : decode cX3_isNone 12 = .ok (.ireturn, 1) := by decide +kernel
theorem dX3_begin_0 : decode cX3_begin 0 = .ok (.aload_n 0, 1) := by decide +kernel
theorem dX3_begin_1 : decode cX3_begin 1 = .ok (.iconst 0, 1) := by decide +kernel
theorem dX3_begin_2 : decode cX3_begin 2 = .ok (.putfield 9, 3) := by decide +kernel
theorem dX3_begin_5 : decode cX3_begin 5 = .ok (.aload_n 0, 1) := by decide +kernel
theorem dX3_begin_6 : decode cX3_begin 6 = .ok (.iconst 0, 1) := by decide +kernel
theorem dX3_begin_7 : decode cX3_begin 7 = .ok (.putfield 28, 3) := by decide +kernel
theorem dX3_begin_10 : decode cX3_begin 10 = .ok (.aload_n 0, 1) := by decide +kernel
theorem dX3_begin_11 : decode cX3_begin 11 = .ok (.iconst 0, 1) := by decide +kernel
theorem dX3_begin_12 : decode cX3_begin 12 = .ok (.putfield 31, 3) := by decide +kernel
theorem dX3_begin_15 : decode cX3_begin 15 = .ok (.aload_n 0, 1) := by decide +kernel
theorem dX3_begin_16 : decode cX3_begin 16 = .ok (.iload_n 1, 1) := by decide +kernel
theorem dX3_begin_17 : decode cX3_begin 17 = .ok (.putfield 34, 3) := by decide +kernel
theorem dX3_begin_20 : decode cX3_begin 20 = .ok (.aload_n 0, 1) := by decide +kernel
theorem dX3_begin_21 : decode cX3_begin 21 = .ok (.iconst 0, 1) := by decide +kernel
theorem dX3_begin_22 : decode cX3_begin 22 = .ok (.putfield 37, 3) := by decide +kernel
theorem dX3_begin_25 : decode cX3_begin 25 = .ok (.aload_n 0, 1) := by decide +kernel
theorem dX3_begin_26 : decode cX3_begin 26 = .ok (.iconst 0, 1) := by decide +kernel
theorem dX3_begin_27 : decode cX3_begin 27 = .ok (.putfield 40, 3) := by decide +kernel
theorem dX3_begin_30 : decode cX3_begin 30 = .ok (.return_, 1) := by decide +kernel
theorem dX3_layThing_0 : decode cX3_layThing 0 = .ok (.aload_n 0, 1) := by decide +kernel
theorem dX3_layThing_1 : decode cX3_layThing 1 = .ok (.getfield 9, 3) := by decide +kernel
theorem dX3_layThing_4 : decode cX3_layThing 4 = .ok (.bipush 8, 2) := by decide +kernel
theorem dX3_layThing_6 : decode cX3_layThing 6 = .ok (.if_icmp .ge 56, 3) := by decide +kernel
theorem dX3_layThing_9 : decode cX3_layThing 9 = .ok (.aload_n 0, 1) := by decide +kernel
theorem dX3_layThing_10 : decode cX3_layThing 10 = .ok (.getfield 15, 3) := by decide +kernel
theorem dX3_layThing_13 : decode cX3_layThing 13 = .ok (.aload_n 0, 1) := by decide +kernel
theorem dX3_layThing_14 : decode cX3_layThing 14 = .ok (.getfield 9, 3) := by decide +kernel
theorem dX3_layThing_17 : decode cX3_layThing 17 = .ok (.iload_n 1, 1) := by decide +kernel
theorem dX3_layThing_18 : decode cX3_layThing 18 = .ok (.iastore, 1) := by decide +kernel
theorem dX3_layThing_19 : decode cX3_layThing 19 = .ok (.aload_n 0, 1) := by decide +kernel
theorem dX3_layThing_20 : decode cX3_layThing 20 = .ok (.getfield 19, 3) := by decide +kernel
theorem dX3_layThing_23 : decode cX3_layThing 23 = .ok (.aload_n 0, 1) := by decide +kernel
theorem dX3_layThing_24 : decode cX3_layThing 24 = .ok (.getfield 9, 3) := by decide +kernel
theorem dX3_layThing_27 : decode cX3_layThing 27 = .ok (.iload_n 2, 1) := by decide +kernel
theorem dX3_layThing_28 : decode cX3_layThing 28 = .ok (.iastore, 1) := by decide +kernel
theorem dX3_layThing_29 : decode cX3_layThing 29 = .ok (.aload_n 0, 1) := by decide +kernel
theorem dX3_layThing_30 : decode cX3_layThing 30 = .ok (.getfield 22, 3) := by decide +kernel
theorem dX3_layThing_33 : decode cX3_layThing 33 = .ok (.aload_n 0, 1) := by decide +kernel
theorem dX3_layThing_34 : decode cX3_layThing 34 = .ok (.getfield 9, 3) := by decide +kernel
theorem dX3_layThing_37 : decode cX3_layThing 37 = .ok (.iload_n 3, 1) := by decide +kernel
theorem dX3_layThing_38 : decode cX3_layThing 38 = .ok (.iastore, 1) := by decide +kernel
theorem dX3_layThing_39 : decode cX3_layThing 39 = .ok (.aload_n 0, 1) := by decide +kernel
theorem dX3_layThing_40 : decode cX3_layThing 40 = .ok (.getfield 25, 3) := by decide +kernel
theorem dX3_layThing_43 : decode cX3_layThing 43 = .ok (.aload_n 0, 1) := by decide +kernel
theorem dX3_layThing_44 : decode cX3_layThing 44 = .ok (.getfield 9, 3) := by decide +kernel
theorem dX3_layThing_47 : decode cX3_layThing 47 = .ok (.aload_n 0, 1) := by decide +kernel
theorem dX3_layThing_48 : decode cX3_layThing 48 = .ok (.getfield 9, 3) := by decide +kernel
theorem dX3_layThing_51 : decode cX3_layThing 51 = .ok (.iastore, 1) := by decide +kernel
theorem dX3_layThing_52 : decode cX3_layThing 52 = .ok (.aload_n 0, 1) := by decide +kernel
theorem dX3_layThing_53 : decode cX3_layThing 53 = .ok (.dup, 1) := by decide +kernel
theorem dX3_layThing_54 : decode cX3_layThing 54 = .ok (.getfield 9, 3) := by decide +kernel
theorem dX3_layThing_57 : decode cX3_layThing 57 = .ok (.iconst 1, 1) := by decide +kernel
theorem dX3_layThing_58 : decode cX3_layThing 58 = .ok (.iadd, 1) := by decide +kernel
theorem dX3_layThing_59 : decode cX3_layThing 59 = .ok (.putfield 9, 3) := by decide +kernel
theorem dX3_layThing_62 : decode cX3_layThing 62 = .ok (.return_, 1) := by decide +kernel
theorem dX3_takeFrom_0 : decode cX3_takeFrom 0 = .ok (.aload_n 0, 1) := by decide +kernel
theorem dX3_takeFrom_1 : decode cX3_takeFrom 1 = .ok (.aload_n 1, 1) := by decide +kernel
theorem dX3_takeFrom_2 : decode cX3_takeFrom 2 = .ok (.getfield 9, 3) := by decide +kernel
theorem dX3_takeFrom_5 : decode cX3_takeFrom 5 = .ok (.putfield 9, 3) := by decide +kernel
theorem dX3_takeFrom_8 : decode cX3_takeFrom 8 = .ok (.aload_n 1, 1) := by decide +kernel
theorem dX3_takeFrom_9 : decode cX3_takeFrom 9 = .ok (.getfield 15, 3) := by decide +kernel
theorem dX3_takeFrom_12 : decode cX3_takeFrom 12 = .ok (.iconst 0, 1) := by decide +kernel
theorem dX3_takeFrom_13 : decode cX3_takeFrom 13 = .ok (.aload_n 0, 1) := by decide +kernel
theorem dX3_takeFrom_14 : decode cX3_takeFrom 14 = .ok (.getfield 15, 3) := by decide +kernel
theorem dX3_takeFrom_17 : decode cX3_takeFrom 17 = .ok (.iconst 0, 1) := by decide +kernel
theorem dX3_takeFrom_18 : decode cX3_takeFrom 18 = .ok (.bipush 8, 2) := by decide +kernel
theorem dX3_takeFrom_20 : decode cX3_takeFrom 20 = .ok (.invokestatic 43, 3) := by decide +kernel
theorem dX3_takeFrom_23 : decode cX3_takeFrom 23 = .ok (.aload_n 1, 1) := by decide +kernel
theorem dX3_takeFrom_24 : decode cX3_takeFrom 24 = .ok (.getfield 19, 3) := by decide +kernel
theorem dX3_takeFrom_27 : decode cX3_takeFrom 27 = .ok (.iconst 0, 1) := by decide +kernel
theorem dX3_takeFrom_28 : decode cX3_takeFrom 28 = .ok (.aload_n 0, 1) := by decide +kernel
theorem dX3_takeFrom_29 : decode cX3_takeFrom 29 = .ok (.getfield 19, 3) := by decide +kernel
theorem dX3_takeFrom_32 : decode cX3_takeFrom 32 = .ok (.iconst 0, 1) := by decide +kernel
theorem dX3_takeFrom_33 : decode cX3_takeFrom 33 = .ok (.bipush 8, 2) := by decide +kernel
