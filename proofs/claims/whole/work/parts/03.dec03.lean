theorem dX7_copy_169 : decode cX7_copy 169 = .ok (.iload 4, 2) := by decide +kernel
theorem dX7_copy_171 : decode cX7_copy 171 = .ok (.iadd, 1) := by decide +kernel
theorem dX7_copy_172 : decode cX7_copy 172 = .ok (.iload 6, 2) := by decide +kernel
theorem dX7_copy_174 : decode cX7_copy 174 = .ok (.iadd, 1) := by decide +kernel
theorem dX7_copy_175 : decode cX7_copy 175 = .ok (.aload_n 0, 1) := by decide +kernel
theorem dX7_copy_176 : decode cX7_copy 176 = .ok (.getfield 22, 3) := by decide +kernel
theorem dX7_copy_179 : decode cX7_copy 179 = .ok (.iload 6, 2) := by decide +kernel
theorem dX7_copy_181 : decode cX7_copy 181 = .ok (.iaload, 1) := by decide +kernel
theorem dX7_copy_182 : decode cX7_copy 182 = .ok (.iastore, 1) := by decide +kernel
theorem dX7_copy_183 : decode cX7_copy 183 = .ok (.iinc 6 1, 3) := by decide +kernel
theorem dX7_copy_186 : decode cX7_copy 186 = .ok (.goto (-32), 3) := by decide +kernel
theorem dX7_copy_189 : decode cX7_copy 189 = .ok (.aload_n 0, 1) := by decide +kernel
theorem dX7_copy_190 : decode cX7_copy 190 = .ok (.iload 5, 2) := by decide +kernel
theorem dX7_copy_192 : decode cX7_copy 192 = .ok (.invokevirtual 72, 3) := by decide +kernel
theorem dX7_copy_195 : decode cX7_copy 195 = .ok (.ireturn, 1) := by decide +kernel
theorem dX7_drop_0 : decode cX7_drop 0 = .ok (.iload_n 1, 1) := by decide +kernel
theorem dX7_drop_1 : decode cX7_drop 1 = .ok (.invokestatic 61, 3) := by decide +kernel
theorem dX7_drop_4 : decode cX7_drop 4 = .ok (.ifCond .ne 6, 3) := by decide +kernel
theorem dX7_drop_7 : decode cX7_drop 7 = .ok (.ldc 67, 2) := by decide +kernel
theorem dX7_drop_9 : decode cX7_drop 9 = .ok (.ireturn, 1) := by decide +kernel
theorem dX7_drop_10 : decode cX7_drop 10 = .ok (.aload_n 0, 1) := by decide +kernel
theorem dX7_drop_11 : decode cX7_drop 11 = .ok (.getfield 13, 3) := by decide +kernel
theorem dX7_drop_14 : decode cX7_drop 14 = .ok (.iload_n 1, 1) := by decide +kernel
theorem dX7_drop_15 : decode cX7_drop 15 = .ok (.iaload, 1) := by decide +kernel
theorem dX7_drop_16 : decode cX7_drop 16 = .ok (.ifCond .ge 9, 3) := by decide +kernel
theorem dX7_drop_19 : decode cX7_drop 19 = .ok (.aload_n 0, 1) := by decide +kernel
theorem dX7_drop_20 : decode cX7_drop 20 = .ok (.iconst 1, 1) := by decide +kernel
theorem dX7_drop_21 : decode cX7_drop 21 = .ok (.invokevirtual 68, 3) := by decide +kernel
theorem dX7_drop_24 : decode cX7_drop 24 = .ok (.ireturn, 1) := by decide +kernel
theorem dX7_drop_25 : decode cX7_drop 25 = .ok (.aload_n 0, 1) := by decide +kernel
theorem dX7_drop_26 : decode cX7_drop 26 = .ok (.getfield 13, 3) := by decide +kernel
theorem dX7_drop_29 : decode cX7_drop 29 = .ok (.iload_n 1, 1) := by decide +kernel
theorem dX7_drop_30 : decode cX7_drop 30 = .ok (.iaload, 1) := by decide +kernel
theorem dX7_drop_31 : decode cX7_drop 31 = .ok (.istore_n 2, 1) := by decide +kernel
theorem dX7_drop_32 : decode cX7_drop 32 = .ok (.aload_n 0, 1) := by decide +kernel
theorem dX7_drop_33 : decode cX7_drop 33 = .ok (.getfield 13, 3) := by decide +kernel
theorem dX7_drop_36 : decode cX7_drop 36 = .ok (.iload_n 1, 1) := by decide +kernel
theorem dX7_drop_37 : decode cX7_drop 37 = .ok (.iconst (-1), 1) := by decide +kernel
theorem dX7_drop_38 : decode cX7_drop 38 = .ok (.iastore, 1) := by decide +kernel
theorem dX7_drop_39 : decode cX7_drop 39 = .ok (.aload_n 0, 1) := by decide +kernel
theorem dX7_drop_40 : decode cX7_drop 40 = .ok (.iload_n 2, 1) := by decide +kernel
theorem dX7_drop_41 : decode cX7_drop 41 = .ok (.invokevirtual 72, 3) := by decide +kernel
theorem dX7_drop_44 : decode cX7_drop 44 = .ok (.ireturn, 1) := by decide +kernel
theorem dX7_feed_0 : decode cX7_feed 0 = .ok (.iload_n 1, 1) := by decide +kernel
theorem dX7_feed_1 : decode cX7_feed 1 = .ok (.i2l, 1) := by decide +kernel
theorem dX7_feed_2 : decode cX7_feed 2 = .ok (.lconst 0, 1) := by decide +kernel
theorem dX7_feed_3 : decode cX7_feed 3 = .ok (.ldc2_w 79, 3) := by decide +kernel
theorem dX7_feed_6 : decode cX7_feed 6 = .ok (.invokestatic 57, 3) := by decide +kernel
theorem dX7_feed_9 : decode cX7_feed 9 = .ok (.ifCond .ne 6, 3) := by decide +kernel
theorem dX7_feed_12 : decode cX7_feed 12 = .ok (.ldc 67, 2) := by decide +kernel
theorem dX7_feed_14 : decode cX7_feed 14 = .ok (.ireturn, 1) := by decide +kernel
theorem dX7_feed_15 : decode cX7_feed 15 = .ok (.aload_n 0, 1) := by decide +kernel
theorem dX7_feed_16 : decode cX7_feed 16 = .ok (.getfield 81, 3) := by decide +kernel
theorem dX7_feed_19 : decode cX7_feed 19 = .ok (.bipush 90, 2) := by decide +kernel
theorem dX7_feed_21 : decode cX7_feed 21 = .ok (.if_icmp .ne 6, 3) := by decide +kernel
theorem dX7_feed_24 : decode cX7_feed 24 = .ok (.ldc 84, 2) := by decide +kernel
theorem dX7_feed_26 : decode cX7_feed 26 = .ok (.ireturn, 1) := by decide +kernel
theorem dX7_feed_27 : decode cX7_feed 27 = .ok (.aload_n 0, 1) := by decide +kernel
theorem dX7_feed_28 : decode cX7_feed 28 = .ok (.getfield 25, 3) := by decide +kernel
theorem dX7_feed_31 : decode cX7_feed 31 = .ok (.aload_n 0, 1) := by decide +kernel
theorem dX7_feed_32 : decode cX7_feed 32 = .ok (.getfield 81, 3) := by decide +kernel
theorem dX7_feed_35 : decode cX7_feed 35 = .ok (.iload_n 1, 1) := by decide +kernel
theorem dX7_feed_36 : decode cX7_feed 36 = .ok (.iastore, 1) := by decide +kernel
theorem dX7_feed_37 : decode cX7_feed 37 = .ok (.aload_n 0, 1) := by decide +kernel
theorem dX7_feed_38 : decode cX7_feed 38 = .ok (.dup, 1) := by decide +kernel
theorem dX7_feed_39 : decode cX7_feed 39 = .ok (.getfield 81, 3) := by decide +kernel
theorem dX7_feed_42 : decode cX7_feed 42 = .ok (.iconst 1, 1) := by decide +kernel
theorem dX7_feed_43 : decode cX7_feed 43 = .ok (.iadd, 1) := by decide +kernel
theorem dX7_feed_44 : decode cX7_feed 44 = .ok (.putfield 81, 3) := by decide +kernel
theorem dX7_feed_47 : decode cX7_feed 47 = .ok (.aload_n 0, 1) := by decide +kernel
theorem dX7_feed_48 : decode cX7_feed 48 = .ok (.getfield 81, 3) := by decide +kernel
theorem dX7_feed_51 : decode cX7_feed 51 = .ok (.ireturn, 1) := by decide +kernel
theorem dX7_nextToken_0 : decode cX7_nextToken 0 = .ok (.aload_n 0, 1) := by decide +kernel
theorem dX7_nextToken_1 : decode cX7_nextToken 1 = .ok (.aload_n 0, 1) := by decide +kernel
theorem dX7_nextToken_2 : decode cX7_nextToken 2 = .ok (.getfield 85, 3) := by decide +kernel
theorem dX7_nextToken_5 : decode cX7_nextToken 5 = .ok (.putfield 88, 3) := by decide +kernel
theorem dX7_nextToken_8 : decode cX7_nextToken 8 = .ok (.aload_n 0, 1) := by decide +kernel
theorem dX7_nextToken_9 : decode cX7_nextToken 9 = .ok (.aload_n 0, 1) := by decide +kernel
theorem dX7_nextToken_10 : decode cX7_nextToken 10 = .ok (.getfield 85, 3) := by decide +kernel
theorem dX7_nextToken_13 : decode cX7_nextToken 13 = .ok (.aload_n 0, 1) := by decide +kernel
theorem dX7_nextToken_14 : decode cX7_nextToken 14 = .ok (.getfield 81, 3) := by decide +kernel
theorem dX7_nextToken_17 : decode cX7_nextToken 17 = .ok (.if_icmp .ne 7, 3) := by decide +kernel
theorem dX7_nextToken_20 : decode cX7_nextToken 20 = .ok (.iconst 3, 1) := by decide +kernel
theorem dX7_nextToken_21 : decode cX7_nextToken 21 = .ok (.goto 4, 3) := by decide +kernel
theorem dX7_nextToken_24 : decode cX7_nextToken 24 = .ok (.iconst 0, 1) := by decide +kernel
theorem dX7_nextToken_25 : decode cX7_nextToken 25 = .ok (.putfield 91, 3) := by decide +kernel
theorem dX7_nextToken_28 : decode cX7_nextToken 28 = .ok (.aload_n 0, 1) := by decide +kernel
theorem dX7_nextToken_29 : decode cX7_nextToken 29 = .ok (.iconst 0, 1) := by decide +kernel
theorem dX7_nextToken_30 : decode cX7_nextToken 30 = .ok (.putfield 94, 3) := by decide +kernel
theorem dX7_nextToken_33 : decode cX7_nextToken 33 = .ok (.aload_n 0, 1) := by decide +kernel
theorem dX7_nextToken_34 : decode cX7_nextToken 34 = .ok (.getfield 85, 3) := by decide +kernel
theorem dX7_nextToken_37 : decode cX7_nextToken 37 = .ok (.aload_n 0, 1) := by decide +kernel
theorem dX7_nextToken_38 : decode cX7_nextToken 38 = .ok (.getfield 81, 3) := by decide +kernel
theorem dX7_nextToken_41 : decode cX7_nextToken 41 = .ok (.if_icmp .ge 78, 3) := by decide +kernel
theorem dX7_nextToken_44 : decode cX7_nextToken 44 = .ok (.aload_n 0, 1) := by decide +kernel
theorem dX7_nextToken_45 : decode cX7_nextToken 45 = .ok (.getfield 25, 3) := by decide +kernel
theorem dX7_nextToken_48 : decode cX7_nextToken 48 = .ok (.aload_n 0, 1) := by decide +kernel
theorem dX7_nextToken_49 : decode cX7_nextToken 49 = .ok (.getfield 85, 3) := by decide +kernel
theorem dX7_nextToken_52 : decode cX7_nextToken 52 = .ok (.iaload, 1) := by decide +kernel
theorem dX7_nextToken_53 : decode cX7_nextToken 53 = .ok (.i2l, 1) := by decide +kernel
theorem dX7_nextToken_54 : decode cX7_nextToken 54 = .ok (.ldc2_w 97, 3) := by decide +kernel
theorem dX7_nextToken_57 : decode cX7_nextToken 57 = .ok (.ldc2_w 99, 3) := by decide +kernel
theorem dX7_nextToken_60 : decode cX7_nextToken 60 = .ok (.invokestatic 57, 3) := by decide +kernel
theorem dX7_nextToken_63 : decode cX7_nextToken 63 = .ok (.ifCond .eq 56, 3) := by decide +kernel
theorem dX7_nextToken_66 : decode cX7_nextToken 66 = .ok (.aload_n 0, 1) := by decide +kernel
theorem dX7_nextToken_67 : decode cX7_nextToken 67 = .ok (.aload_n 0, 1) := by decide +kernel
theorem dX7_nextToken_68 : decode cX7_nextToken 68 = .ok (.getfield 94, 3) := by decide +kernel
theorem dX7_nextToken_71 : decode cX7_nextToken 71 = .ok (.bipush 99, 2) := by decide +kernel
theorem dX7_nextToken_73 : decode cX7_nextToken 73 = .ok (.if_icmp .le 10, 3) := by decide +kernel
theorem dX7_nextToken_76 : decode cX7_nextToken 76 = .ok (.aload_n 0, 1) := by decide +kernel
theorem dX7_nextToken_77 : decode cX7_nextToken 77 = .ok (.getfield 94, 3) := by decide +kernel
theorem dX7_nextToken_80 : decode cX7_nextToken 80 = .ok (.goto 23, 3) := by decide +kernel
theorem dX7_nextToken_83 : decode cX7_nextToken 83 = .ok (.bipush 10, 2) := by decide +kernel
theorem dX7_nextToken_85 : decode cX7_nextToken 85 = .ok (.aload_n 0, 1) := by decide +kernel
theorem dX7_nextToken_86 : decode cX7_nextToken 86 = .ok (.getfield 94, 3) := by decide +kernel
theorem dX7_nextToken_89 : decode cX7_nextToken 89 = .ok (.imul, 1) := by decide +kernel
theorem dX7_nextToken_90 : decode cX7_nextToken 90 = .ok (.aload_n 0, 1) := by decide +kernel
theorem dX7_nextToken_91 : decode cX7_nextToken 91 = .ok (.getfield 25, 3) := by decide +kernel
theorem dX7_nextToken_94 : decode cX7_nextToken 94 = .ok (.aload_n 0, 1) := by decide +kernel
theorem dX7_nextToken_95 : decode cX7_nextToken 95 = .ok (.getfield 85, 3) := by decide +kernel
theorem dX7_nextToken_98 : decode cX7_nextToken 98 = .ok (.iaload, 1) := by decide +kernel
theorem dX7_nextToken_99 : decode cX7_nextToken 99 = .ok (.iadd, 1) := by decide +kernel
theorem dX7_nextToken_100 : decode cX7_nextToken 100 = .ok (.bipush 48, 2) := by decide +kernel
theorem dX7_nextToken_102 : decode cX7_nextToken 102 = .ok (.isub, 1) := by decide +kernel
theorem dX7_nextToken_103 : decode cX7_nextToken 103 = .ok (.putfield 94, 3) := by decide +kernel
theorem dX7_nextToken_106 : decode cX7_nextToken 106 = .ok (.aload_n 0, 1) := by decide +kernel
theorem dX7_nextToken_107 : decode cX7_nextToken 107 = .ok (.dup, 1) := by decide +kernel
theorem dX7_nextToken_108 : decode cX7_nextToken 108 = .ok (.getfield 85, 3) := by decide +kernel
theorem dX7_nextToken_111 : decode cX7_nextToken 111 = .ok (.iconst 1, 1) := by decide +kernel
theorem dX7_nextToken_112 : decode cX7_nextToken 112 = .ok (.iadd, 1) := by decide +kernel
theorem dX7_nextToken_113 : decode cX7_nextToken 113 = .ok (.putfield 85, 3) := by decide +kernel
theorem dX7_nextToken_116 : decode cX7_nextToken 116 = .ok (.goto (-83), 3) := by decide +kernel
theorem dX7_nextToken_119 : decode cX7_nextToken 119 = .ok (.aload_n 0, 1) := by decide +kernel
theorem dX7_nextToken_120 : decode cX7_nextToken 120 = .ok (.getfield 85, 3) := by decide +kernel
theorem dX7_nextToken_123 : decode cX7_nextToken 123 = .ok (.aload_n 0, 1) := by decide +kernel
theorem dX7_nextToken_124 : decode cX7_nextToken 124 = .ok (.getfield 88, 3) := by decide +kernel
theorem dX7_nextToken_127 : decode cX7_nextToken 127 = .ok (.if_icmp .le 28, 3) := by decide +kernel
theorem dX7_nextToken_130 : decode cX7_nextToken 130 = .ok (.aload_n 0, 1) := by decide +kernel
theorem dX7_nextToken_131 : decode cX7_nextToken 131 = .ok (.aload_n 0, 1) := by decide +kernel
theorem dX7_nextToken_132 : decode cX7_nextToken 132 = .ok (.getfield 85, 3) := by decide +kernel
theorem dX7_nextToken_135 : decode cX7_nextToken 135 = .ok (.aload_n 0, 1) := by decide +kernel
theorem dX7_nextToken_136 : decode cX7_nextToken 136 = .ok (.getfield 88, 3) := by decide +kernel
theorem dX7_nextToken_139 : decode cX7_nextToken 139 = .ok (.isub, 1) := by decide +kernel
theorem dX7_nextToken_140 : decode cX7_nextToken 140 = .ok (.iconst 2, 1) := by decide +kernel
theorem dX7_nextToken_141 : decode cX7_nextToken 141 = .ok (.if_icmp .le 7, 3) := by decide +kernel
theorem dX7_nextToken_144 : decode cX7_nextToken 144 = .ok (.iconst 0, 1) := by decide +kernel
theorem dX7_nextToken_145 : decode cX7_nextToken 145 = .ok (.goto 4, 3) := by decide +kernel
theorem dX7_nextToken_148 : decode cX7_nextToken 148 = .ok (.iconst 2, 1) := by decide +kernel
theorem dX7_nextToken_149 : decode cX7_nextToken 149 = .ok (.putfield 91, 3) := by decide +kernel
theorem dX7_nextToken_152 : decode cX7_nextToken 152 = .ok (.goto 77, 3) := by decide +kernel
theorem dX7_nextToken_155 : decode cX7_nextToken 155 = .ok (.aload_n 0, 1) := by decide +kernel
theorem dX7_nextToken_156 : decode cX7_nextToken 156 = .ok (.getfield 91, 3) := by decide +kernel
theorem dX7_nextToken_159 : decode cX7_nextToken 159 = .ok (.ifCond .ne 70, 3) := by decide +kernel
theorem dX7_nextToken_162 : decode cX7_nextToken 162 = .ok (.aload_n 0, 1) := by decide +kernel
theorem dX7_nextToken_163 : decode cX7_nextToken 163 = .ok (.aload_n 0, 1) := by decide +kernel
theorem dX7_nextToken_164 : decode cX7_nextToken 164 = .ok (.getfield 25, 3) := by decide +kernel
theorem dX7_nextToken_167 : decode cX7_nextToken 167 = .ok (.aload_n 0, 1) := by decide +kernel
theorem dX7_nextToken_168 : decode cX7_nextToken 168 = .ok (.getfield 85, 3) := by decide +kernel
theorem dX7_nextToken_171 : decode cX7_nextToken 171 = .ok (.iaload, 1) := by decide +kernel
theorem dX7_nextToken_172 : decode cX7_nextToken 172 = .ok (.putfield 94, 3) := by decide +kernel
theorem dX7_nextToken_175 : decode cX7_nextToken 175 = .ok (.aload_n 0, 1) := by decide +kernel
theorem dX7_nextToken_176 : decode cX7_nextToken 176 = .ok (.aload_n 0, 1) := by decide +kernel
theorem dX7_nextToken_177 : decode cX7_nextToken 177 = .ok (.getfield 94, 3) := by decide +kernel
theorem dX7_nextToken_180 : decode cX7_nextToken 180 = .ok (.i2l, 1) := by decide +kernel
theorem dX7_nextToken_181 : decode cX7_nextToken 181 = .ok (.ldc2_w 101, 3) := by decide +kernel
theorem dX7_nextToken_184 : decode cX7_nextToken 184 = .ok (.ldc2_w 103, 3) := by decide +kernel
theorem dX7_nextToken_187 : decode cX7_nextToken 187 = .ok (.invokestatic 57, 3) := by decide +kernel
theorem dX7_nextToken_190 : decode cX7_nextToken 190 = .ok (.ifCond .ne 21, 3) := by decide +kernel
theorem dX7_nextToken_193 : decode cX7_nextToken 193 = .ok (.aload_n 0, 1) := by decide +kernel
theorem dX7_nextToken_194 : decode cX7_nextToken 194 = .ok (.getfield 94, 3) := by decide +kernel
theorem dX7_nextToken_197 : decode cX7_nextToken 197 = .ok (.bipush 44, 2) := by decide +kernel
theorem dX7_nextToken_199 : decode cX7_nextToken 199 = .ok (.if_icmp .eq 12, 3) := by decide +kernel
theorem dX7_nextToken_202 : decode cX7_nextToken 202 = .ok (.aload_n 0, 1) := by decide +kernel
theorem dX7_nextToken_203 : decode cX7_nextToken 203 = .ok (.getfield 94, 3) := by decide +kernel
theorem dX7_nextToken_206 : decode cX7_nextToken 206 = .ok (.bipush 59, 2) := by decide +kernel
theorem dX7_nextToken_208 : decode cX7_nextToken 208 = .ok (.if_icmp .ne 7, 3) := by decide +kernel
theorem dX7_nextToken_211 : decode cX7_nextToken 211 = .ok (.iconst 1, 1) := by decide +kernel
theorem dX7_nextToken_212 : decode cX7_nextToken 212 = .ok (.goto 4, 3) := by decide +kernel
theorem dX7_nextToken_215 : decode cX7_nextToken 215 = .ok (.iconst 0, 1) := by decide +kernel
theorem dX7_nextToken_216 : decode cX7_nextToken 216 = .ok (.putfield 91, 3) := by decide +kernel
theorem dX7_nextToken_219 : decode cX7_nextToken 219 = .ok (.aload_n 0, 1) := by decide +kernel
theorem dX7_nextToken_220 : decode cX7_nextToken 220 = .ok (.dup, 1) := by decide +kernel
theorem dX7_nextToken_221 : decode cX7_nextToken 221 = .ok (.getfield 85, 3) := by decide +kernel
theorem dX7_nextToken_224 : decode cX7_nextToken 224 = .ok (.iconst 1, 1) := by decide +kernel
theorem dX7_nextToken_225 : decode cX7_nextToken 225 = .ok (.iadd, 1) := by decide +kernel
theorem dX7_nextToken_226 : decode cX7_nextToken 226 = .ok (.putfield 85, 3) := by decide +kernel
theorem dX7_nextToken_229 : decode cX7_nextToken 229 = .ok (.return_, 1) := by decide +kernel
theorem dX7_faults_0 : decode cX7_faults 0 = .ok (.aload_n 0, 1) := by decide +kernel
theorem dX7_faults_1 : decode cX7_faults 1 = .ok (.iload_n 1, 1) := by decide +kernel
theorem dX7_faults_2 : decode cX7_faults 2 = .ok (.putfield 105, 3) := by decide +kernel
theorem dX7_faults_5 : decode cX7_faults 5 = .ok (.iconst 0, 1) := by decide +kernel
theorem dX7_faults_6 : decode cX7_faults 6 = .ok (.ireturn, 1) := by decide +kernel
theorem dX7_takes_0 : decode cX7_takes 0 = .ok (.aload_n 0, 1) := by decide +kernel
theorem dX7_takes_1 : decode cX7_takes 1 = .ok (.getfield 91, 3) := by decide +kernel
theorem dX7_takes_4 : decode cX7_takes 4 = .ok (.iconst 1, 1) := by decide +kernel
theorem dX7_takes_5 : decode cX7_takes 5 = .ok (.if_icmp .ne 11, 3) := by decide +kernel
theorem dX7_takes_8 : decode cX7_takes 8 = .ok (.aload_n 0, 1) := by decide +kernel
theorem dX7_takes_9 : decode cX7_takes 9 = .ok (.getfield 94, 3) := by decide +kernel
theorem dX7_takes_12 : decode cX7_takes 12 = .ok (.iload_n 1, 1) := by decide +kernel
theorem dX7_takes_13 : decode cX7_takes 13 = .ok (.if_icmp .eq 9, 3) := by decide +kernel
theorem dX7_takes_16 : decode cX7_takes 16 = .ok (.aload_n 0, 1) := by decide +kernel
theorem dX7_takes_17 : decode cX7_takes 17 = .ok (.iconst 1, 1) := by decide +kernel
theorem dX7_takes_18 : decode cX7_takes 18 = .ok (.invokevirtual 108, 3) := by decide +kernel
theorem dX7_takes_21 : decode cX7_takes 21 = .ok (.ireturn, 1) := by decide +kernel
theorem dX7_takes_22 : decode cX7_takes 22 = .ok (.aload_n 0, 1) := by decide +kernel
theorem dX7_takes_23 : decode cX7_takes 23 = .ok (.invokevirtual 111, 3) := by decide +kernel
theorem dX7_takes_26 : decode cX7_takes 26 = .ok (.iconst 1, 1) := by decide +kernel
theorem dX7_takes_27 : decode cX7_takes 27 = .ok (.ireturn, 1) := by decide +kernel
theorem dX7_takesNumber_0 : decode cX7_takesNumber 0 = .ok (.aload_n 0, 1) := by decide +kernel
theorem dX7_takesNumber_1 : decode cX7_takesNumber 1 = .ok (.getfield 91, 3) := by decide +kernel
theorem dX7_takesNumber_4 : decode cX7_takesNumber 4 = .ok (.iconst 2, 1) := by decide +kernel
theorem dX7_takesNumber_5 : decode cX7_takesNumber 5 = .ok (.if_icmp .ne 18, 3) := by decide +kernel
theorem dX7_takesNumber_8 : decode cX7_takesNumber 8 = .ok (.aload_n 0, 1) := by decide +kernel
theorem dX7_takesNumber_9 : decode cX7_takesNumber 9 = .ok (.getfield 94, 3) := by decide +kernel
theorem dX7_takesNumber_12 : decode cX7_takesNumber 12 = .ok (.i2l, 1) := by decide +kernel
theorem dX7_takesNumber_13 : decode cX7_takesNumber 13 = .ok (.iload_n 1, 1) := by decide +kernel
theorem dX7_takesNumber_14 : decode cX7_takesNumber 14 = .ok (.i2l, 1) := by decide +kernel
theorem dX7_takesNumber_15 : decode cX7_takesNumber 15 = .ok (.iload_n 2, 1) := by decide +kernel
theorem dX7_takesNumber_16 : decode cX7_takesNumber 16 = .ok (.i2l, 1) := by decide +kernel
theorem dX7_takesNumber_17 : decode cX7_takesNumber 17 = .ok (.invokestatic 57, 3) := by decide +kernel
theorem dX7_takesNumber_20 : decode cX7_takesNumber 20 = .ok (.ifCond .ne 21, 3) := by decide +kernel
theorem dX7_takesNumber_23 : decode cX7_takesNumber 23 = .ok (.aload_n 0, 1) := by decide +kernel
theorem dX7_takesNumber_24 : decode cX7_takesNumber 24 = .ok (.aload_n 0, 1) := by decide +kernel
theorem dX7_takesNumber_25 : decode cX7_takesNumber 25 = .ok (.getfield 91, 3) := by decide +kernel
theorem dX7_takesNumber_28 : decode cX7_takesNumber 28 = .ok (.iconst 2, 1) := by decide +kernel
theorem dX7_takesNumber_29 : decode cX7_takesNumber 29 = .ok (.if_icmp .ne 7, 3) := by decide +kernel
theorem dX7_takesNumber_32 : decode cX7_takesNumber 32 = .ok (.iconst 2, 1) := by decide +kernel
theorem dX7_takesNumber_33 : decode cX7_takesNumber 33 = .ok (.goto 4, 3) := by decide +kernel
theorem dX7_takesNumber_36 : decode cX7_takesNumber 36 = .ok (.iconst 1, 1) := by decide +kernel
theorem dX7_takesNumber_37 : decode cX7_takesNumber 37 = .ok (.invokevirtual 108, 3) := by decide +kernel
theorem dX7_takesNumber_40 : decode cX7_takesNumber 40 = .ok (.ireturn, 1) := by decide +kernel
theorem dX7_takesNumber_41 : decode cX7_takesNumber 41 = .ok (.aload_n 0, 1) := by decide +kernel
theorem dX7_takesNumber_42 : decode cX7_takesNumber 42 = .ok (.getfield 28, 3) := by decide +kernel
theorem dX7_takesNumber_45 : decode cX7_takesNumber 45 = .ok (.iload_n 3, 1) := by decide +kernel
theorem dX7_takesNumber_46 : decode cX7_takesNumber 46 = .ok (.aload_n 0, 1) := by decide +kernel
theorem dX7_takesNumber_47 : decode cX7_takesNumber 47 = .ok (.getfield 94, 3) := by decide +kernel
theorem dX7_takesNumber_50 : decode cX7_takesNumber 50 = .ok (.iastore, 1) := by decide +kernel
theorem dX7_takesNumber_51 : decode cX7_takesNumber 51 = .ok (.aload_n 0, 1) := by decide +kernel
theorem dX7_takesNumber_52 : decode cX7_takesNumber 52 = .ok (.invokevirtual 111, 3) := by decide +kernel
theorem dX7_takesNumber_55 : decode cX7_takesNumber 55 = .ok (.aload_n 0, 1) := by decide +kernel
theorem dX7_takesNumber_56 : decode cX7_takesNumber 56 = .ok (.iload 4, 2) := by decide +kernel
theorem dX7_takesNumber_58 : decode cX7_takesNumber 58 = .ok (.invokevirtual 114, 3) := by decide +kernel
theorem dX7_takesNumber_61 : decode cX7_takesNumber 61 = .ok (.ireturn, 1) := by decide +kernel
theorem dX7_kindBy_0 : decode cX7_kindBy 0 = .ok (.iload_n 0, 1) := by decide +kernel
theorem dX7_kindBy_1 : decode cX7_kindBy 1 = .ok (.bipush 115, 2) := by decide +kernel
theorem dX7_kindBy_3 : decode cX7_kindBy 3 = .ok (.if_icmp .ne 7, 3) := by decide +kernel
theorem dX7_kindBy_6 : decode cX7_kindBy 6 = .ok (.iconst 1, 1) := by decide +kernel
theorem dX7_kindBy_7 : decode cX7_kindBy 7 = .ok (.goto 44, 3) := by decide +kernel
theorem dX7_kindBy_10 : decode cX7_kindBy 10 = .ok (.iload_n 0, 1) := by decide +kernel
theorem dX7_kindBy_11 : decode cX7_kindBy 11 = .ok (.bipush 103, 2) := by decide +kernel
theorem dX7_kindBy_13 : decode cX7_kindBy 13 = .ok (.if_icmp .ne 7, 3) := by decide +kernel
theorem dX7_kindBy_16 : decode cX7_kindBy 16 = .ok (.iconst 2, 1) := by decide +kernel
theorem dX7_kindBy_17 : decode cX7_kindBy 17 = .ok (.goto 34, 3) := by decide +kernel
theorem dX7_kindBy_20 : decode cX7_kindBy 20 = .ok (.iload_n 0, 1) := by decide +kernel
theorem dX7_kindBy_21 : decode cX7_kindBy 21 = .ok (.bipush 108, 2) := by decide +kernel
theorem dX7_kindBy_23 : decode cX7_kindBy 23 = .ok (.if_icmp .ne 7, 3) := by decide +kernel
theorem dX7_kindBy_26 : decode cX7_kindBy 26 = .ok (.iconst 3, 1) := by decide +kernel
theorem dX7_kindBy_27 : decode cX7_kindBy 27 = .ok (.goto 24, 3) := by decide +kernel
theorem dX7_kindBy_30 : decode cX7_kindBy 30 = .ok (.iload_n 0, 1) := by decide +kernel
theorem dX7_kindBy_31 : decode cX7_kindBy 31 = .ok (.bipush 100, 2) := by decide +kernel
theorem dX7_kindBy_33 : decode cX7_kindBy 33 = .ok (.if_icmp .ne 7, 3) := by decide +kernel
theorem dX7_kindBy_36 : decode cX7_kindBy 36 = .ok (.iconst 4, 1) := by decide +kernel
theorem dX7_kindBy_37 : decode cX7_kindBy 37 = .ok (.goto 14, 3) := by decide +kernel
theorem dX7_kindBy_40 : decode cX7_kindBy 40 = .ok (.iload_n 0, 1) := by decide +kernel
theorem dX7_kindBy_41 : decode cX7_kindBy 41 = .ok (.bipush 105, 2) := by decide +kernel
theorem dX7_kindBy_43 : decode cX7_kindBy 43 = .ok (.if_icmp .ne 7, 3) := by decide +kernel
theorem dX7_kindBy_46 : decode cX7_kindBy 46 = .ok (.iconst 5, 1) := by decide +kernel
theorem dX7_kindBy_47 : decode cX7_kindBy 47 = .ok (.goto 4, 3) := by decide +kernel
theorem dX7_kindBy_50 : decode cX7_kindBy 50 = .ok (.iconst 0, 1) := by decide +kernel
theorem dX7_kindBy_51 : decode cX7_kindBy 51 = .ok (.ireturn, 1) := by decide +kernel
theorem dX7_readThing_0 : decode cX7_readThing 0 = .ok (.aload_n 0, 1) := by decide +kernel
theorem dX7_readThing_1 : decode cX7_readThing 1 = .ok (.getfield 28, 3) := by decide +kernel
theorem dX7_readThing_4 : decode cX7_readThing 4 = .ok (.iconst 0, 1) := by decide +kernel
theorem dX7_readThing_5 : decode cX7_readThing 5 = .ok (.iaload, 1) := by decide +kernel
theorem dX7_readThing_6 : decode cX7_readThing 6 = .ok (.istore_n 1, 1) := by decide +kernel
theorem dX7_readThing_7 : decode cX7_readThing 7 = .ok (.aload_n 0, 1) := by decide +kernel
theorem dX7_readThing_8 : decode cX7_readThing 8 = .ok (.getfield 91, 3) := by decide +kernel
theorem dX7_readThing_11 : decode cX7_readThing 11 = .ok (.iconst 1, 1) := by decide +kernel
theorem dX7_readThing_12 : decode cX7_readThing 12 = .ok (.if_icmp .ne 13, 3) := by decide +kernel
theorem dX7_readThing_15 : decode cX7_readThing 15 = .ok (.aload_n 0, 1) := by decide +kernel
theorem dX7_readThing_16 : decode cX7_readThing 16 = .ok (.getfield 94, 3) := by decide +kernel
theorem dX7_readThing_19 : decode cX7_readThing 19 = .ok (.invokestatic 117, 3) := by decide +kernel
theorem dX7_readThing_22 : decode cX7_readThing 22 = .ok (.goto 4, 3) := by decide +kernel
theorem dX7_readThing_25 : decode cX7_readThing 25 = .ok (.iconst 0, 1) := by decide +kernel
theorem dX7_readThing_26 : decode cX7_readThing 26 = .ok (.istore_n 2, 1) := by decide +kernel
theorem dX7_readThing_27 : decode cX7_readThing 27 = .ok (.iload_n 2, 1) := by decide +kernel
theorem dX7_readThing_28 : decode cX7_readThing 28 = .ok (.ifCond .eq 9, 3) := by decide +kernel
theorem dX7_readThing_31 : decode cX7_readThing 31 = .ok (.iload_n 1, 1) := by decide +kernel
theorem dX7_readThing_32 : decode cX7_readThing 32 = .ok (.bipush 8, 2) := by decide +kernel
theorem dX7_readThing_34 : decode cX7_readThing 34 = .ok (.if_icmp .ne 17, 3) := by decide +kernel
theorem dX7_readThing_37 : decode cX7_readThing 37 = .ok (.aload_n 0, 1) := by decide +kernel
theorem dX7_readThing_38 : decode cX7_readThing 38 = .ok (.iload_n 2, 1) := by decide +kernel
theorem dX7_readThing_39 : decode cX7_readThing 39 = .ok (.ifCond .ne 7, 3) := by decide +kernel
theorem dX7_readThing_42 : decode cX7_readThing 42 = .ok (.iconst 1, 1) := by decide +kernel
theorem dX7_readThing_43 : decode cX7_readThing 43 = .ok (.goto 4, 3) := by decide +kernel
theorem dX7_readThing_46 : decode cX7_readThing 46 = .ok (.iconst 3, 1) := by decide +kernel
theorem dX7_readThing_47 : decode cX7_readThing 47 = .ok (.invokevirtual 108, 3) := by decide +kernel
theorem dX7_readThing_50 : decode cX7_readThing 50 = .ok (.ireturn, 1) := by decide +kernel
theorem dX7_readThing_51 : decode cX7_readThing 51 = .ok (.aload_n 0, 1) := by decide +kernel
theorem dX7_readThing_52 : decode cX7_readThing 52 = .ok (.invokevirtual 111, 3) := by decide +kernel
theorem dX7_readThing_55 : decode cX7_readThing 55 = .ok (.aload_n 0, 1) := by decide +kernel
theorem dX7_readThing_56 : decode cX7_readThing 56 = .ok (.getfield 28, 3) := by decide +kernel
theorem dX7_readThing_59 : decode cX7_readThing 59 = .ok (.bipush 6, 2) := by decide +kernel
theorem dX7_readThing_61 : decode cX7_readThing 61 = .ok (.iload_n 1, 1) := by decide +kernel
theorem dX7_readThing_62 : decode cX7_readThing 62 = .ok (.iadd, 1) := by decide +kernel
theorem dX7_readThing_63 : decode cX7_readThing 63 = .ok (.iload_n 2, 1) := by decide +kernel
theorem dX7_readThing_64 : decode cX7_readThing 64 = .ok (.iastore, 1) := by decide +kernel
theorem dX7_readThing_65 : decode cX7_readThing 65 = .ok (.aload_n 0, 1) := by decide +kernel
theorem dX7_readThing_66 : decode cX7_readThing 66 = .ok (.getfield 28, 3) := by decide +kernel
theorem dX7_readThing_69 : decode cX7_readThing 69 = .ok (.bipush 30, 2) := by decide +kernel
theorem dX7_readThing_71 : decode cX7_readThing 71 = .ok (.iload_n 1, 1) := by decide +kernel
theorem dX7_readThing_72 : decode cX7_readThing 72 = .ok (.iadd, 1) := by decide +kernel
theorem dX7_readThing_73 : decode cX7_readThing 73 = .ok (.iload_n 1, 1) := by decide +kernel
theorem dX7_readThing_74 : decode cX7_readThing 74 = .ok (.iastore, 1) := by decide +kernel
theorem dX7_readThing_75 : decode cX7_readThing 75 = .ok (.aload_n 0, 1) := by decide +kernel
theorem dX7_readThing_76 : decode cX7_readThing 76 = .ok (.getfield 28, 3) := by decide +kernel
theorem dX7_readThing_79 : decode cX7_readThing 79 = .ok (.iconst 0, 1) := by decide +kernel
theorem dX7_readThing_80 : decode cX7_readThing 80 = .ok (.dup2, 1) := by decide +kernel
theorem dX7_readThing_81 : decode cX7_readThing 81 = .ok (.iaload, 1) := by decide +kernel
theorem dX7_readThing_82 : decode cX7_readThing 82 = .ok (.iconst 1, 1) := by decide +kernel
theorem dX7_readThing_83 : decode cX7_readThing 83 = .ok (.iadd, 1) := by decide +kernel
theorem dX7_readThing_84 : decode cX7_readThing 84 = .ok (.iastore, 1) := by decide +kernel
theorem dX7_readThing_85 : decode cX7_readThing 85 = .ok (.aload_n 0, 1) := by decide +kernel
theorem dX7_readThing_86 : decode cX7_readThing 86 = .ok (.iconst 1, 1) := by decide +kernel
theorem dX7_readThing_87 : decode cX7_readThing 87 = .ok (.bipush 30, 2) := by decide +kernel
theorem dX7_readThing_89 : decode cX7_readThing 89 = .ok (.bipush 14, 2) := by decide +kernel
theorem dX7_readThing_91 : decode cX7_readThing 91 = .ok (.iload_n 1, 1) := by decide +kernel
theorem dX7_readThing_92 : decode cX7_readThing 92 = .ok (.iadd, 1) := by decide +kernel
theorem dX7_readThing_93 : decode cX7_readThing 93 = .ok (.bipush 44, 2) := by decide +kernel
theorem dX7_readThing_95 : decode cX7_readThing 95 = .ok (.invokevirtual 120, 3) := by decide +kernel
theorem dX7_readThing_98 : decode cX7_readThing 98 = .ok (.ifCond .eq 23, 3) := by decide +kernel
theorem dX7_readThing_101 : decode cX7_readThing 101 = .ok (.aload_n 0, 1) := by decide +kernel
theorem dX7_readThing_102 : decode cX7_readThing 102 = .ok (.iconst 0, 1) := by decide +kernel
theorem dX7_readThing_103 : decode cX7_readThing 103 = .ok (.bipush 20, 2) := by decide +kernel
theorem dX7_readThing_105 : decode cX7_readThing 105 = .ok (.bipush 22, 2) := by decide +kernel
theorem dX7_readThing_107 : decode cX7_readThing 107 = .ok (.iload_n 1, 1) := by decide +kernel
theorem dX7_readThing_108 : decode cX7_readThing 108 = .ok (.iadd, 1) := by decide +kernel
theorem dX7_readThing_109 : decode cX7_readThing 109 = .ok (.bipush 59, 2) := by decide +kernel
theorem dX7_readThing_111 : decode cX7_readThing 111 = .ok (.invokevirtual 120, 3) := by decide +kernel
theorem dX7_readThing_114 : decode cX7_readThing 114 = .ok (.ifCond .eq 7, 3) := by decide +kernel
theorem dX7_readThing_117 : decode cX7_readThing 117 = .ok (.iconst 1, 1) := by decide +kernel
theorem dX7_readThing_118 : decode cX7_readThing 118 = .ok (.goto 4, 3) := by decide +kernel
theorem dX7_readThing_121 : decode cX7_readThing 121 = .ok (.iconst 0, 1) := by decide +kernel
theorem dX7_readThing_122 : decode cX7_readThing 122 = .ok (.ireturn, 1) := by decide +kernel
theorem dX7_readHeap_0 : decode cX7_readHeap 0 = .ok (.aload_n 0, 1) := by decide +kernel
theorem dX7_readHeap_1 : decode cX7_readHeap 1 = .ok (.iconst 0, 1) := by decide +kernel
theorem dX7_readHeap_2 : decode cX7_readHeap 2 = .ok (.putfield 85, 3) := by decide +kernel
theorem dX7_readHeap_5 : decode cX7_readHeap 5 = .ok (.iconst 0, 1) := by decide +kernel
theorem dX7_readHeap_6 : decode cX7_readHeap 6 = .ok (.istore_n 1, 1) := by decide +kernel
theorem dX7_readHeap_7 : decode cX7_readHeap 7 = .ok (.iload_n 1, 1) := by decide +kernel
theorem dX7_readHeap_8 : decode cX7_readHeap 8 = .ok (.bipush 38, 2) := by decide +kernel
theorem dX7_readHeap_10 : decode cX7_readHeap 10 = .ok (.if_icmp .ge 16, 3) := by decide +kernel
theorem dX7_readHeap_13 : decode cX7_readHeap 13 = .ok (.aload_n 0, 1) := by decide +kernel
theorem dX7_readHeap_14 : decode cX7_readHeap 14 = .ok (.getfield 28, 3) := by decide +kernel
theorem dX7_readHeap_17 : decode cX7_readHeap 17 = .ok (.iload_n 1, 1) := by decide +kernel
theorem dX7_readHeap_18 : decode cX7_readHeap 18 = .ok (.iconst 0, 1) := by decide +kernel
theorem dX7_readHeap_19 : decode cX7_readHeap 19 = .ok (.iastore, 1) := by decide +kernel
theorem dX7_readHeap_20 : decode cX7_readHeap 20 = .ok (.iinc 1 1, 3) := by decide +kernel
theorem dX7_readHeap_23 : decode cX7_readHeap 23 = .ok (.goto (-16), 3) := by decide +kernel
theorem dX7_readHeap_26 : decode cX7_readHeap 26 = .ok (.aload_n 0, 1) := by decide +kernel
theorem dX7_readHeap_27 : decode cX7_readHeap 27 = .ok (.invokevirtual 111, 3) := by decide +kernel
theorem dX7_readHeap_30 : decode cX7_readHeap 30 = .ok (.aload_n 0, 1) := by decide +kernel
theorem dX7_readHeap_31 : decode cX7_readHeap 31 = .ok (.bipush 98, 2) := by decide +kernel
theorem dX7_readHeap_33 : decode cX7_readHeap 33 = .ok (.invokevirtual 114, 3) := by decide +kernel
theorem dX7_readHeap_36 : decode cX7_readHeap 36 = .ok (.ifCond .eq 15, 3) := by decide +kernel
theorem dX7_readHeap_39 : decode cX7_readHeap 39 = .ok (.aload_n 0, 1) := by decide +kernel
theorem dX7_readHeap_40 : decode cX7_readHeap 40 = .ok (.iconst 0, 1) := by decide +kernel
theorem dX7_readHeap_41 : decode cX7_readHeap 41 = .ok (.iconst 1, 1) := by decide +kernel
theorem dX7_readHeap_42 : decode cX7_readHeap 42 = .ok (.iconst 2, 1) := by decide +kernel
theorem dX7_readHeap_43 : decode cX7_readHeap 43 = .ok (.bipush 59, 2) := by decide +kernel
theorem dX7_readHeap_45 : decode cX7_readHeap 45 = .ok (.invokevirtual 120, 3) := by decide +kernel
theorem dX7_readHeap_48 : decode cX7_readHeap 48 = .ok (.ifCond .ne 5, 3) := by decide +kernel
theorem dX7_readHeap_51 : decode cX7_readHeap 51 = .ok (.iconst 0, 1) := by decide +kernel
theorem dX7_readHeap_52 : decode cX7_readHeap 52 = .ok (.ireturn, 1) := by decide +kernel
theorem dX7_readHeap_53 : decode cX7_readHeap 53 = .ok (.iconst 1, 1) := by decide +kernel
theorem dX7_readHeap_54 : decode cX7_readHeap 54 = .ok (.istore_n 1, 1) := by decide +kernel
theorem dX7_readHeap_55 : decode cX7_readHeap 55 = .ok (.iload_n 1, 1) := by decide +kernel
theorem dX7_readHeap_56 : decode cX7_readHeap 56 = .ok (.ifCond .eq 28, 3) := by decide +kernel
theorem dX7_readHeap_59 : decode cX7_readHeap 59 = .ok (.aload_n 0, 1) := by decide +kernel
theorem dX7_readHeap_60 : decode cX7_readHeap 60 = .ok (.getfield 91, 3) := by decide +kernel
theorem dX7_readHeap_63 : decode cX7_readHeap 63 = .ok (.iconst 3, 1) := by decide +kernel
theorem dX7_readHeap_64 : decode cX7_readHeap 64 = .ok (.if_icmp .ne 12, 3) := by decide +kernel
theorem dX7_readHeap_67 : decode cX7_readHeap 67 = .ok (.aload_n 0, 1) := by decide +kernel
theorem dX7_readHeap_68 : decode cX7_readHeap 68 = .ok (.getfield 28, 3) := by decide +kernel
theorem dX7_readHeap_71 : decode cX7_readHeap 71 = .ok (.iconst 0, 1) := by decide +kernel
theorem dX7_readHeap_72 : decode cX7_readHeap 72 = .ok (.iaload, 1) := by decide +kernel
theorem dX7_readHeap_73 : decode cX7_readHeap 73 = .ok (.ifCond .ne 11, 3) := by decide +kernel
theorem dX7_readHeap_76 : decode cX7_readHeap 76 = .ok (.aload_n 0, 1) := by decide +kernel
theorem dX7_readHeap_77 : decode cX7_readHeap 77 = .ok (.invokevirtual 124, 3) := by decide +kernel
theorem dX7_readHeap_80 : decode cX7_readHeap 80 = .ok (.istore_n 1, 1) := by decide +kernel
theorem dX7_readHeap_81 : decode cX7_readHeap 81 = .ok (.goto (-26), 3) := by decide +kernel
theorem dX7_readHeap_84 : decode cX7_readHeap 84 = .ok (.iload_n 1, 1) := by decide +kernel
theorem dX7_readHeap_85 : decode cX7_readHeap 85 = .ok (.ireturn, 1) := by decide +kernel
theorem dX7_heap_0 : decode cX7_heap 0 = .ok (.aload_n 0, 1) := by decide +kernel
theorem dX7_heap_1 : decode cX7_heap 1 = .ok (.invokevirtual 128, 3) := by decide +kernel
theorem dX7_heap_4 : decode cX7_heap 4 = .ok (.istore_n 1, 1) := by decide +kernel
theorem dX7_heap_5 : decode cX7_heap 5 = .ok (.aload_n 0, 1) := by decide +kernel
theorem dX7_heap_6 : decode cX7_heap 6 = .ok (.iconst 0, 1) := by decide +kernel
theorem dX7_heap_7 : decode cX7_heap 7 = .ok (.putfield 81, 3) := by decide +kernel
theorem dX7_heap_10 : decode cX7_heap 10 = .ok (.iload_n 1, 1) := by decide +kernel
theorem dX7_heap_11 : decode cX7_heap 11 = .ok (.ifCond .ne 19, 3) := by decide +kernel
theorem dX7_heap_14 : decode cX7_heap 14 = .ok (.aload_n 0, 1) := by decide +kernel
theorem dX7_heap_15 : decode cX7_heap 15 = .ok (.aload_n 0, 1) := by decide +kernel
theorem dX7_heap_16 : decode cX7_heap 16 = .ok (.getfield 105, 3) := by decide +kernel
theorem dX7_heap_19 : decode cX7_heap 19 = .ok (.putfield 131, 3) := by decide +kernel
theorem dX7_heap_22 : decode cX7_heap 22 = .ok (.ldc 134, 2) := by decide +kernel
theorem dX7_heap_24 : decode cX7_heap 24 = .ok (.aload_n 0, 1) := by decide +kernel
theorem dX7_heap_25 : decode cX7_heap 25 = .ok (.getfield 88, 3) := by decide +kernel
theorem dX7_heap_28 : decode cX7_heap 28 = .ok (.isub, 1) := by decide +kernel
theorem dX7_heap_29 : decode cX7_heap 29 = .ok (.ireturn, 1) := by decide +kernel
theorem dX7_heap_30 : decode cX7_heap 30 = .ok (.iconst 0, 1) := by decide +kernel
theorem dX7_heap_31 : decode cX7_heap 31 = .ok (.istore_n 2, 1) := by decide +kernel
theorem dX7_heap_32 : decode cX7_heap 32 = .ok (.iload_n 2, 1) := by decide +kernel
theorem dX7_heap_33 : decode cX7_heap 33 = .ok (.bipush 38, 2) := by decide +kernel
theorem dX7_heap_35 : decode cX7_heap 35 = .ok (.if_icmp .ge 21, 3) := by decide +kernel
theorem dX7_heap_38 : decode cX7_heap 38 = .ok (.aload_n 0, 1) := by decide +kernel
theorem dX7_heap_39 : decode cX7_heap 39 = .ok (.getfield 19, 3) := by decide +kernel
theorem dX7_heap_42 : decode cX7_heap 42 = .ok (.iload_n 2, 1) := by decide +kernel
theorem dX7_heap_43 : decode cX7_heap 43 = .ok (.aload_n 0, 1) := by decide +kernel
theorem dX7_heap_44 : decode cX7_heap 44 = .ok (.getfield 28, 3) := by decide +kernel
theorem dX7_heap_47 : decode cX7_heap 47 = .ok (.iload_n 2, 1) := by decide +kernel
theorem dX7_heap_48 : decode cX7_heap 48 = .ok (.iaload, 1) := by decide +kernel
theorem dX7_heap_49 : decode cX7_heap 49 = .ok (.iastore, 1) := by decide +kernel
theorem dX7_heap_50 : decode cX7_heap 50 = .ok (.iinc 2 1, 3) := by decide +kernel
theorem dX7_heap_53 : decode cX7_heap 53 = .ok (.goto (-21), 3) := by decide +kernel
theorem dX7_heap_56 : decode cX7_heap 56 = .ok (.aload_n 0, 1) := by decide +kernel
theorem dX7_heap_57 : decode cX7_heap 57 = .ok (.iconst 1, 1) := by decide +kernel
theorem dX7_heap_58 : decode cX7_heap 58 = .ok (.putfield 135, 3) := by decide +kernel
theorem dX7_heap_61 : decode cX7_heap 61 = .ok (.aload_n 0, 1) := by decide +kernel
theorem dX7_heap_62 : decode cX7_heap 62 = .ok (.iconst 0, 1) := by decide +kernel
theorem dX7_heap_63 : decode cX7_heap 63 = .ok (.putfield 139, 3) := by decide +kernel
theorem dX7_heap_66 : decode cX7_heap 66 = .ok (.aload_n 0, 1) := by decide +kernel
theorem dX7_heap_67 : decode cX7_heap 67 = .ok (.getfield 19, 3) := by decide +kernel
theorem dX7_heap_70 : decode cX7_heap 70 = .ok (.iconst 0, 1) := by decide +kernel
theorem dX7_heap_71 : decode cX7_heap 71 = .ok (.iaload, 1) := by decide +kernel
theorem dX7_heap_72 : decode cX7_heap 72 = .ok (.ireturn, 1) := by decide +kernel
theorem dX7_fault_0 : decode cX7_fault 0 = .ok (.aload_n 0, 1) := by decide +kernel
theorem dX7_fault_1 : decode cX7_fault 1 = .ok (.getfield 131, 3) := by decide +kernel
theorem dX7_fault_4 : decode cX7_fault 4 = .ok (.ireturn, 1) := by decide +kernel
theorem dX7_isThing_0 : decode cX7_isThing 0 = .ok (.iload_n 1, 1) := by decide +kernel
theorem dX7_isThing_1 : decode cX7_isThing 1 = .ok (.i2l, 1) := by decide +kernel
theorem dX7_isThing_2 : decode cX7_isThing 2 = .ok (.lconst 0, 1) := by decide +kernel
theorem dX7_isThing_3 : decode cX7_isThing 3 = .ok (.aload_n 0, 1) := by decide +kernel
theorem dX7_isThing_4 : decode cX7_isThing 4 = .ok (.getfield 19, 3) := by decide +kernel
theorem dX7_isThing_7 : decode cX7_isThing 7 = .ok (.iconst 0, 1) := by decide +kernel
theorem dX7_isThing_8 : decode cX7_isThing 8 = .ok (.iaload, 1) := by decide +kernel
theorem dX7_isThing_9 : decode cX7_isThing 9 = .ok (.iconst 1, 1) := by decide +kernel
theorem dX7_isThing_10 : decode cX7_isThing 10 = .ok (.isub, 1) := by decide +kernel
theorem dX7_isThing_11 : decode cX7_isThing 11 = .ok (.i2l, 1) := by decide +kernel
theorem dX7_isThing_12 : decode cX7_isThing 12 = .ok (.invokestatic 57, 3) := by decide +kernel
theorem dX7_isThing_15 : decode cX7_isThing 15 = .ok (.ireturn, 1) := by decide +kernel
theorem dX7_thingIn_0 : decode cX7_thingIn 0 = .ok (.iconst 0, 1) := by decide +kernel
theorem dX7_thingIn_1 : decode cX7_thingIn 1 = .ok (.istore_n 2, 1) := by decide +kernel
theorem dX7_thingIn_2 : decode cX7_thingIn 2 = .ok (.iload_n 2, 1) := by decide +kernel
theorem dX7_thingIn_3 : decode cX7_thingIn 3 = .ok (.aload_n 0, 1) := by decide +kernel
theorem dX7_thingIn_4 : decode cX7_thingIn 4 = .ok (.getfield 19, 3) := by decide +kernel
theorem dX7_thingIn_7 : decode cX7_thingIn 7 = .ok (.iconst 0, 1) := by decide +kernel
theorem dX7_thingIn_8 : decode cX7_thingIn 8 = .ok (.iaload, 1) := by decide +kernel
theorem dX7_thingIn_9 : decode cX7_thingIn 9 = .ok (.if_icmp .ge 24, 3) := by decide +kernel
theorem dX7_thingIn_12 : decode cX7_thingIn 12 = .ok (.aload_n 0, 1) := by decide +kernel
theorem dX7_thingIn_13 : decode cX7_thingIn 13 = .ok (.getfield 19, 3) := by decide +kernel
theorem dX7_thingIn_16 : decode cX7_thingIn 16 = .ok (.bipush 30, 2) := by decide +kernel
theorem dX7_thingIn_18 : decode cX7_thingIn 18 = .ok (.iload_n 2, 1) := by decide +kernel
theorem dX7_thingIn_19 : decode cX7_thingIn 19 = .ok (.iadd, 1) := by decide +kernel
theorem dX7_thingIn_20 : decode cX7_thingIn 20 = .ok (.iaload, 1) := by decide +kernel
theorem dX7_thingIn_21 : decode cX7_thingIn 21 = .ok (.iload_n 1, 1) := by decide +kernel
theorem dX7_thingIn_22 : decode cX7_thingIn 22 = .ok (.if_icmp .ne 5, 3) := by decide +kernel
theorem dX7_thingIn_25 : decode cX7_thingIn 25 = .ok (.iload_n 2, 1) := by decide +kernel
theorem dX7_thingIn_26 : decode cX7_thingIn 26 = .ok (.ireturn, 1) := by decide +kernel
theorem dX7_thingIn_27 : decode cX7_thingIn 27 = .ok (.iinc 2 1, 3) := by decide +kernel
theorem dX7_thingIn_30 : decode cX7_thingIn 30 = .ok (.goto (-28), 3) := by decide +kernel
theorem dX7_thingIn_33 : decode cX7_thingIn 33 = .ok (.iconst (-1), 1) := by decide +kernel
theorem dX7_thingIn_34 : decode cX7_thingIn 34 = .ok (.ireturn, 1) := by decide +kernel
theorem dX7_isLitIn_0 : decode cX7_isLitIn 0 = .ok (.aload_n 0, 1) := by decide +kernel
theorem dX7_isLitIn_1 : decode cX7_isLitIn 1 = .ok (.iload_n 1, 1) := by decide +kernel
theorem dX7_isLitIn_2 : decode cX7_isLitIn 2 = .ok (.invokevirtual 142, 3) := by decide +kernel
theorem dX7_isLitIn_5 : decode cX7_isLitIn 5 = .ok (.istore_n 2, 1) := by decide +kernel
theorem dX7_isLitIn_6 : decode cX7_isLitIn 6 = .ok (.iload_n 2, 1) := by decide +kernel
theorem dX7_isLitIn_7 : decode cX7_isLitIn 7 = .ok (.ifCond .lt 20, 3) := by decide +kernel
theorem dX7_isLitIn_10 : decode cX7_isLitIn 10 = .ok (.aload_n 0, 1) := by decide +kernel
theorem dX7_isLitIn_11 : decode cX7_isLitIn 11 = .ok (.getfield 19, 3) := by decide +kernel
theorem dX7_isLitIn_14 : decode cX7_isLitIn 14 = .ok (.iconst 4, 1) := by decide +kernel
theorem dX7_isLitIn_15 : decode cX7_isLitIn 15 = .ok (.iaload, 1) := by decide +kernel
theorem dX7_isLitIn_16 : decode cX7_isLitIn 16 = .ok (.iload_n 2, 1) := by decide +kernel
theorem dX7_isLitIn_17 : decode cX7_isLitIn 17 = .ok (.invokestatic 145, 3) := by decide +kernel
theorem dX7_isLitIn_20 : decode cX7_isLitIn 20 = .ok (.ifCond .eq 7, 3) := by decide +kernel
theorem dX7_isLitIn_23 : decode cX7_isLitIn 23 = .ok (.iconst 1, 1) := by decide +kernel
theorem dX7_isLitIn_24 : decode cX7_isLitIn 24 = .ok (.goto 4, 3) := by decide +kernel
theorem dX7_isLitIn_27 : decode cX7_isLitIn 27 = .ok (.iconst 0, 1) := by decide +kernel
theorem dX7_isLitIn_28 : decode cX7_isLitIn 28 = .ok (.ireturn, 1) := by decide +kernel
theorem dX7_litBeside_0 : decode cX7_litBeside 0 = .ok (.aload_n 0, 1) := by decide +kernel
theorem dX7_litBeside_1 : decode cX7_litBeside 1 = .ok (.iload_n 1, 1) := by decide +kernel
theorem dX7_litBeside_2 : decode cX7_litBeside 2 = .ok (.iconst 1, 1) := by decide +kernel
theorem dX7_litBeside_3 : decode cX7_litBeside 3 = .ok (.isub, 1) := by decide +kernel
theorem dX7_litBeside_4 : decode cX7_litBeside 4 = .ok (.invokevirtual 149, 3) := by decide +kernel
theorem dX7_litBeside_7 : decode cX7_litBeside 7 = .ok (.ifCond .eq 7, 3) := by decide +kernel
theorem dX7_litBeside_10 : decode cX7_litBeside 10 = .ok (.iconst 1, 1) := by decide +kernel
theorem dX7_litBeside_11 : decode cX7_litBeside 11 = .ok (.goto 4, 3) := by decide +kernel
theorem dX7_litBeside_14 : decode cX7_litBeside 14 = .ok (.iconst 0, 1) := by decide +kernel
theorem dX7_litBeside_15 : decode cX7_litBeside 15 = .ok (.aload_n 0, 1) := by decide +kernel
theorem dX7_litBeside_16 : decode cX7_litBeside 16 = .ok (.iload_n 1, 1) := by decide +kernel
theorem dX7_litBeside_17 : decode cX7_litBeside 17 = .ok (.iconst 1, 1) := by decide +kernel
theorem dX7_litBeside_18 : decode cX7_litBeside 18 = .ok (.iadd, 1) := by decide +kernel
theorem dX7_litBeside_19 : decode cX7_litBeside 19 = .ok (.invokevirtual 149, 3) := by decide +kernel
theorem dX7_litBeside_22 : decode cX7_litBeside 22 = .ok (.ifCond .eq 7, 3) := by decide +kernel
theorem dX7_litBeside_25 : decode cX7_litBeside 25 = .ok (.iconst 1, 1) := by decide +kernel
theorem dX7_litBeside_26 : decode cX7_litBeside 26 = .ok (.goto 4, 3) := by decide +kernel
theorem dX7_litBeside_29 : decode cX7_litBeside 29 = .ok (.iconst 0, 1) := by decide +kernel
theorem dX7_litBeside_30 : decode cX7_litBeside 30 = .ok (.iadd, 1) := by decide +kernel
theorem dX7_litBeside_31 : decode cX7_litBeside 31 = .ok (.ireturn, 1) := by decide +kernel
theorem dX7_isHotIn_0 : decode cX7_isHotIn 0 = .ok (.aload_n 0, 1) := by decide +kernel
theorem dX7_isHotIn_1 : decode cX7_isHotIn 1 = .ok (.iload_n 1, 1) := by decide +kernel
theorem dX7_isHotIn_2 : decode cX7_isHotIn 2 = .ok (.invokevirtual 142, 3) := by decide +kernel
theorem dX7_isHotIn_5 : decode cX7_isHotIn 5 = .ok (.istore_n 2, 1) := by decide +kernel
theorem dX7_isHotIn_6 : decode cX7_isHotIn 6 = .ok (.iload_n 2, 1) := by decide +kernel
theorem dX7_isHotIn_7 : decode cX7_isHotIn 7 = .ok (.ifCond .lt 41, 3) := by decide +kernel
theorem dX7_isHotIn_10 : decode cX7_isHotIn 10 = .ok (.aload_n 0, 1) := by decide +kernel
theorem dX7_isHotIn_11 : decode cX7_isHotIn 11 = .ok (.getfield 19, 3) := by decide +kernel
theorem dX7_isHotIn_14 : decode cX7_isHotIn 14 = .ok (.bipush 6, 2) := by decide +kernel
theorem dX7_isHotIn_16 : decode cX7_isHotIn 16 = .ok (.iload_n 2, 1) := by decide +kernel
theorem dX7_isHotIn_17 : decode cX7_isHotIn 17 = .ok (.iadd, 1) := by decide +kernel
theorem dX7_isHotIn_18 : decode cX7_isHotIn 18 = .ok (.iaload, 1) := by decide +kernel
theorem dX7_isHotIn_19 : decode cX7_isHotIn 19 = .ok (.iconst 5, 1) := by decide +kernel
theorem dX7_isHotIn_20 : decode cX7_isHotIn 20 = .ok (.if_icmp .ne 28, 3) := by decide +kernel
theorem dX7_isHotIn_23 : decode cX7_isHotIn 23 = .ok (.aload_n 0, 1) := by decide +kernel
theorem dX7_isHotIn_24 : decode cX7_isHotIn 24 = .ok (.getfield 19, 3) := by decide +kernel
theorem dX7_isHotIn_27 : decode cX7_isHotIn 27 = .ok (.iconst 5, 1) := by decide +kernel
theorem dX7_isHotIn_28 : decode cX7_isHotIn 28 = .ok (.iaload, 1) := by decide +kernel
theorem dX7_isHotIn_29 : decode cX7_isHotIn 29 = .ok (.iload_n 2, 1) := by decide +kernel
theorem dX7_isHotIn_30 : decode cX7_isHotIn 30 = .ok (.invokestatic 145, 3) := by decide +kernel
theorem dX7_isHotIn_33 : decode cX7_isHotIn 33 = .ok (.ifCond .ne 15, 3) := by decide +kernel
theorem dX7_isHotIn_36 : decode cX7_isHotIn 36 = .ok (.aload_n 0, 1) := by decide +kernel
theorem dX7_isHotIn_37 : decode cX7_isHotIn 37 = .ok (.iload_n 1, 1) := by decide +kernel
theorem dX7_isHotIn_38 : decode cX7_isHotIn 38 = .ok (.invokevirtual 152, 3) := by decide +kernel
theorem dX7_isHotIn_41 : decode cX7_isHotIn 41 = .ok (.ifCond .le 7, 3) := by decide +kernel
theorem dX7_isHotIn_44 : decode cX7_isHotIn 44 = .ok (.iconst 1, 1) := by decide +kernel
theorem dX7_isHotIn_45 : decode cX7_isHotIn 45 = .ok (.goto 4, 3) := by decide +kernel
theorem dX7_isHotIn_48 : decode cX7_isHotIn 48 = .ok (.iconst 0, 1) := by decide +kernel
theorem dX7_isHotIn_49 : decode cX7_isHotIn 49 = .ok (.ireturn, 1) := by decide +kernel
theorem dX7_heatOf_0 : decode cX7_heatOf 0 = .ok (.aload_n 0, 1) := by decide +kernel
theorem dX7_heatOf_1 : decode cX7_heatOf 1 = .ok (.getfield 19, 3) := by decide +kernel
theorem dX7_heatOf_4 : decode cX7_heatOf 4 = .ok (.bipush 30, 2) := by decide +kernel
theorem dX7_heatOf_6 : decode cX7_heatOf 6 = .ok (.iload_n 1, 1) := by decide +kernel
theorem dX7_heatOf_7 : decode cX7_heatOf 7 = .ok (.iadd, 1) := by decide +kernel
theorem dX7_heatOf_8 : decode cX7_heatOf 8 = .ok (.iaload, 1) := by decide +kernel
theorem dX7_heatOf_9 : decode cX7_heatOf 9 = .ok (.istore_n 2, 1) := by decide +kernel
theorem dX7_heatOf_10 : decode cX7_heatOf 10 = .ok (.aload_n 0, 1) := by decide +kernel
theorem dX7_heatOf_11 : decode cX7_heatOf 11 = .ok (.getfield 19, 3) := by decide +kernel
theorem dX7_heatOf_14 : decode cX7_heatOf 14 = .ok (.iconst 2, 1) := by decide +kernel
theorem dX7_heatOf_15 : decode cX7_heatOf 15 = .ok (.iaload, 1) := by decide +kernel
theorem dX7_heatOf_16 : decode cX7_heatOf 16 = .ok (.iconst 1, 1) := by decide +kernel
theorem dX7_heatOf_17 : decode cX7_heatOf 17 = .ok (.if_icmp .ne 9, 3) := by decide +kernel
theorem dX7_heatOf_20 : decode cX7_heatOf 20 = .ok (.iload_n 2, 1) := by decide +kernel
theorem dX7_heatOf_21 : decode cX7_heatOf 21 = .ok (.iconst 2, 1) := by decide +kernel
theorem dX7_heatOf_22 : decode cX7_heatOf 22 = .ok (.isub, 1) := by decide +kernel
theorem dX7_heatOf_23 : decode cX7_heatOf 23 = .ok (.goto 6, 3) := by decide +kernel
theorem dX7_heatOf_26 : decode cX7_heatOf 26 = .ok (.iload_n 2, 1) := by decide +kernel
theorem dX7_heatOf_27 : decode cX7_heatOf 27 = .ok (.iconst 2, 1) := by decide +kernel
theorem dX7_heatOf_28 : decode cX7_heatOf 28 = .ok (.iadd, 1) := by decide +kernel
theorem dX7_heatOf_29 : decode cX7_heatOf 29 = .ok (.istore_n 3, 1) := by decide +kernel
theorem dX7_heatOf_30 : decode cX7_heatOf 30 = .ok (.iconst 2, 1) := by decide +kernel
theorem dX7_heatOf_31 : decode cX7_heatOf 31 = .ok (.aload_n 0, 1) := by decide +kernel
theorem dX7_heatOf_32 : decode cX7_heatOf 32 = .ok (.iload_n 2, 1) := by decide +kernel
theorem dX7_heatOf_33 : decode cX7_heatOf 33 = .ok (.invokevirtual 152, 3) := by decide +kernel
theorem dX7_heatOf_36 : decode cX7_heatOf 36 = .ok (.imul, 1) := by decide +kernel
theorem dX7_heatOf_37 : decode cX7_heatOf 37 = .ok (.aload_n 0, 1) := by decide +kernel
theorem dX7_heatOf_38 : decode cX7_heatOf 38 = .ok (.iload_n 3, 1) := by decide +kernel
theorem dX7_heatOf_39 : decode cX7_heatOf 39 = .ok (.invokevirtual 149, 3) := by decide +kernel
theorem dX7_heatOf_42 : decode cX7_heatOf 42 = .ok (.ifCond .eq 7, 3) := by decide +kernel
theorem dX7_heatOf_45 : decode cX7_heatOf 45 = .ok (.iconst 1, 1) := by decide +kernel
theorem dX7_heatOf_46 : decode cX7_heatOf 46 = .ok (.goto 4, 3) := by decide +kernel
theorem dX7_heatOf_49 : decode cX7_heatOf 49 = .ok (.iconst 0, 1) := by decide +kernel
theorem dX7_heatOf_50 : decode cX7_heatOf 50 = .ok (.iadd, 1) := by decide +kernel
theorem dX7_heatOf_51 : decode cX7_heatOf 51 = .ok (.aload_n 0, 1) := by decide +kernel
theorem dX7_heatOf_52 : decode cX7_heatOf 52 = .ok (.iload_n 2, 1) := by decide +kernel
theorem dX7_heatOf_53 : decode cX7_heatOf 53 = .ok (.iconst 1, 1) := by decide +kernel
theorem dX7_heatOf_54 : decode cX7_heatOf 54 = .ok (.isub, 1) := by decide +kernel
theorem dX7_heatOf_55 : decode cX7_heatOf 55 = .ok (.invokevirtual 155, 3) := by decide +kernel
theorem dX7_heatOf_58 : decode cX7_heatOf 58 = .ok (.ifCond .eq 7, 3) := by decide +kernel
theorem dX7_heatOf_61 : decode cX7_heatOf 61 = .ok (.iconst 1, 1) := by decide +kernel
theorem dX7_heatOf_62 : decode cX7_heatOf 62 = .ok (.goto 4, 3) := by decide +kernel
theorem dX7_heatOf_65 : decode cX7_heatOf 65 = .ok (.iconst 0, 1) := by decide +kernel
theorem dX7_heatOf_66 : decode cX7_heatOf 66 = .ok (.iadd, 1) := by decide +kernel
theorem dX7_heatOf_67 : decode cX7_heatOf 67 = .ok (.aload_n 0, 1) := by decide +kernel
theorem dX7_heatOf_68 : decode cX7_heatOf 68 = .ok (.iload_n 2, 1) := by decide +kernel
theorem dX7_heatOf_69 : decode cX7_heatOf 69 = .ok (.iconst 1, 1) := by decide +kernel
theorem dX7_heatOf_70 : decode cX7_heatOf 70 = .ok (.iadd, 1) := by decide +kernel
theorem dX7_heatOf_71 : decode cX7_heatOf 71 = .ok (.invokevirtual 155, 3) := by decide +kernel
theorem dX7_heatOf_74 : decode cX7_heatOf 74 = .ok (.ifCond .eq 7, 3) := by decide +kernel
theorem dX7_heatOf_77 : decode cX7_heatOf 77 = .ok (.iconst 1, 1) := by decide +kernel
theorem dX7_heatOf_78 : decode cX7_heatOf 78 = .ok (.goto 4, 3) := by decide +kernel
theorem dX7_heatOf_81 : decode cX7_heatOf 81 = .ok (.iconst 0, 1) := by decide +kernel
theorem dX7_heatOf_82 : decode cX7_heatOf 82 = .ok (.iadd, 1) := by decide +kernel
theorem dX7_heatOf_83 : decode cX7_heatOf 83 = .ok (.istore 4, 2) := by decide +kernel
theorem dX7_heatOf_85 : decode cX7_heatOf 85 = .ok (.aload_n 0, 1) := by decide +kernel
theorem dX7_heatOf_86 : decode cX7_heatOf 86 = .ok (.getfield 19, 3) := by decide +kernel
theorem dX7_heatOf_89 : decode cX7_heatOf 89 = .ok (.iconst 5, 1) := by decide +kernel
theorem dX7_heatOf_90 : decode cX7_heatOf 90 = .ok (.iaload, 1) := by decide +kernel
theorem dX7_heatOf_91 : decode cX7_heatOf 91 = .ok (.iload_n 1, 1) := by decide +kernel
theorem dX7_heatOf_92 : decode cX7_heatOf 92 = .ok (.invokestatic 145, 3) := by decide +kernel
theorem dX7_heatOf_95 : decode cX7_heatOf 95 = .ok (.ifCond .eq 7, 3) := by decide +kernel
theorem dX7_heatOf_98 : decode cX7_heatOf 98 = .ok (.iconst 0, 1) := by decide +kernel
theorem dX7_heatOf_99 : decode cX7_heatOf 99 = .ok (.goto 5, 3) := by decide +kernel
theorem dX7_heatOf_102 : decode cX7_heatOf 102 = .ok (.iload 4, 2) := by decide +kernel
theorem dX7_heatOf_104 : decode cX7_heatOf 104 = .ok (.ireturn, 1) := by decide +kernel
theorem dX7_burns_0 : decode cX7_burns 0 = .ok (.iload_n 0, 1) := by decide +kernel
theorem dX7_burns_1 : decode cX7_burns 1 = .ok (.iconst 1, 1) := by decide +kernel
theorem dX7_burns_2 : decode cX7_burns 2 = .ok (.if_icmp .ne 7, 3) := by decide +kernel
theorem dX7_burns_5 : decode cX7_burns 5 = .ok (.iconst 2, 1) := by decide +kernel
theorem dX7_burns_6 : decode cX7_burns 6 = .ok (.goto 22, 3) := by decide +kernel
theorem dX7_burns_9 : decode cX7_burns 9 = .ok (.iload_n 0, 1) := by decide +kernel
theorem dX7_burns_10 : decode cX7_burns 10 = .ok (.iconst 2, 1) := by decide +kernel
theorem dX7_burns_11 : decode cX7_burns 11 = .ok (.if_icmp .ne 7, 3) := by decide +kernel
theorem dX7_burns_14 : decode cX7_burns 14 = .ok (.iconst 1, 1) := by decide +kernel
theorem dX7_burns_15 : decode cX7_burns 15 = .ok (.goto 13, 3) := by decide +kernel
theorem dX7_burns_18 : decode cX7_burns 18 = .ok (.iload_n 0, 1) := by decide +kernel
theorem dX7_burns_19 : decode cX7_burns 19 = .ok (.iconst 3, 1) := by decide +kernel
theorem dX7_burns_20 : decode cX7_burns 20 = .ok (.if_icmp .ne 7, 3) := by decide +kernel
theorem dX7_burns_23 : decode cX7_burns 23 = .ok (.iconst 4, 1) := by decide +kernel
theorem dX7_burns_24 : decode cX7_burns 24 = .ok (.goto 4, 3) := by decide +kernel
theorem dX7_burns_27 : decode cX7_burns 27 = .ok (.iconst 0, 1) := by decide +kernel
theorem dX7_burns_28 : decode cX7_burns 28 = .ok (.ireturn, 1) := by decide +kernel
theorem dX7_smokes_0 : decode cX7_smokes 0 = .ok (.iload_n 0, 1) := by decide +kernel
theorem dX7_smokes_1 : decode cX7_smokes 1 = .ok (.iconst 1, 1) := by decide +kernel
theorem dX7_smokes_2 : decode cX7_smokes 2 = .ok (.if_icmp .ne 7, 3) := by decide +kernel
theorem dX7_smokes_5 : decode cX7_smokes 5 = .ok (.iconst 1, 1) := by decide +kernel
theorem dX7_smokes_6 : decode cX7_smokes 6 = .ok (.goto 13, 3) := by decide +kernel
theorem dX7_smokes_9 : decode cX7_smokes 9 = .ok (.iload_n 0, 1) := by decide +kernel
theorem dX7_smokes_10 : decode cX7_smokes 10 = .ok (.iconst 2, 1) := by decide +kernel
theorem dX7_smokes_11 : decode cX7_smokes 11 = .ok (.if_icmp .ne 7, 3) := by decide +kernel
theorem dX7_smokes_14 : decode cX7_smokes 14 = .ok (.iconst 3, 1) := by decide +kernel
theorem dX7_smokes_15 : decode cX7_smokes 15 = .ok (.goto 4, 3) := by decide +kernel
theorem dX7_smokes_18 : decode cX7_smokes 18 = .ok (.iconst 0, 1) := by decide +kernel
theorem dX7_smokes_19 : decode cX7_smokes 19 = .ok (.ireturn, 1) := by decide +kernel
theorem dX7_oneHour_0 : decode cX7_oneHour 0 = .ok (.aload_n 0, 1) := by decide +kernel
theorem dX7_oneHour_1 : decode cX7_oneHour 1 = .ok (.getfield 19, 3) := by decide +kernel
theorem dX7_oneHour_4 : decode cX7_oneHour 4 = .ok (.iconst 4, 1) := by decide +kernel
theorem dX7_oneHour_5 : decode cX7_oneHour 5 = .ok (.iaload, 1) := by decide +kernel
theorem dX7_oneHour_6 : decode cX7_oneHour 6 = .ok (.istore_n 1, 1) := by decide +kernel
theorem dX7_oneHour_7 : decode cX7_oneHour 7 = .ok (.aload_n 0, 1) := by decide +kernel
theorem dX7_oneHour_8 : decode cX7_oneHour 8 = .ok (.iconst 0, 1) := by decide +kernel
theorem dX7_oneHour_9 : decode cX7_oneHour 9 = .ok (.putfield 158, 3) := by decide +kernel
theorem dX7_oneHour_12 : decode cX7_oneHour 12 = .ok (.iconst 0, 1) := by decide +kernel
theorem dX7_oneHour_13 : decode cX7_oneHour 13 = .ok (.istore_n 2, 1) := by decide +kernel
theorem dX7_oneHour_14 : decode cX7_oneHour 14 = .ok (.iload_n 2, 1) := by decide +kernel
theorem dX7_oneHour_15 : decode cX7_oneHour 15 = .ok (.aload_n 0, 1) := by decide +kernel
theorem dX7_oneHour_16 : decode cX7_oneHour 16 = .ok (.getfield 19, 3) := by decide +kernel
theorem dX7_oneHour_19 : decode cX7_oneHour 19 = .ok (.iconst 0, 1) := by decide +kernel
theorem dX7_oneHour_20 : decode cX7_oneHour 20 = .ok (.iaload, 1) := by decide +kernel
theorem dX7_oneHour_21 : decode cX7_oneHour 21 = .ok (.if_icmp .ge 20, 3) := by decide +kernel
theorem dX7_oneHour_24 : decode cX7_oneHour 24 = .ok (.aload_n 0, 1) := by decide +kernel
theorem dX7_oneHour_25 : decode cX7_oneHour 25 = .ok (.getfield 31, 3) := by decide +kernel
theorem dX7_oneHour_28 : decode cX7_oneHour 28 = .ok (.iload_n 2, 1) := by decide +kernel
theorem dX7_oneHour_29 : decode cX7_oneHour 29 = .ok (.aload_n 0, 1) := by decide +kernel
theorem dX7_oneHour_30 : decode cX7_oneHour 30 = .ok (.iload_n 2, 1) := by decide +kernel
theorem dX7_oneHour_31 : decode cX7_oneHour 31 = .ok (.invokevirtual 161, 3) := by decide +kernel
theorem dX7_oneHour_34 : decode cX7_oneHour 34 = .ok (.iastore, 1) := by decide +kernel
theorem dX7_oneHour_35 : decode cX7_oneHour 35 = .ok (.iinc 2 1, 3) := by decide +kernel
theorem dX7_oneHour_38 : decode cX7_oneHour 38 = .ok (.goto (-24), 3) := by decide +kernel
theorem dX7_oneHour_41 : decode cX7_oneHour 41 = .ok (.iconst 0, 1) := by decide +kernel
theorem dX7_oneHour_42 : decode cX7_oneHour 42 = .ok (.istore_n 2, 1) := by decide +kernel
theorem dX7_oneHour_43 : decode cX7_oneHour 43 = .ok (.iload_n 2, 1) := by decide +kernel
theorem dX7_oneHour_44 : decode cX7_oneHour 44 = .ok (.aload_n 0, 1) := by decide +kernel
theorem dX7_oneHour_45 : decode cX7_oneHour 45 = .ok (.getfield 19, 3) := by decide +kernel
theorem dX7_oneHour_48 : decode cX7_oneHour 48 = .ok (.iconst 0, 1) := by decide +kernel
theorem dX7_oneHour_49 : decode cX7_oneHour 49 = .ok (.iaload, 1) := by decide +kernel
theorem dX7_oneHour_50 : decode cX7_oneHour 50 = .ok (.if_icmp .ge 225, 3) := by decide +kernel
theorem dX7_oneHour_53 : decode cX7_oneHour 53 = .ok (.aload_n 0, 1) := by decide +kernel
theorem dX7_oneHour_54 : decode cX7_oneHour 54 = .ok (.getfield 19, 3) := by decide +kernel
theorem dX7_oneHour_57 : decode cX7_oneHour 57 = .ok (.bipush 6, 2) := by decide +kernel
theorem dX7_oneHour_59 : decode cX7_oneHour 59 = .ok (.iload_n 2, 1) := by decide +kernel
theorem dX7_oneHour_60 : decode cX7_oneHour 60 = .ok (.iadd, 1) := by decide +kernel
theorem dX7_oneHour_61 : decode cX7_oneHour 61 = .ok (.iaload, 1) := by decide +kernel
theorem dX7_oneHour_62 : decode cX7_oneHour 62 = .ok (.istore_n 3, 1) := by decide +kernel
theorem dX7_oneHour_63 : decode cX7_oneHour 63 = .ok (.iload_n 1, 1) := by decide +kernel
theorem dX7_oneHour_64 : decode cX7_oneHour 64 = .ok (.iload_n 2, 1) := by decide +kernel
theorem dX7_oneHour_65 : decode cX7_oneHour 65 = .ok (.invokestatic 145, 3) := by decide +kernel
theorem dX7_oneHour_68 : decode cX7_oneHour 68 = .ok (.ifCond .eq 101, 3) := by decide +kernel
theorem dX7_oneHour_71 : decode cX7_oneHour 71 = .ok (.aload_n 0, 1) := by decide +kernel
theorem dX7_oneHour_72 : decode cX7_oneHour 72 = .ok (.getfield 19, 3) := by decide +kernel
theorem dX7_oneHour_75 : decode cX7_oneHour 75 = .ok (.bipush 14, 2) := by decide +kernel
theorem dX7_oneHour_77 : decode cX7_oneHour 77 = .ok (.iload_n 2, 1) := by decide +kernel
theorem dX7_oneHour_78 : decode cX7_oneHour 78 = .ok (.iadd, 1) := by decide +kernel
theorem dX7_oneHour_79 : decode cX7_oneHour 79 = .ok (.aload_n 0, 1) := by decide +kernel
theorem dX7_oneHour_80 : decode cX7_oneHour 80 = .ok (.getfield 19, 3) := by decide +kernel
theorem dX7_oneHour_83 : decode cX7_oneHour 83 = .ok (.bipush 14, 2) := by decide +kernel
theorem dX7_oneHour_85 : decode cX7_oneHour 85 = .ok (.iload_n 2, 1) := by decide +kernel
theorem dX7_oneHour_86 : decode cX7_oneHour 86 = .ok (.iadd, 1) := by decide +kernel
theorem dX7_oneHour_87 : decode cX7_oneHour 87 = .ok (.iaload, 1) := by decide +kernel
theorem dX7_oneHour_88 : decode cX7_oneHour 88 = .ok (.iload_n 3, 1) := by decide +kernel
theorem dX7_oneHour_89 : decode cX7_oneHour 89 = .ok (.invokestatic 164, 3) := by decide +kernel
theorem dX7_oneHour_92 : decode cX7_oneHour 92 = .ok (.if_icmp .le 20, 3) := by decide +kernel
theorem dX7_oneHour_95 : decode cX7_oneHour 95 = .ok (.aload_n 0, 1) := by decide +kernel
theorem dX7_oneHour_96 : decode cX7_oneHour 96 = .ok (.getfield 19, 3) := by decide +kernel
theorem dX7_oneHour_99 : decode cX7_oneHour 99 = .ok (.bipush 14, 2) := by decide +kernel
theorem dX7_oneHour_101 : decode cX7_oneHour 101 = .ok (.iload_n 2, 1) := by decide +kernel
theorem dX7_oneHour_102 : decode cX7_oneHour 102 = .ok (.iadd, 1) := by decide +kernel
theorem dX7_oneHour_103 : decode cX7_oneHour 103 = .ok (.iaload, 1) := by decide +kernel
theorem dX7_oneHour_104 : decode cX7_oneHour 104 = .ok (.iload_n 3, 1) := by decide +kernel
theorem dX7_oneHour_105 : decode cX7_oneHour 105 = .ok (.invokestatic 164, 3) := by decide +kernel
theorem dX7_oneHour_108 : decode cX7_oneHour 108 = .ok (.isub, 1) := by decide +kernel
theorem dX7_oneHour_109 : decode cX7_oneHour 109 = .ok (.goto 4, 3) := by decide +kernel
theorem dX7_oneHour_112 : decode cX7_oneHour 112 = .ok (.iconst 0, 1) := by decide +kernel
theorem dX7_oneHour_113 : decode cX7_oneHour 113 = .ok (.iastore, 1) := by decide +kernel
theorem dX7_oneHour_114 : decode cX7_oneHour 114 = .ok (.aload_n 0, 1) := by decide +kernel
theorem dX7_oneHour_115 : decode cX7_oneHour 115 = .ok (.getfield 19, 3) := by decide +kernel
theorem dX7_oneHour_118 : decode cX7_oneHour 118 = .ok (.iconst 4, 1) := by decide +kernel
theorem dX7_oneHour_119 : decode cX7_oneHour 119 = .ok (.aload_n 0, 1) := by decide +kernel
theorem dX7_oneHour_120 : decode cX7_oneHour 120 = .ok (.getfield 19, 3) := by decide +kernel
theorem dX7_oneHour_123 : decode cX7_oneHour 123 = .ok (.bipush 14, 2) := by decide +kernel
theorem dX7_oneHour_125 : decode cX7_oneHour 125 = .ok (.iload_n 2, 1) := by decide +kernel
theorem dX7_oneHour_126 : decode cX7_oneHour 126 = .ok (.iadd, 1) := by decide +kernel
theorem dX7_oneHour_127 : decode cX7_oneHour 127 = .ok (.iaload, 1) := by decide +kernel
theorem dX7_oneHour_128 : decode cX7_oneHour 128 = .ok (.ifCond .ne 18, 3) := by decide +kernel
theorem dX7_oneHour_131 : decode cX7_oneHour 131 = .ok (.aload_n 0, 1) := by decide +kernel
theorem dX7_oneHour_132 : decode cX7_oneHour 132 = .ok (.getfield 19, 3) := by decide +kernel
theorem dX7_oneHour_135 : decode cX7_oneHour 135 = .ok (.iconst 4, 1) := by decide +kernel
theorem dX7_oneHour_136 : decode cX7_oneHour 136 = .ok (.iaload, 1) := by decide +kernel
theorem dX7_oneHour_137 : decode cX7_oneHour 137 = .ok (.iconst 1, 1) := by decide +kernel
theorem dX7_oneHour_138 : decode cX7_oneHour 138 = .ok (.iload_n 2, 1) := by decide +kernel
theorem dX7_oneHour_139 : decode cX7_oneHour 139 = .ok (.ishl, 1) := by decide +kernel
theorem dX7_oneHour_140 : decode cX7_oneHour 140 = .ok (.iconst (-1), 1) := by decide +kernel
theorem dX7_oneHour_141 : decode cX7_oneHour 141 = .ok (.ixor, 1) := by decide +kernel
theorem dX7_oneHour_142 : decode cX7_oneHour 142 = .ok (.iand, 1) := by decide +kernel
theorem dX7_oneHour_143 : decode cX7_oneHour 143 = .ok (.goto 9, 3) := by decide +kernel
theorem dX7_oneHour_146 : decode cX7_oneHour 146 = .ok (.aload_n 0, 1) := by decide +kernel
theorem dX7_oneHour_147 : decode cX7_oneHour 147 = .ok (.getfield 19, 3) := by decide +kernel
theorem dX7_oneHour_150 : decode cX7_oneHour 150 = .ok (.iconst 4, 1) := by decide +kernel
theorem dX7_oneHour_151 : decode cX7_oneHour 151 = .ok (.iaload, 1) := by decide +kernel
theorem dX7_oneHour_152 : decode cX7_oneHour 152 = .ok (.iastore, 1) := by decide +kernel
theorem dX7_oneHour_153 : decode cX7_oneHour 153 = .ok (.aload_n 0, 1) := by decide +kernel
theorem dX7_oneHour_154 : decode cX7_oneHour 154 = .ok (.dup, 1) := by decide +kernel
theorem dX7_oneHour_155 : decode cX7_oneHour 155 = .ok (.getfield 158, 3) := by decide +kernel
theorem dX7_oneHour_158 : decode cX7_oneHour 158 = .ok (.iload_n 3, 1) := by decide +kernel
theorem dX7_oneHour_159 : decode cX7_oneHour 159 = .ok (.invokestatic 167, 3) := by decide +kernel
theorem dX7_oneHour_162 : decode cX7_oneHour 162 = .ok (.iadd, 1) := by decide +kernel
theorem dX7_oneHour_163 : decode cX7_oneHour 163 = .ok (.putfield 158, 3) := by decide +kernel
theorem dX7_oneHour_166 : decode cX7_oneHour 166 = .ok (.goto 56, 3) := by decide +kernel
theorem dX7_oneHour_169 : decode cX7_oneHour 169 = .ok (.iload_n 3, 1) := by decide +kernel
theorem dX7_oneHour_170 : decode cX7_oneHour 170 = .ok (.invokestatic 164, 3) := by decide +kernel
theorem dX7_oneHour_173 : decode cX7_oneHour 173 = .ok (.ifCond .le 49, 3) := by decide +kernel
theorem dX7_oneHour_176 : decode cX7_oneHour 176 = .ok (.aload_n 0, 1) := by decide +kernel
theorem dX7_oneHour_177 : decode cX7_oneHour 177 = .ok (.getfield 19, 3) := by decide +kernel
theorem dX7_oneHour_180 : decode cX7_oneHour 180 = .ok (.bipush 14, 2) := by decide +kernel
theorem dX7_oneHour_182 : decode cX7_oneHour 182 = .ok (.iload_n 2, 1) := by decide +kernel
theorem dX7_oneHour_183 : decode cX7_oneHour 183 = .ok (.iadd, 1) := by decide +kernel
theorem dX7_oneHour_184 : decode cX7_oneHour 184 = .ok (.iaload, 1) := by decide +kernel
theorem dX7_oneHour_185 : decode cX7_oneHour 185 = .ok (.ifCond .le 37, 3) := by decide +kernel
theorem dX7_oneHour_188 : decode cX7_oneHour 188 = .ok (.aload_n 0, 1) := by decide +kernel
theorem dX7_oneHour_189 : decode cX7_oneHour 189 = .ok (.getfield 19, 3) := by decide +kernel
theorem dX7_oneHour_192 : decode cX7_oneHour 192 = .ok (.bipush 22, 2) := by decide +kernel
theorem dX7_oneHour_194 : decode cX7_oneHour 194 = .ok (.iload_n 2, 1) := by decide +kernel
theorem dX7_oneHour_195 : decode cX7_oneHour 195 = .ok (.iadd, 1) := by decide +kernel
theorem dX7_oneHour_196 : decode cX7_oneHour 196 = .ok (.iaload, 1) := by decide +kernel
theorem dX7_oneHour_197 : decode cX7_oneHour 197 = .ok (.ifCond .ne 25, 3) := by decide +kernel
theorem dX7_oneHour_200 : decode cX7_oneHour 200 = .ok (.aload_n 0, 1) := by decide +kernel
theorem dX7_oneHour_201 : decode cX7_oneHour 201 = .ok (.getfield 31, 3) := by decide +kernel
theorem dX7_oneHour_204 : decode cX7_oneHour 204 = .ok (.iload_n 2, 1) := by decide +kernel
theorem dX7_oneHour_205 : decode cX7_oneHour 205 = .ok (.iaload, 1) := by decide +kernel
theorem dX7_oneHour_206 : decode cX7_oneHour 206 = .ok (.iconst 1, 1) := by decide +kernel
theorem dX7_oneHour_207 : decode cX7_oneHour 207 = .ok (.if_icmp .le 15, 3) := by decide +kernel
theorem dX7_oneHour_210 : decode cX7_oneHour 210 = .ok (.aload_n 0, 1) := by decide +kernel
theorem dX7_oneHour_211 : decode cX7_oneHour 211 = .ok (.getfield 19, 3) := by decide +kernel
theorem dX7_oneHour_214 : decode cX7_oneHour 214 = .ok (.iconst 4, 1) := by decide +kernel
theorem dX7_oneHour_215 : decode cX7_oneHour 215 = .ok (.dup2, 1) := by decide +kernel
theorem dX7_oneHour_216 : decode cX7_oneHour 216 = .ok (.iaload, 1) := by decide +kernel
theorem dX7_oneHour_217 : decode cX7_oneHour 217 = .ok (.iconst 1, 1) := by decide +kernel
theorem dX7_oneHour_218 : decode cX7_oneHour 218 = .ok (.iload_n 2, 1) := by decide +kernel
theorem dX7_oneHour_219 : decode cX7_oneHour 219 = .ok (.ishl, 1) := by decide +kernel
theorem dX7_oneHour_220 : decode cX7_oneHour 220 = .ok (.ior, 1) := by decide +kernel
theorem dX7_oneHour_221 : decode cX7_oneHour 221 = .ok (.iastore, 1) := by decide +kernel
theorem dX7_oneHour_222 : decode cX7_oneHour 222 = .ok (.aload_n 0, 1) := by decide +kernel
theorem dX7_oneHour_223 : decode cX7_oneHour 223 = .ok (.getfield 19, 3) := by decide +kernel
theorem dX7_oneHour_226 : decode cX7_oneHour 226 = .ok (.bipush 22, 2) := by decide +kernel
theorem dX7_oneHour_228 : decode cX7_oneHour 228 = .ok (.iload_n 2, 1) := by decide +kernel
theorem dX7_oneHour_229 : decode cX7_oneHour 229 = .ok (.iadd, 1) := by decide +kernel
theorem dX7_oneHour_230 : decode cX7_oneHour 230 = .ok (.aload_n 0, 1) := by decide +kernel
theorem dX7_oneHour_231 : decode cX7_oneHour 231 = .ok (.getfield 19, 3) := by decide +kernel
theorem dX7_oneHour_234 : decode cX7_oneHour 234 = .ok (.bipush 22, 2) := by decide +kernel
theorem dX7_oneHour_236 : decode cX7_oneHour 236 = .ok (.iload_n 2, 1) := by decide +kernel
theorem dX7_oneHour_237 : decode cX7_oneHour 237 = .ok (.iadd, 1) := by decide +kernel
theorem dX7_oneHour_238 : decode cX7_oneHour 238 = .ok (.iaload, 1) := by decide +kernel
theorem dX7_oneHour_239 : decode cX7_oneHour 239 = .ok (.aload_n 0, 1) := by decide +kernel
theorem dX7_oneHour_240 : decode cX7_oneHour 240 = .ok (.getfield 31, 3) := by decide +kernel
theorem dX7_oneHour_243 : decode cX7_oneHour 243 = .ok (.iload_n 2, 1) := by decide +kernel
theorem dX7_oneHour_244 : decode cX7_oneHour 244 = .ok (.iaload, 1) := by decide +kernel
theorem dX7_oneHour_245 : decode cX7_oneHour 245 = .ok (.if_icmp .le 22, 3) := by decide +kernel
theorem dX7_oneHour_248 : decode cX7_oneHour 248 = .ok (.aload_n 0, 1) := by decide +kernel
theorem dX7_oneHour_249 : decode cX7_oneHour 249 = .ok (.getfield 19, 3) := by decide +kernel
theorem dX7_oneHour_252 : decode cX7_oneHour 252 = .ok (.bipush 22, 2) := by decide +kernel
theorem dX7_oneHour_254 : decode cX7_oneHour 254 = .ok (.iload_n 2, 1) := by decide +kernel
theorem dX7_oneHour_255 : decode cX7_oneHour 255 = .ok (.iadd, 1) := by decide +kernel
theorem dX7_oneHour_256 : decode cX7_oneHour 256 = .ok (.iaload, 1) := by decide +kernel
theorem dX7_oneHour_257 : decode cX7_oneHour 257 = .ok (.aload_n 0, 1) := by decide +kernel
theorem dX7_oneHour_258 : decode cX7_oneHour 258 = .ok (.getfield 31, 3) := by decide +kernel
theorem dX7_oneHour_261 : decode cX7_oneHour 261 = .ok (.iload_n 2, 1) := by decide +kernel
theorem dX7_oneHour_262 : decode cX7_oneHour 262 = .ok (.iaload, 1) := by decide +kernel
theorem dX7_oneHour_263 : decode cX7_oneHour 263 = .ok (.isub, 1) := by decide +kernel
theorem dX7_oneHour_264 : decode cX7_oneHour 264 = .ok (.goto 4, 3) := by decide +kernel
theorem dX7_oneHour_267 : decode cX7_oneHour 267 = .ok (.iconst 0, 1) := by decide +kernel
theorem dX7_oneHour_268 : decode cX7_oneHour 268 = .ok (.iastore, 1) := by decide +kernel
theorem dX7_oneHour_269 : decode cX7_oneHour 269 = .ok (.iinc 2 1, 3) := by decide +kernel
theorem dX7_oneHour_272 : decode cX7_oneHour 272 = .ok (.goto (-229), 3) := by decide +kernel
theorem dX7_oneHour_275 : decode cX7_oneHour 275 = .ok (.aload_n 0, 1) := by decide +kernel
theorem dX7_oneHour_276 : decode cX7_oneHour 276 = .ok (.getfield 19, 3) := by decide +kernel
theorem dX7_oneHour_279 : decode cX7_oneHour 279 = .ok (.iconst 3, 1) := by decide +kernel
theorem dX7_oneHour_280 : decode cX7_oneHour 280 = .ok (.aload_n 0, 1) := by decide +kernel
theorem dX7_oneHour_281 : decode cX7_oneHour 281 = .ok (.getfield 19, 3) := by decide +kernel
theorem dX7_oneHour_284 : decode cX7_oneHour 284 = .ok (.iconst 3, 1) := by decide +kernel
theorem dX7_oneHour_285 : decode cX7_oneHour 285 = .ok (.iaload, 1) := by decide +kernel
theorem dX7_oneHour_286 : decode cX7_oneHour 286 = .ok (.aload_n 0, 1) := by decide +kernel
theorem dX7_oneHour_287 : decode cX7_oneHour 287 = .ok (.getfield 158, 3) := by decide +kernel
theorem dX7_oneHour_290 : decode cX7_oneHour 290 = .ok (.iadd, 1) := by decide +kernel
theorem dX7_oneHour_291 : decode cX7_oneHour 291 = .ok (.ldc 170, 2) := by decide +kernel
theorem dX7_oneHour_293 : decode cX7_oneHour 293 = .ok (.if_icmp .le 8, 3) := by decide +kernel
theorem dX7_oneHour_296 : decode cX7_oneHour 296 = .ok (.ldc 170, 2) := by decide +kernel
theorem dX7_oneHour_298 : decode cX7_oneHour 298 = .ok (.goto 14, 3) := by decide +kernel
theorem dX7_oneHour_301 : decode cX7_oneHour 301 = .ok (.aload_n 0, 1) := by decide +kernel
theorem dX7_oneHour_302 : decode cX7_oneHour 302 = .ok (.getfield 19, 3) := by decide +kernel
theorem dX7_oneHour_305 : decode cX7_oneHour 305 = .ok (.iconst 3, 1) := by decide +kernel
theorem dX7_oneHour_306 : decode cX7_oneHour 306 = .ok (.iaload, 1) := by decide +kernel
theorem dX7_oneHour_307 : decode cX7_oneHour 307 = .ok (.aload_n 0, 1) := by decide +kernel
theorem dX7_oneHour_308 : decode cX7_oneHour 308 = .ok (.getfield 158, 3) := by decide +kernel
theorem dX7_oneHour_311 : decode cX7_oneHour 311 = .ok (.iadd, 1) := by decide +kernel
theorem dX7_oneHour_312 : decode cX7_oneHour 312 = .ok (.iastore, 1) := by decide +kernel
theorem dX7_oneHour_313 : decode cX7_oneHour 313 = .ok (.aload_n 0, 1) := by decide +kernel
theorem dX7_oneHour_314 : decode cX7_oneHour 314 = .ok (.getfield 19, 3) := by decide +kernel
theorem dX7_oneHour_317 : decode cX7_oneHour 317 = .ok (.iconst 1, 1) := by decide +kernel
theorem dX7_oneHour_318 : decode cX7_oneHour 318 = .ok (.dup2, 1) := by decide +kernel
theorem dX7_oneHour_319 : decode cX7_oneHour 319 = .ok (.iaload, 1) := by decide +kernel
theorem dX7_oneHour_320 : decode cX7_oneHour 320 = .ok (.iconst 1, 1) := by decide +kernel
theorem dX7_oneHour_321 : decode cX7_oneHour 321 = .ok (.iadd, 1) := by decide +kernel
theorem dX7_oneHour_322 : decode cX7_oneHour 322 = .ok (.iastore, 1) := by decide +kernel
theorem dX7_oneHour_323 : decode cX7_oneHour 323 = .ok (.return_, 1) := by decide +kernel
theorem dX7_ashes_0 : decode cX7_ashes 0 = .ok (.iconst 0, 1) := by decide +kernel
theorem dX7_ashes_1 : decode cX7_ashes 1 = .ok (.istore_n 1, 1) := by decide +kernel
theorem dX7_ashes_2 : decode cX7_ashes 2 = .ok (.iconst 0, 1) := by decide +kernel
theorem dX7_ashes_3 : decode cX7_ashes 3 = .ok (.istore_n 2, 1) := by decide +kernel
theorem dX7_ashes_4 : decode cX7_ashes 4 = .ok (.iload_n 2, 1) := by decide +kernel
theorem dX7_ashes_5 : decode cX7_ashes 5 = .ok (.aload_n 0, 1) := by decide +kernel
theorem dX7_ashes_6 : decode cX7_ashes 6 = .ok (.getfield 19, 3) := by decide +kernel
theorem dX7_ashes_9 : decode cX7_ashes 9 = .ok (.iconst 0, 1) := by decide +kernel
theorem dX7_ashes_10 : decode cX7_ashes 10 = .ok (.iaload, 1) := by decide +kernel
theorem dX7_ashes_11 : decode cX7_ashes 11 = .ok (.if_icmp .ge 31, 3) := by decide +kernel
theorem dX7_ashes_14 : decode cX7_ashes 14 = .ok (.iload_n 1, 1) := by decide +kernel
theorem dX7_ashes_15 : decode cX7_ashes 15 = .ok (.aload_n 0, 1) := by decide +kernel
theorem dX7_ashes_16 : decode cX7_ashes 16 = .ok (.getfield 19, 3) := by decide +kernel
theorem dX7_ashes_19 : decode cX7_ashes 19 = .ok (.bipush 14, 2) := by decide +kernel
theorem dX7_ashes_21 : decode cX7_ashes 21 = .ok (.iload_n 2, 1) := by decide +kernel
theorem dX7_ashes_22 : decode cX7_ashes 22 = .ok (.iadd, 1) := by decide +kernel
theorem dX7_ashes_23 : decode cX7_ashes 23 = .ok (.iaload, 1) := by decide +kernel
theorem dX7_ashes_24 : decode cX7_ashes 24 = .ok (.ifCond .ne 9, 3) := by decide +kernel
theorem dX7_ashes_27 : decode cX7_ashes 27 = .ok (.iconst 1, 1) := by decide +kernel
theorem dX7_ashes_28 : decode cX7_ashes 28 = .ok (.iload_n 2, 1) := by decide +kernel
theorem dX7_ashes_29 : decode cX7_ashes 29 = .ok (.ishl, 1) := by decide +kernel
theorem dX7_ashes_30 : decode cX7_ashes 30 = .ok (.goto 4, 3) := by decide +kernel
theorem dX7_ashes_33 : decode cX7_ashes 33 = .ok (.iconst 0, 1) := by decide +kernel
theorem dX7_ashes_34 : decode cX7_ashes 34 = .ok (.ior, 1) := by decide +kernel
theorem dX7_ashes_35 : decode cX7_ashes 35 = .ok (.istore_n 1, 1) := by decide +kernel
theorem dX7_ashes_36 : decode cX7_ashes 36 = .ok (.iinc 2 1, 3) := by decide +kernel
theorem dX7_ashes_39 : decode cX7_ashes 39 = .ok (.goto (-35), 3) := by decide +kernel
theorem dX7_ashes_42 : decode cX7_ashes 42 = .ok (.iload_n 1, 1) := by decide +kernel
theorem dX7_ashes_43 : decode cX7_ashes 43 = .ok (.ireturn, 1) := by decide +kernel
theorem dX7_note_0 : decode cX7_note 0 = .ok (.aload_n 0, 1) := by decide +kernel
theorem dX7_note_1 : decode cX7_note 1 = .ok (.getfield 139, 3) := by decide +kernel
theorem dX7_note_4 : decode cX7_note 4 = .ok (.bipush 24, 2) := by decide +kernel
theorem dX7_note_6 : decode cX7_note 6 = .ok (.if_icmp .ne 43, 3) := by decide +kernel
theorem dX7_note_9 : decode cX7_note 9 = .ok (.iconst 0, 1) := by decide +kernel
theorem dX7_note_10 : decode cX7_note 10 = .ok (.istore_n 1, 1) := by decide +kernel
theorem dX7_note_11 : decode cX7_note 11 = .ok (.iload_n 1, 1) := by decide +kernel
theorem dX7_note_12 : decode cX7_note 12 = .ok (.sipush 874, 3) := by decide +kernel
theorem dX7_note_15 : decode cX7_note 15 = .ok (.if_icmp .ge 24, 3) := by decide +kernel
theorem dX7_note_18 : decode cX7_note 18 = .ok (.aload_n 0, 1) := by decide +kernel
theorem dX7_note_19 : decode cX7_note 19 = .ok (.getfield 34, 3) := by decide +kernel
theorem dX7_note_22 : decode cX7_note 22 = .ok (.iload_n 1, 1) := by decide +kernel
theorem dX7_note_23 : decode cX7_note 23 = .ok (.aload_n 0, 1) := by decide +kernel
theorem dX7_note_24 : decode cX7_note 24 = .ok (.getfield 34, 3) := by decide +kernel
theorem dX7_note_27 : decode cX7_note 27 = .ok (.iload_n 1, 1) := by decide +kernel
theorem dX7_note_28 : decode cX7_note 28 = .ok (.bipush 38, 2) := by decide +kernel
theorem dX7_note_30 : decode cX7_note 30 = .ok (.iadd, 1) := by decide +kernel
theorem dX7_note_31 : decode cX7_note 31 = .ok (.iaload, 1) := by decide +kernel
theorem dX7_note_32 : decode cX7_note 32 = .ok (.iastore, 1) := by decide +kernel
theorem dX7_note_33 : decode cX7_note 33 = .ok (.iinc 1 1, 3) := by decide +kernel
theorem dX7_note_36 : decode cX7_note 36 = .ok (.goto (-25), 3) := by decide +kernel
theorem dX7_note_39 : decode cX7_note 39 = .ok (.aload_n 0, 1) := by decide +kernel
theorem dX7_note_40 : decode cX7_note 40 = .ok (.dup, 1) := by decide +kernel
theorem dX7_note_41 : decode cX7_note 41 = .ok (.getfield 139, 3) := by decide +kernel
theorem dX7_note_44 : decode cX7_note 44 = .ok (.iconst 1, 1) := by decide +kernel
theorem dX7_note_45 : decode cX7_note 45 = .ok (.isub, 1) := by decide +kernel
theorem dX7_note_46 : decode cX7_note 46 = .ok (.putfield 139, 3) := by decide +kernel
theorem dX7_note_49 : decode cX7_note 49 = .ok (.iconst 0, 1) := by decide +kernel
theorem dX7_note_50 : decode cX7_note 50 = .ok (.istore_n 1, 1) := by decide +kernel
theorem dX7_note_51 : decode cX7_note 51 = .ok (.iload_n 1, 1) := by decide +kernel
theorem dX7_note_52 : decode cX7_note 52 = .ok (.bipush 38, 2) := by decide +kernel
theorem dX7_note_54 : decode cX7_note 54 = .ok (.if_icmp .ge 29, 3) := by decide +kernel
theorem dX7_note_57 : decode cX7_note 57 = .ok (.aload_n 0, 1) := by decide +kernel
theorem dX7_note_58 : decode cX7_note 58 = .ok (.getfield 34, 3) := by decide +kernel
theorem dX7_note_61 : decode cX7_note 61 = .ok (.bipush 38, 2) := by decide +kernel
theorem dX7_note_63 : decode cX7_note 63 = .ok (.aload_n 0, 1) := by decide +kernel
theorem dX7_note_64 : decode cX7_note 64 = .ok (.getfield 139, 3) := by decide +kernel
theorem dX7_note_67 : decode cX7_note 67 = .ok (.imul, 1) := by decide +kernel
theorem dX7_note_68 : decode cX7_note 68 = .ok (.iload_n 1, 1) := by decide +kernel
theorem dX7_note_69 : decode cX7_note 69 = .ok (.iadd, 1) := by decide +kernel
theorem dX7_note_70 : decode cX7_note 70 = .ok (.aload_n 0, 1) := by decide +kernel
theorem dX7_note_71 : decode cX7_note 71 = .ok (.getfield 19, 3) := by decide +kernel
theorem dX7_note_74 : decode cX7_note 74 = .ok (.iload_n 1, 1) := by decide +kernel
theorem dX7_note_75 : decode cX7_note 75 = .ok (.iaload, 1) := by decide +kernel
theorem dX7_note_76 : decode cX7_note 76 = .ok (.iastore, 1) := by decide +kernel
theorem dX7_note_77 : decode cX7_note 77 = .ok (.iinc 1 1, 3) := by decide +kernel
theorem dX7_note_80 : decode cX7_note 80 = .ok (.goto (-29), 3) := by decide +kernel
theorem dX7_note_83 : decode cX7_note 83 = .ok (.aload_n 0, 1) := by decide +kernel
theorem dX7_note_84 : decode cX7_note 84 = .ok (.dup, 1) := by decide +kernel
theorem dX7_note_85 : decode cX7_note 85 = .ok (.getfield 139, 3) := by decide +kernel
theorem dX7_note_88 : decode cX7_note 88 = .ok (.iconst 1, 1) := by decide +kernel
theorem dX7_note_89 : decode cX7_note 89 = .ok (.iadd, 1) := by decide +kernel
theorem dX7_note_90 : decode cX7_note 90 = .ok (.putfield 139, 3) := by decide +kernel
theorem dX7_note_93 : decode cX7_note 93 = .ok (.return_, 1) := by decide +kernel
theorem dX7_undo_0 : decode cX7_undo 0 = .ok (.aload_n 0, 1) := by decide +kernel
theorem dX7_undo_1 : decode cX7_undo 1 = .ok (.getfield 139, 3) := by decide +kernel
theorem dX7_undo_4 : decode cX7_undo 4 = .ok (.ifCond .ne 6, 3) := by decide +kernel
theorem dX7_undo_7 : decode cX7_undo 7 = .ok (.ldc 171, 2) := by decide +kernel
theorem dX7_undo_9 : decode cX7_undo 9 = .ok (.ireturn, 1) := by decide +kernel
theorem dX7_undo_10 : decode cX7_undo 10 = .ok (.aload_n 0, 1) := by decide +kernel
theorem dX7_undo_11 : decode cX7_undo 11 = .ok (.dup, 1) := by decide +kernel
theorem dX7_undo_12 : decode cX7_undo 12 = .ok (.getfield 139, 3) := by decide +kernel
theorem dX7_undo_15 : decode cX7_undo 15 = .ok (.iconst 1, 1) := by decide +kernel
theorem dX7_undo_16 : decode cX7_undo 16 = .ok (.isub, 1) := by decide +kernel
theorem dX7_undo_17 : decode cX7_undo 17 = .ok (.putfield 139, 3) := by decide +kernel
theorem dX7_undo_20 : decode cX7_undo 20 = .ok (.iconst 0, 1) := by decide +kernel
theorem dX7_undo_21 : decode cX7_undo 21 = .ok (.istore_n 1, 1) := by decide +kernel
theorem dX7_undo_22 : decode cX7_undo 22 = .ok (.iload_n 1, 1) := by decide +kernel
theorem dX7_undo_23 : decode cX7_undo 23 = .ok (.bipush 38, 2) := by decide +kernel
theorem dX7_undo_25 : decode cX7_undo 25 = .ok (.if_icmp .ge 29, 3) := by decide +kernel
theorem dX7_undo_28 : decode cX7_undo 28 = .ok (.aload_n 0, 1) := by decide +kernel
theorem dX7_undo_29 : decode cX7_undo 29 = .ok (.getfield 19, 3) := by decide +kernel
theorem dX7_undo_32 : decode cX7_undo 32 = .ok (.iload_n 1, 1) := by decide +kernel
theorem dX7_undo_33 : decode cX7_undo 33 = .ok (.aload_n 0, 1) := by decide +kernel
theorem dX7_undo_34 : decode cX7_undo 34 = .ok (.getfield 34, 3) := by decide +kernel
theorem dX7_undo_37 : decode cX7_undo 37 = .ok (.bipush 38, 2) := by decide +kernel
theorem dX7_undo_39 : decode cX7_undo 39 = .ok (.aload_n 0, 1) := by decide +kernel
theorem dX7_undo_40 : decode cX7_undo 40 = .ok (.getfield 139, 3) := by decide +kernel
theorem dX7_undo_43 : decode cX7_undo 43 = .ok (.imul, 1) := by decide +kernel
theorem dX7_undo_44 : decode cX7_undo 44 = .ok (.iload_n 1, 1) := by decide +kernel
theorem dX7_undo_45 : decode cX7_undo 45 = .ok (.iadd, 1) := by decide +kernel
theorem dX7_undo_46 : decode cX7_undo 46 = .ok (.iaload, 1) := by decide +kernel
theorem dX7_undo_47 : decode cX7_undo 47 = .ok (.iastore, 1) := by decide +kernel
theorem dX7_undo_48 : decode cX7_undo 48 = .ok (.iinc 1 1, 3) := by decide +kernel
theorem dX7_undo_51 : decode cX7_undo 51 = .ok (.goto (-29), 3) := by decide +kernel
theorem dX7_undo_54 : decode cX7_undo 54 = .ok (.aload_n 0, 1) := by decide +kernel
theorem dX7_undo_55 : decode cX7_undo 55 = .ok (.getfield 139, 3) := by decide +kernel
theorem dX7_undo_58 : decode cX7_undo 58 = .ok (.ireturn, 1) := by decide +kernel
theorem dX7_hours_0 : decode cX7_hours 0 = .ok (.aload_n 0, 1) := by decide +kernel
theorem dX7_hours_1 : decode cX7_hours 1 = .ok (.getfield 135, 3) := by decide +kernel
theorem dX7_hours_4 : decode cX7_hours 4 = .ok (.ifCond .ne 6, 3) := by decide +kernel
theorem dX7_hours_7 : decode cX7_hours 7 = .ok (.ldc 171, 2) := by decide +kernel
theorem dX7_hours_9 : decode cX7_hours 9 = .ok (.ireturn, 1) := by decide +kernel
theorem dX7_hours_10 : decode cX7_hours 10 = .ok (.iload_n 1, 1) := by decide +kernel
theorem dX7_hours_11 : decode cX7_hours 11 = .ok (.i2l, 1) := by decide +kernel
theorem dX7_hours_12 : decode cX7_hours 12 = .ok (.lconst 1, 1) := by decide +kernel
theorem dX7_hours_13 : decode cX7_hours 13 = .ok (.ldc2_w 172, 3) := by decide +kernel
theorem dX7_hours_16 : decode cX7_hours 16 = .ok (.invokestatic 57, 3) := by decide +kernel
theorem dX7_hours_19 : decode cX7_hours 19 = .ok (.ifCond .ne 6, 3) := by decide +kernel
theorem dX7_hours_22 : decode cX7_hours 22 = .ok (.ldc 67, 2) := by decide +kernel
theorem dX7_hours_24 : decode cX7_hours 24 = .ok (.ireturn, 1) := by decide +kernel
theorem dX7_hours_25 : decode cX7_hours 25 = .ok (.aload_n 0, 1) := by decide +kernel
theorem dX7_hours_26 : decode cX7_hours 26 = .ok (.getfield 19, 3) := by decide +kernel
theorem dX7_hours_29 : decode cX7_hours 29 = .ok (.iconst 1, 1) := by decide +kernel
theorem dX7_hours_30 : decode cX7_hours 30 = .ok (.iaload, 1) := by decide +kernel
theorem dX7_hours_31 : decode cX7_hours 31 = .ok (.iload_n 1, 1) := by decide +kernel
theorem dX7_hours_32 : decode cX7_hours 32 = .ok (.iadd, 1) := by decide +kernel
theorem dX7_hours_33 : decode cX7_hours 33 = .ok (.sipush 9999, 3) := by decide +kernel
theorem dX7_hours_36 : decode cX7_hours 36 = .ok (.if_icmp .le 6, 3) := by decide +kernel
theorem dX7_hours_39 : decode cX7_hours 39 = .ok (.ldc 84, 2) := by decide +kernel
theorem dX7_hours_41 : decode cX7_hours 41 = .ok (.ireturn, 1) := by decide +kernel
theorem dX7_hours_42 : decode cX7_hours 42 = .ok (.iconst 0, 1) := by decide +kernel
theorem dX7_hours_43 : decode cX7_hours 43 = .ok (.istore_n 2, 1) := by decide +kernel
theorem dX7_hours_44 : decode cX7_hours 44 = .ok (.iload_n 2, 1) := by decide +kernel
theorem dX7_hours_45 : decode cX7_hours 45 = .ok (.iload_n 1, 1) := by decide +kernel
theorem dX7_hours_46 : decode cX7_hours 46 = .ok (.if_icmp .ge 17, 3) := by decide +kernel
theorem dX7_hours_49 : decode cX7_hours 49 = .ok (.aload_n 0, 1) := by decide +kernel
theorem dX7_hours_50 : decode cX7_hours 50 = .ok (.invokevirtual 174, 3) := by decide +kernel
theorem dX7_hours_53 : decode cX7_hours 53 = .ok (.aload_n 0, 1) := by decide +kernel
theorem dX7_hours_54 : decode cX7_hours 54 = .ok (.invokevirtual 177, 3) := by decide +kernel
theorem dX7_hours_57 : decode cX7_hours 57 = .ok (.iinc 2 1, 3) := by decide +kernel
theorem dX7_hours_60 : decode cX7_hours 60 = .ok (.goto (-16), 3) := by decide +kernel
theorem dX7_hours_63 : decode cX7_hours 63 = .ok (.aload_n 0, 1) := by decide +kernel
theorem dX7_hours_64 : decode cX7_hours 64 = .ok (.getfield 19, 3) := by decide +kernel
theorem dX7_hours_67 : decode cX7_hours 67 = .ok (.iconst 4, 1) := by decide +kernel
theorem dX7_hours_68 : decode cX7_hours 68 = .ok (.iaload, 1) := by decide +kernel
theorem dX7_hours_69 : decode cX7_hours 69 = .ok (.ireturn, 1) := by decide +kernel
theorem dX7_mayLight_0 : decode cX7_mayLight 0 = .ok (.aload_n 0, 1) := by decide +kernel
theorem dX7_mayLight_1 : decode cX7_mayLight 1 = .ok (.getfield 19, 3) := by decide +kernel
theorem dX7_mayLight_4 : decode cX7_mayLight 4 = .ok (.iconst 4, 1) := by decide +kernel
theorem dX7_mayLight_5 : decode cX7_mayLight 5 = .ok (.iaload, 1) := by decide +kernel
theorem dX7_mayLight_6 : decode cX7_mayLight 6 = .ok (.aload_n 0, 1) := by decide +kernel
theorem dX7_mayLight_7 : decode cX7_mayLight 7 = .ok (.getfield 19, 3) := by decide +kernel
theorem dX7_mayLight_10 : decode cX7_mayLight 10 = .ok (.iconst 5, 1) := by decide +kernel
theorem dX7_mayLight_11 : decode cX7_mayLight 11 = .ok (.iaload, 1) := by decide +kernel
theorem dX7_mayLight_12 : decode cX7_mayLight 12 = .ok (.ior, 1) := by decide +kernel
theorem dX7_mayLight_13 : decode cX7_mayLight 13 = .ok (.iload_n 1, 1) := by decide +kernel
theorem dX7_mayLight_14 : decode cX7_mayLight 14 = .ok (.invokestatic 145, 3) := by decide +kernel
theorem dX7_mayLight_17 : decode cX7_mayLight 17 = .ok (.ifCond .ne 46, 3) := by decide +kernel
theorem dX7_mayLight_20 : decode cX7_mayLight 20 = .ok (.aload_n 0, 1) := by decide +kernel
theorem dX7_mayLight_21 : decode cX7_mayLight 21 = .ok (.getfield 19, 3) := by decide +kernel
theorem dX7_mayLight_24 : decode cX7_mayLight 24 = .ok (.bipush 6, 2) := by decide +kernel
theorem dX7_mayLight_26 : decode cX7_mayLight 26 = .ok (.iload_n 1, 1) := by decide +kernel
theorem dX7_mayLight_27 : decode cX7_mayLight 27 = .ok (.iadd, 1) := by decide +kernel
theorem dX7_mayLight_28 : decode cX7_mayLight 28 = .ok (.iaload, 1) := by decide +kernel
theorem dX7_mayLight_29 : decode cX7_mayLight 29 = .ok (.invokestatic 164, 3) := by decide +kernel
theorem dX7_mayLight_32 : decode cX7_mayLight 32 = .ok (.ifCond .le 31, 3) := by decide +kernel
theorem dX7_mayLight_35 : decode cX7_mayLight 35 = .ok (.aload_n 0, 1) := by decide +kernel
theorem dX7_mayLight_36 : decode cX7_mayLight 36 = .ok (.getfield 19, 3) := by decide +kernel
theorem dX7_mayLight_39 : decode cX7_mayLight 39 = .ok (.bipush 14, 2) := by decide +kernel
theorem dX7_mayLight_41 : decode cX7_mayLight 41 = .ok (.iload_n 1, 1) := by decide +kernel
theorem dX7_mayLight_42 : decode cX7_mayLight 42 = .ok (.iadd, 1) := by decide +kernel
theorem dX7_mayLight_43 : decode cX7_mayLight 43 = .ok (.iaload, 1) := by decide +kernel
theorem dX7_mayLight_44 : decode cX7_mayLight 44 = .ok (.ifCond .le 19, 3) := by decide +kernel
theorem dX7_mayLight_47 : decode cX7_mayLight 47 = .ok (.aload_n 0, 1) := by decide +kernel
theorem dX7_mayLight_48 : decode cX7_mayLight 48 = .ok (.getfield 19, 3) := by decide +kernel
theorem dX7_mayLight_51 : decode cX7_mayLight 51 = .ok (.bipush 22, 2) := by decide +kernel
theorem dX7_mayLight_53 : decode cX7_mayLight 53 = .ok (.iload_n 1, 1) := by decide +kernel
theorem dX7_mayLight_54 : decode cX7_mayLight 54 = .ok (.iadd, 1) := by decide +kernel
theorem dX7_mayLight_55 : decode cX7_mayLight 55 = .ok (.iaload, 1) := by decide +kernel
theorem dX7_mayLight_56 : decode cX7_mayLight 56 = .ok (.ifCond .ne 7, 3) := by decide +kernel
theorem dX7_mayLight_59 : decode cX7_mayLight 59 = .ok (.iconst 1, 1) := by decide +kernel
theorem dX7_mayLight_60 : decode cX7_mayLight 60 = .ok (.goto 4, 3) := by decide +kernel
theorem dX7_mayLight_63 : decode cX7_mayLight 63 = .ok (.iconst 0, 1) := by decide +kernel
theorem dX7_mayLight_64 : decode cX7_mayLight 64 = .ok (.ireturn, 1) := by decide +kernel
theorem dX7_light_0 : decode cX7_light 0 = .ok (.aload_n 0, 1) := by decide +kernel
theorem dX7_light_1 : decode cX7_light 1 = .ok (.iload_n 1, 1) := by decide +kernel
theorem dX7_light_2 : decode cX7_light 2 = .ok (.invokevirtual 180, 3) := by decide +kernel
theorem dX7_light_5 : decode cX7_light 5 = .ok (.ifCond .ne 6, 3) := by decide +kernel
theorem dX7_light_8 : decode cX7_light 8 = .ok (.ldc 67, 2) := by decide +kernel
theorem dX7_light_10 : decode cX7_light 10 = .ok (.ireturn, 1) := by decide +kernel
theorem dX7_light_11 : decode cX7_light 11 = .ok (.aload_n 0, 1) := by decide +kernel
theorem dX7_light_12 : decode cX7_light 12 = .ok (.iload_n 1, 1) := by decide +kernel
theorem dX7_light_13 : decode cX7_light 13 = .ok (.invokevirtual 183, 3) := by decide +kernel
theorem dX7_light_16 : decode cX7_light 16 = .ok (.ifCond .ne 6, 3) := by decide +kernel
theorem dX7_light_19 : decode cX7_light 19 = .ok (.ldc 171, 2) := by decide +kernel
theorem dX7_light_21 : decode cX7_light 21 = .ok (.ireturn, 1) := by decide +kernel
theorem dX7_light_22 : decode cX7_light 22 = .ok (.aload_n 0, 1) := by decide +kernel
theorem dX7_light_23 : decode cX7_light 23 = .ok (.invokevirtual 174, 3) := by decide +kernel
theorem dX7_light_26 : decode cX7_light 26 = .ok (.aload_n 0, 1) := by decide +kernel
theorem dX7_light_27 : decode cX7_light 27 = .ok (.getfield 19, 3) := by decide +kernel
theorem dX7_light_30 : decode cX7_light 30 = .ok (.iconst 4, 1) := by decide +kernel
theorem dX7_light_31 : decode cX7_light 31 = .ok (.dup2, 1) := by decide +kernel
theorem dX7_light_32 : decode cX7_light 32 = .ok (.iaload, 1) := by decide +kernel
theorem dX7_light_33 : decode cX7_light 33 = .ok (.iconst 1, 1) := by decide +kernel
theorem dX7_light_34 : decode cX7_light 34 = .ok (.iload_n 1, 1) := by decide +kernel
theorem dX7_light_35 : decode cX7_light 35 = .ok (.ishl, 1) := by decide +kernel
theorem dX7_light_36 : decode cX7_light 36 = .ok (.ior, 1) := by decide +kernel
theorem dX7_light_37 : decode cX7_light 37 = .ok (.iastore, 1) := by decide +kernel
theorem dX7_light_38 : decode cX7_light 38 = .ok (.aload_n 0, 1) := by decide +kernel
theorem dX7_light_39 : decode cX7_light 39 = .ok (.getfield 19, 3) := by decide +kernel
theorem dX7_light_42 : decode cX7_light 42 = .ok (.iconst 4, 1) := by decide +kernel
theorem dX7_light_43 : decode cX7_light 43 = .ok (.iaload, 1) := by decide +kernel
theorem dX7_light_44 : decode cX7_light 44 = .ok (.ireturn, 1) := by decide +kernel
theorem dX7_waterBy_0 : decode cX7_waterBy 0 = .ok (.aload_n 0, 1) := by decide +kernel
theorem dX7_waterBy_1 : decode cX7_waterBy 1 = .ok (.getfield 19, 3) := by decide +kernel
theorem dX7_waterBy_4 : decode cX7_waterBy 4 = .ok (.bipush 22, 2) := by decide +kernel
theorem dX7_waterBy_6 : decode cX7_waterBy 6 = .ok (.iload_n 1, 1) := by decide +kernel
theorem dX7_waterBy_7 : decode cX7_waterBy 7 = .ok (.iadd, 1) := by decide +kernel
theorem dX7_waterBy_8 : decode cX7_waterBy 8 = .ok (.aload_n 0, 1) := by decide +kernel
theorem dX7_waterBy_9 : decode cX7_waterBy 9 = .ok (.getfield 19, 3) := by decide +kernel
theorem dX7_waterBy_12 : decode cX7_waterBy 12 = .ok (.bipush 22, 2) := by decide +kernel
theorem dX7_waterBy_14 : decode cX7_waterBy 14 = .ok (.iload_n 1, 1) := by decide +kernel
theorem dX7_waterBy_15 : decode cX7_waterBy 15 = .ok (.iadd, 1) := by decide +kernel
theorem dX7_waterBy_16 : decode cX7_waterBy 16 = .ok (.iaload, 1) := by decide +kernel
theorem dX7_waterBy_17 : decode cX7_waterBy 17 = .ok (.iload_n 2, 1) := by decide +kernel
theorem dX7_waterBy_18 : decode cX7_waterBy 18 = .ok (.iadd, 1) := by decide +kernel
theorem dX7_waterBy_19 : decode cX7_waterBy 19 = .ok (.bipush 20, 2) := by decide +kernel
theorem dX7_waterBy_21 : decode cX7_waterBy 21 = .ok (.if_icmp .le 8, 3) := by decide +kernel
theorem dX7_waterBy_24 : decode cX7_waterBy 24 = .ok (.bipush 20, 2) := by decide +kernel
theorem dX7_waterBy_26 : decode cX7_waterBy 26 = .ok (.goto 14, 3) := by decide +kernel
theorem dX7_waterBy_29 : decode cX7_waterBy 29 = .ok (.aload_n 0, 1) := by decide +kernel
theorem dX7_waterBy_30 : decode cX7_waterBy 30 = .ok (.getfield 19, 3) := by decide +kernel
theorem dX7_waterBy_33 : decode cX7_waterBy 33 = .ok (.bipush 22, 2) := by decide +kernel
theorem dX7_waterBy_35 : decode cX7_waterBy 35 = .ok (.iload_n 1, 1) := by decide +kernel
theorem dX7_waterBy_36 : decode cX7_waterBy 36 = .ok (.iadd, 1) := by decide +kernel
theorem dX7_waterBy_37 : decode cX7_waterBy 37 = .ok (.iaload, 1) := by decide +kernel
theorem dX7_waterBy_38 : decode cX7_waterBy 38 = .ok (.iload_n 2, 1) := by decide +kernel
theorem dX7_waterBy_39 : decode cX7_waterBy 39 = .ok (.iadd, 1) := by decide +kernel
theorem dX7_waterBy_40 : decode cX7_waterBy 40 = .ok (.iastore, 1) := by decide +kernel
theorem dX7_waterBy_41 : decode cX7_waterBy 41 = .ok (.aload_n 0, 1) := by decide +kernel
theorem dX7_waterBy_42 : decode cX7_waterBy 42 = .ok (.getfield 19, 3) := by decide +kernel
theorem dX7_waterBy_45 : decode cX7_waterBy 45 = .ok (.iconst 4, 1) := by decide +kernel
theorem dX7_waterBy_46 : decode cX7_waterBy 46 = .ok (.dup2, 1) := by decide +kernel
theorem dX7_waterBy_47 : decode cX7_waterBy 47 = .ok (.iaload, 1) := by decide +kernel
theorem dX7_waterBy_48 : decode cX7_waterBy 48 = .ok (.iconst 1, 1) := by decide +kernel
theorem dX7_waterBy_49 : decode cX7_waterBy 49 = .ok (.iload_n 1, 1) := by decide +kernel
theorem dX7_waterBy_50 : decode cX7_waterBy 50 = .ok (.ishl, 1) := by decide +kernel
theorem dX7_waterBy_51 : decode cX7_waterBy 51 = .ok (.iconst (-1), 1) := by decide +kernel
theorem dX7_waterBy_52 : decode cX7_waterBy 52 = .ok (.ixor, 1) := by decide +kernel
theorem dX7_waterBy_53 : decode cX7_waterBy 53 = .ok (.iand, 1) := by decide +kernel
theorem dX7_waterBy_54 : decode cX7_waterBy 54 = .ok (.iastore, 1) := by decide +kernel
theorem dX7_waterBy_55 : decode cX7_waterBy 55 = .ok (.return_, 1) := by decide +kernel
theorem dX7_water_0 : decode cX7_water 0 = .ok (.aload_n 0, 1) := by decide +kernel
theorem dX7_water_1 : decode cX7_water 1 = .ok (.iload_n 1, 1) := by decide +kernel
theorem dX7_water_2 : decode cX7_water 2 = .ok (.invokevirtual 180, 3) := by decide +kernel
theorem dX7_water_5 : decode cX7_water 5 = .ok (.ifCond .eq 15, 3) := by decide +kernel
theorem dX7_water_8 : decode cX7_water 8 = .ok (.iload_n 2, 1) := by decide +kernel
theorem dX7_water_9 : decode cX7_water 9 = .ok (.i2l, 1) := by decide +kernel
theorem dX7_water_10 : decode cX7_water 10 = .ok (.lconst 1, 1) := by decide +kernel
theorem dX7_water_11 : decode cX7_water 11 = .ok (.ldc2_w 186, 3) := by decide +kernel
theorem dX7_water_14 : decode cX7_water 14 = .ok (.invokestatic 57, 3) := by decide +kernel
theorem dX7_water_17 : decode cX7_water 17 = .ok (.ifCond .ne 6, 3) := by decide +kernel
theorem dX7_water_20 : decode cX7_water 20 = .ok (.ldc 67, 2) := by decide +kernel
theorem dX7_water_22 : decode cX7_water 22 = .ok (.ireturn, 1) := by decide +kernel
theorem dX7_water_23 : decode cX7_water 23 = .ok (.aload_n 0, 1) := by decide +kernel
theorem dX7_water_24 : decode cX7_water 24 = .ok (.getfield 19, 3) := by decide +kernel
theorem dX7_water_27 : decode cX7_water 27 = .ok (.iconst 5, 1) := by decide +kernel
theorem dX7_water_28 : decode cX7_water 28 = .ok (.iaload, 1) := by decide +kernel
theorem dX7_water_29 : decode cX7_water 29 = .ok (.iload_n 1, 1) := by decide +kernel
theorem dX7_water_30 : decode cX7_water 30 = .ok (.invokestatic 145, 3) := by decide +kernel
theorem dX7_water_33 : decode cX7_water 33 = .ok (.ifCond .eq 6, 3) := by decide +kernel
theorem dX7_water_36 : decode cX7_water 36 = .ok (.ldc 171, 2) := by decide +kernel
theorem dX7_water_38 : decode cX7_water 38 = .ok (.ireturn, 1) := by decide +kernel
theorem dX7_water_39 : decode cX7_water 39 = .ok (.aload_n 0, 1) := by decide +kernel
theorem dX7_water_40 : decode cX7_water 40 = .ok (.invokevirtual 174, 3) := by decide +kernel
theorem dX7_water_43 : decode cX7_water 43 = .ok (.aload_n 0, 1) := by decide +kernel
theorem dX7_water_44 : decode cX7_water 44 = .ok (.iload_n 1, 1) := by decide +kernel
theorem dX7_water_45 : decode cX7_water 45 = .ok (.iload_n 2, 1) := by decide +kernel
theorem dX7_water_46 : decode cX7_water 46 = .ok (.invokevirtual 188, 3) := by decide +kernel
theorem dX7_water_49 : decode cX7_water 49 = .ok (.aload_n 0, 1) := by decide +kernel
theorem dX7_water_50 : decode cX7_water 50 = .ok (.getfield 19, 3) := by decide +kernel
theorem dX7_water_53 : decode cX7_water 53 = .ok (.bipush 22, 2) := by decide +kernel
theorem dX7_water_55 : decode cX7_water 55 = .ok (.iload_n 1, 1) := by decide +kernel
theorem dX7_water_56 : decode cX7_water 56 = .ok (.iadd, 1) := by decide +kernel
theorem dX7_water_57 : decode cX7_water 57 = .ok (.iaload, 1) := by decide +kernel
theorem dX7_water_58 : decode cX7_water 58 = .ok (.ireturn, 1) := by decide +kernel
theorem dX7_rake_0 : decode cX7_rake 0 = .ok (.aload_n 0, 1) := by decide +kernel
theorem dX7_rake_1 : decode cX7_rake 1 = .ok (.iload_n 1, 1) := by decide +kernel
theorem dX7_rake_2 : decode cX7_rake 2 = .ok (.invokevirtual 180, 3) := by decide +kernel
theorem dX7_rake_5 : decode cX7_rake 5 = .ok (.ifCond .eq 13, 3) := by decide +kernel
theorem dX7_rake_8 : decode cX7_rake 8 = .ok (.iload_n 2, 1) := by decide +kernel
theorem dX7_rake_9 : decode cX7_rake 9 = .ok (.i2l, 1) := by decide +kernel
theorem dX7_rake_10 : decode cX7_rake 10 = .ok (.lconst 0, 1) := by decide +kernel
theorem dX7_rake_11 : decode cX7_rake 11 = .ok (.lconst 1, 1) := by decide +kernel
theorem dX7_rake_12 : decode cX7_rake 12 = .ok (.invokestatic 57, 3) := by decide +kernel
theorem dX7_rake_15 : decode cX7_rake 15 = .ok (.ifCond .ne 6, 3) := by decide +kernel
theorem dX7_rake_18 : decode cX7_rake 18 = .ok (.ldc 67, 2) := by decide +kernel
theorem dX7_rake_20 : decode cX7_rake 20 = .ok (.ireturn, 1) := by decide +kernel
theorem dX7_rake_21 : decode cX7_rake 21 = .ok (.aload_n 0, 1) := by decide +kernel
theorem dX7_rake_22 : decode cX7_rake 22 = .ok (.getfield 19, 3) := by decide +kernel
theorem dX7_rake_25 : decode cX7_rake 25 = .ok (.iconst 5, 1) := by decide +kernel
theorem dX7_rake_26 : decode cX7_rake 26 = .ok (.iaload, 1) := by decide +kernel
theorem dX7_rake_27 : decode cX7_rake 27 = .ok (.iload_n 1, 1) := by decide +kernel
theorem dX7_rake_28 : decode cX7_rake 28 = .ok (.invokestatic 145, 3) := by decide +kernel
theorem dX7_rake_31 : decode cX7_rake 31 = .ok (.iload_n 2, 1) := by decide +kernel
theorem dX7_rake_32 : decode cX7_rake 32 = .ok (.iconst 1, 1) := by decide +kernel
theorem dX7_rake_33 : decode cX7_rake 33 = .ok (.if_icmp .ne 7, 3) := by decide +kernel
theorem dX7_rake_36 : decode cX7_rake 36 = .ok (.iconst 1, 1) := by decide +kernel
theorem dX7_rake_37 : decode cX7_rake 37 = .ok (.goto 4, 3) := by decide +kernel
theorem dX7_rake_40 : decode cX7_rake 40 = .ok (.iconst 0, 1) := by decide +kernel
theorem dX7_rake_41 : decode cX7_rake 41 = .ok (.if_icmp .ne 6, 3) := by decide +kernel
theorem dX7_rake_44 : decode cX7_rake 44 = .ok (.ldc 171, 2) := by decide +kernel
theorem dX7_rake_46 : decode cX7_rake 46 = .ok (.ireturn, 1) := by decide +kernel
theorem dX7_rake_47 : decode cX7_rake 47 = .ok (.aload_n 0, 1) := by decide +kernel
theorem dX7_rake_48 : decode cX7_rake 48 = .ok (.invokevirtual 174, 3) := by decide +kernel
theorem dX7_rake_51 : decode cX7_rake 51 = .ok (.aload_n 0, 1) := by decide +kernel
theorem dX7_rake_52 : decode cX7_rake 52 = .ok (.getfield 19, 3) := by decide +kernel
theorem dX7_rake_55 : decode cX7_rake 55 = .ok (.iconst 5, 1) := by decide +kernel
theorem dX7_rake_56 : decode cX7_rake 56 = .ok (.dup2, 1) := by decide +kernel
theorem dX7_rake_57 : decode cX7_rake 57 = .ok (.iaload, 1) := by decide +kernel
theorem dX7_rake_58 : decode cX7_rake 58 = .ok (.iconst 1, 1) := by decide +kernel
theorem dX7_rake_59 : decode cX7_rake 59 = .ok (.iload_n 1, 1) := by decide +kernel
theorem dX7_rake_60 : decode cX7_rake 60 = .ok (.ishl, 1) := by decide +kernel
theorem dX7_rake_61 : decode cX7_rake 61 = .ok (.ixor, 1) := by decide +kernel
theorem dX7_rake_62 : decode cX7_rake 62 = .ok (.iastore, 1) := by decide +kernel
theorem dX7_rake_63 : decode cX7_rake 63 = .ok (.aload_n 0, 1) := by decide +kernel
theorem dX7_rake_64 : decode cX7_rake 64 = .ok (.getfield 19, 3) := by decide +kernel
theorem dX7_rake_67 : decode cX7_rake 67 = .ok (.iconst 4, 1) := by decide +kernel
theorem dX7_rake_68 : decode cX7_rake 68 = .ok (.dup2, 1) := by decide +kernel
theorem dX7_rake_69 : decode cX7_rake 69 = .ok (.iaload, 1) := by decide +kernel
theorem dX7_rake_70 : decode cX7_rake 70 = .ok (.iconst 1, 1) := by decide +kernel
theorem dX7_rake_71 : decode cX7_rake 71 = .ok (.iload_n 1, 1) := by decide +kernel
theorem dX7_rake_72 : decode cX7_rake 72 = .ok (.ishl, 1) := by decide +kernel
theorem dX7_rake_73 : decode cX7_rake 73 = .ok (.iconst (-1), 1) := by decide +kernel
theorem dX7_rake_74 : decode cX7_rake 74 = .ok (.ixor, 1) := by decide +kernel
theorem dX7_rake_75 : decode cX7_rake 75 = .ok (.iand, 1) := by decide +kernel
theorem dX7_rake_76 : decode cX7_rake 76 = .ok (.iastore, 1) := by decide +kernel
theorem dX7_rake_77 : decode cX7_rake 77 = .ok (.aload_n 0, 1) := by decide +kernel
theorem dX7_rake_78 : decode cX7_rake 78 = .ok (.getfield 19, 3) := by decide +kernel
theorem dX7_rake_81 : decode cX7_rake 81 = .ok (.iconst 5, 1) := by decide +kernel
theorem dX7_rake_82 : decode cX7_rake 82 = .ok (.iaload, 1) := by decide +kernel
theorem dX7_rake_83 : decode cX7_rake 83 = .ok (.ireturn, 1) := by decide +kernel
theorem dX7_exchange_0 : decode cX7_exchange 0 = .ok (.aload_n 0, 1) := by decide +kernel
theorem dX7_exchange_1 : decode cX7_exchange 1 = .ok (.getfield 19, 3) := by decide +kernel
theorem dX7_exchange_4 : decode cX7_exchange 4 = .ok (.bipush 30, 2) := by decide +kernel
theorem dX7_exchange_6 : decode cX7_exchange 6 = .ok (.iload_n 1, 1) := by decide +kernel
theorem dX7_exchange_7 : decode cX7_exchange 7 = .ok (.iadd, 1) := by decide +kernel
theorem dX7_exchange_8 : decode cX7_exchange 8 = .ok (.iaload, 1) := by decide +kernel
theorem dX7_exchange_9 : decode cX7_exchange 9 = .ok (.istore_n 3, 1) := by decide +kernel
theorem dX7_exchange_10 : decode cX7_exchange 10 = .ok (.aload_n 0, 1) := by decide +kernel
theorem dX7_exchange_11 : decode cX7_exchange 11 = .ok (.getfield 19, 3) := by decide +kernel
theorem dX7_exchange_14 : decode cX7_exchange 14 = .ok (.bipush 30, 2) := by decide +kernel
theorem dX7_exchange_16 : decode cX7_exchange 16 = .ok (.iload_n 1, 1) := by decide +kernel
theorem dX7_exchange_17 : decode cX7_exchange 17 = .ok (.iadd, 1) := by decide +kernel
theorem dX7_exchange_18 : decode cX7_exchange 18 = .ok (.aload_n 0, 1) := by decide +kernel
theorem dX7_exchange_19 : decode cX7_exchange 19 = .ok (.getfield 19, 3) := by decide +kernel
