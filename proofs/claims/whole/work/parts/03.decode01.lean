theorem dX3_operate_102 : decode cX3_operate 102 = .ok (.aload_n 0, 1) := by decide +kernel
theorem dX3_operate_103 : decode cX3_operate 103 = .ok (.aload_n 0, 1) := by decide +kernel
theorem dX3_operate_104 : decode cX3_operate 104 = .ok (.invokevirtual 54, 3) := by decide +kernel
theorem dX3_operate_107 : decode cX3_operate 107 = .ok (.ifCond .eq 8, 3) := by decide +kernel
theorem dX3_operate_110 : decode cX3_operate 110 = .ok (.iload_n 3, 1) := by decide +kernel
theorem dX3_operate_111 : decode cX3_operate 111 = .ok (.i2l, 1) := by decide +kernel
theorem dX3_operate_112 : decode cX3_operate 112 = .ok (.goto 5, 3) := by decide +kernel
theorem dX3_operate_115 : decode cX3_operate 115 = .ok (.iload_n 2, 1) := by decide +kernel
theorem dX3_operate_116 : decode cX3_operate 116 = .ok (.i2l, 1) := by decide +kernel
theorem dX3_operate_117 : decode cX3_operate 117 = .ok (.invokevirtual 43, 3) := by decide +kernel
theorem dX3_operate_120 : decode cX3_operate 120 = .ok (.goto 16, 3) := by decide +kernel
theorem dX3_operate_123 : decode cX3_operate 123 = .ok (.aload_n 0, 1) := by decide +kernel
theorem dX3_operate_124 : decode cX3_operate 124 = .ok (.iload_n 1, 1) := by decide +kernel
theorem dX3_operate_125 : decode cX3_operate 125 = .ok (.aload_n 0, 1) := by decide +kernel
theorem dX3_operate_126 : decode cX3_operate 126 = .ok (.invokevirtual 54, 3) := by decide +kernel
theorem dX3_operate_129 : decode cX3_operate 129 = .ok (.iload_n 2, 1) := by decide +kernel
theorem dX3_operate_130 : decode cX3_operate 130 = .ok (.invokestatic 62, 3) := by decide +kernel
theorem dX3_operate_133 : decode cX3_operate 133 = .ok (.invokevirtual 43, 3) := by decide +kernel
theorem dX3_operate_136 : decode cX3_operate 136 = .ok (.return_, 1) := by decide +kernel
theorem dX3_operated_0 : decode cX3_operated 0 = .ok (.iload_n 0, 1) := by decide +kernel
theorem dX3_operated_1 : decode cX3_operated 1 = .ok (.tableswitch 190 26 42 #[185, 180, 190, 190, 114, 136, 158, 169, 83, 89, 95, 101, 190, 190, 190, 125, 147], 83) := by decide +kernel
theorem dX3_operated_84 : decode cX3_operated 84 = .ok (.iload_n 1, 1) := by decide +kernel
theorem dX3_operated_85 : decode cX3_operated 85 = .ok (.i2l, 1) := by decide +kernel
theorem dX3_operated_86 : decode cX3_operated 86 = .ok (.iload_n 2, 1) := by decide +kernel
theorem dX3_operated_87 : decode cX3_operated 87 = .ok (.i2l, 1) := by decide +kernel
theorem dX3_operated_88 : decode cX3_operated 88 = .ok (.ladd, 1) := by decide +kernel
theorem dX3_operated_89 : decode cX3_operated 89 = .ok (.lreturn, 1) := by decide +kernel
theorem dX3_operated_90 : decode cX3_operated 90 = .ok (.iload_n 1, 1) := by decide +kernel
theorem dX3_operated_91 : decode cX3_operated 91 = .ok (.i2l, 1) := by decide +kernel
theorem dX3_operated_92 : decode cX3_operated 92 = .ok (.iload_n 2, 1) := by decide +kernel
theorem dX3_operated_93 : decode cX3_operated 93 = .ok (.i2l, 1) := by decide +kernel
theorem dX3_operated_94 : decode cX3_operated 94 = .ok (.lsub, 1) := by decide +kernel
theorem dX3_operated_95 : decode cX3_operated 95 = .ok (.lreturn, 1) := by decide +kernel
theorem dX3_operated_96 : decode cX3_operated 96 = .ok (.iload_n 1, 1) := by decide +kernel
theorem dX3_operated_97 : decode cX3_operated 97 = .ok (.i2l, 1) := by decide +kernel
theorem dX3_operated_98 : decode cX3_operated 98 = .ok (.iload_n 2, 1) := by decide +kernel
theorem dX3_operated_99 : decode cX3_operated 99 = .ok (.i2l, 1) := by decide +kernel
theorem dX3_operated_100 : decode cX3_operated 100 = .ok (.lmul, 1) := by decide +kernel
theorem dX3_operated_101 : decode cX3_operated 101 = .ok (.lreturn, 1) := by decide +kernel
theorem dX3_operated_102 : decode cX3_operated 102 = .ok (.iload_n 2, 1) := by decide +kernel
theorem dX3_operated_103 : decode cX3_operated 103 = .ok (.ifCond .ne 7, 3) := by decide +kernel
theorem dX3_operated_106 : decode cX3_operated 106 = .ok (.lconst 0, 1) := by decide +kernel
theorem dX3_operated_107 : decode cX3_operated 107 = .ok (.goto 7, 3) := by decide +kernel
theorem dX3_operated_110 : decode cX3_operated 110 = .ok (.iload_n 1, 1) := by decide +kernel
theorem dX3_operated_111 : decode cX3_operated 111 = .ok (.iload_n 2, 1) := by decide +kernel
theorem dX3_operated_112 : decode cX3_operated 112 = .ok (.idiv, 1) := by decide +kernel
theorem dX3_operated_113 : decode cX3_operated 113 = .ok (.i2l, 1) := by decide +kernel
theorem dX3_operated_114 : decode cX3_operated 114 = .ok (.lreturn, 1) := by decide +kernel
theorem dX3_operated_115 : decode cX3_operated 115 = .ok (.iload_n 1, 1) := by decide +kernel
theorem dX3_operated_116 : decode cX3_operated 116 = .ok (.iload_n 2, 1) := by decide +kernel
theorem dX3_operated_117 : decode cX3_operated 117 = .ok (.if_icmp .ge 7, 3) := by decide +kernel
theorem dX3_operated_120 : decode cX3_operated 120 = .ok (.lconst 1, 1) := by decide +kernel
theorem dX3_operated_121 : decode cX3_operated 121 = .ok (.goto 4, 3) := by decide +kernel
theorem dX3_operated_124 : decode cX3_operated 124 = .ok (.lconst 0, 1) := by decide +kernel
theorem dX3_operated_125 : decode cX3_operated 125 = .ok (.lreturn, 1) := by decide +kernel
theorem dX3_operated_126 : decode cX3_operated 126 = .ok (.iload_n 1, 1) := by decide +kernel
theorem dX3_operated_127 : decode cX3_operated 127 = .ok (.iload_n 2, 1) := by decide +kernel
theorem dX3_operated_128 : decode cX3_operated 128 = .ok (.if_icmp .gt 7, 3) := by decide +kernel
theorem dX3_operated_131 : decode cX3_operated 131 = .ok (.lconst 1, 1) := by decide +kernel
theorem dX3_operated_132 : decode cX3_operated 132 = .ok (.goto 4, 3) := by decide +kernel
theorem dX3_operated_135 : decode cX3_operated 135 = .ok (.lconst 0, 1) := by decide +kernel
theorem dX3_operated_136 : decode cX3_operated 136 = .ok (.lreturn, 1) := by decide +kernel
theorem dX3_operated_137 : decode cX3_operated 137 = .ok (.iload_n 1, 1) := by decide +kernel
theorem dX3_operated_138 : decode cX3_operated 138 = .ok (.iload_n 2, 1) := by decide +kernel
theorem dX3_operated_139 : decode cX3_operated 139 = .ok (.if_icmp .le 7, 3) := by decide +kernel
theorem dX3_operated_142 : decode cX3_operated 142 = .ok (.lconst 1, 1) := by decide +kernel
theorem dX3_operated_143 : decode cX3_operated 143 = .ok (.goto 4, 3) := by decide +kernel
theorem dX3_operated_146 : decode cX3_operated 146 = .ok (.lconst 0, 1) := by decide +kernel
theorem dX3_operated_147 : decode cX3_operated 147 = .ok (.lreturn, 1) := by decide +kernel
theorem dX3_operated_148 : decode cX3_operated 148 = .ok (.iload_n 1, 1) := by decide +kernel
theorem dX3_operated_149 : decode cX3_operated 149 = .ok (.iload_n 2, 1) := by decide +kernel
theorem dX3_operated_150 : decode cX3_operated 150 = .ok (.if_icmp .lt 7, 3) := by decide +kernel
theorem dX3_operated_153 : decode cX3_operated 153 = .ok (.lconst 1, 1) := by decide +kernel
theorem dX3_operated_154 : decode cX3_operated 154 = .ok (.goto 4, 3) := by decide +kernel
theorem dX3_operated_157 : decode cX3_operated 157 = .ok (.lconst 0, 1) := by decide +kernel
theorem dX3_operated_158 : decode cX3_operated 158 = .ok (.lreturn, 1) := by decide +kernel
theorem dX3_operated_159 : decode cX3_operated 159 = .ok (.iload_n 1, 1) := by decide +kernel
theorem dX3_operated_160 : decode cX3_operated 160 = .ok (.iload_n 2, 1) := by decide +kernel
theorem dX3_operated_161 : decode cX3_operated 161 = .ok (.if_icmp .ne 7, 3) := by decide +kernel
theorem dX3_operated_164 : decode cX3_operated 164 = .ok (.lconst 1, 1) := by decide +kernel
theorem dX3_operated_165 : decode cX3_operated 165 = .ok (.goto 4, 3) := by decide +kernel
theorem dX3_operated_168 : decode cX3_operated 168 = .ok (.lconst 0, 1) := by decide +kernel
theorem dX3_operated_169 : decode cX3_operated 169 = .ok (.lreturn, 1) := by decide +kernel
theorem dX3_operated_170 : decode cX3_operated 170 = .ok (.iload_n 1, 1) := by decide +kernel
theorem dX3_operated_171 : decode cX3_operated 171 = .ok (.iload_n 2, 1) := by decide +kernel
theorem dX3_operated_172 : decode cX3_operated 172 = .ok (.if_icmp .eq 7, 3) := by decide +kernel
theorem dX3_operated_175 : decode cX3_operated 175 = .ok (.lconst 1, 1) := by decide +kernel
theorem dX3_operated_176 : decode cX3_operated 176 = .ok (.goto 4, 3) := by decide +kernel
theorem dX3_operated_179 : decode cX3_operated 179 = .ok (.lconst 0, 1) := by decide +kernel
theorem dX3_operated_180 : decode cX3_operated 180 = .ok (.lreturn, 1) := by decide +kernel
theorem dX3_operated_181 : decode cX3_operated 181 = .ok (.iload_n 1, 1) := by decide +kernel
theorem dX3_operated_182 : decode cX3_operated 182 = .ok (.iload_n 2, 1) := by decide +kernel
theorem dX3_operated_183 : decode cX3_operated 183 = .ok (.iand, 1) := by decide +kernel
theorem dX3_operated_184 : decode cX3_operated 184 = .ok (.i2l, 1) := by decide +kernel
theorem dX3_operated_185 : decode cX3_operated 185 = .ok (.lreturn, 1) := by decide +kernel
theorem dX3_operated_186 : decode cX3_operated 186 = .ok (.iload_n 1, 1) := by decide +kernel
theorem dX3_operated_187 : decode cX3_operated 187 = .ok (.iload_n 2, 1) := by decide +kernel
theorem dX3_operated_188 : decode cX3_operated 188 = .ok (.ior, 1) := by decide +kernel
theorem dX3_operated_189 : decode cX3_operated 189 = .ok (.i2l, 1) := by decide +kernel
theorem dX3_operated_190 : decode cX3_operated 190 = .ok (.lreturn, 1) := by decide +kernel
theorem dX3_operated_191 : decode cX3_operated 191 = .ok (.lconst 0, 1) := by decide +kernel
theorem dX3_operated_192 : decode cX3_operated 192 = .ok (.lreturn, 1) := by decide +kernel
theorem dX4_init_0 : decode cX4_init 0 = .ok (.aload_n 0, 1) := by decide +kernel
theorem dX4_init_1 : decode cX4_init 1 = .ok (.invokespecial 3, 3) := by decide +kernel
theorem dX4_init_4 : decode cX4_init 4 = .ok (.aload_n 0, 1) := by decide +kernel
theorem dX4_init_5 : decode cX4_init 5 = .ok (.sipush 2520, 3) := by decide +kernel
theorem dX4_init_8 : decode cX4_init 8 = .ok (.newarray .int, 2) := by decide +kernel
theorem dX4_init_10 : decode cX4_init 10 = .ok (.putfield 11, 3) := by decide +kernel
theorem dX4_init_13 : decode cX4_init 13 = .ok (.aload_n 0, 1) := by decide +kernel
theorem dX4_init_14 : decode cX4_init 14 = .ok (.sipush 2520, 3) := by decide +kernel
theorem dX4_init_17 : decode cX4_init 17 = .ok (.newarray .int, 2) := by decide +kernel
theorem dX4_init_19 : decode cX4_init 19 = .ok (.putfield 15, 3) := by decide +kernel
theorem dX4_init_22 : decode cX4_init 22 = .ok (.aload_n 0, 1) := by decide +kernel
theorem dX4_init_23 : decode cX4_init 23 = .ok (.sipush 1024, 3) := by decide +kernel
theorem dX4_init_26 : decode cX4_init 26 = .ok (.newarray .int, 2) := by decide +kernel
theorem dX4_init_28 : decode cX4_init 28 = .ok (.putfield 18, 3) := by decide +kernel
theorem dX4_init_31 : decode cX4_init 31 = .ok (.aload_n 0, 1) := by decide +kernel
theorem dX4_init_32 : decode cX4_init 32 = .ok (.bipush 8, 2) := by decide +kernel
theorem dX4_init_34 : decode cX4_init 34 = .ok (.newarray .int, 2) := by decide +kernel
theorem dX4_init_36 : decode cX4_init 36 = .ok (.putfield 21, 3) := by decide +kernel
theorem dX4_init_39 : decode cX4_init 39 = .ok (.aload_n 0, 1) := by decide +kernel
theorem dX4_init_40 : decode cX4_init 40 = .ok (.iconst 3, 1) := by decide +kernel
theorem dX4_init_41 : decode cX4_init 41 = .ok (.newarray .int, 2) := by decide +kernel
theorem dX4_init_43 : decode cX4_init 43 = .ok (.putfield 24, 3) := by decide +kernel
theorem dX4_init_46 : decode cX4_init 46 = .ok (.return_, 1) := by decide +kernel
theorem dX4_codeOf_0 : decode cX4_codeOf 0 = .ok (.iconst 0, 1) := by decide +kernel
theorem dX4_codeOf_1 : decode cX4_codeOf 1 = .ok (.istore_n 1, 1) := by decide +kernel
theorem dX4_codeOf_2 : decode cX4_codeOf 2 = .ok (.iconst 0, 1) := by decide +kernel
theorem dX4_codeOf_3 : decode cX4_codeOf 3 = .ok (.istore_n 2, 1) := by decide +kernel
theorem dX4_codeOf_4 : decode cX4_codeOf 4 = .ok (.iload_n 2, 1) := by decide +kernel
theorem dX4_codeOf_5 : decode cX4_codeOf 5 = .ok (.iconst 3, 1) := by decide +kernel
theorem dX4_codeOf_6 : decode cX4_codeOf 6 = .ok (.if_icmp .ge 53, 3) := by decide +kernel
theorem dX4_codeOf_9 : decode cX4_codeOf 9 = .ok (.iconst 5, 1) := by decide +kernel
theorem dX4_codeOf_10 : decode cX4_codeOf 10 = .ok (.iload_n 2, 1) := by decide +kernel
theorem dX4_codeOf_11 : decode cX4_codeOf 11 = .ok (.iadd, 1) := by decide +kernel
theorem dX4_codeOf_12 : decode cX4_codeOf 12 = .ok (.istore_n 3, 1) := by decide +kernel
theorem dX4_codeOf_13 : decode cX4_codeOf 13 = .ok (.iconst 0, 1) := by decide +kernel
theorem dX4_codeOf_14 : decode cX4_codeOf 14 = .ok (.istore 4, 2) := by decide +kernel
theorem dX4_codeOf_16 : decode cX4_codeOf 16 = .ok (.iload 4, 2) := by decide +kernel
theorem dX4_codeOf_18 : decode cX4_codeOf 18 = .ok (.aload_n 0, 1) := by decide +kernel
theorem dX4_codeOf_19 : decode cX4_codeOf 19 = .ok (.iload_n 2, 1) := by decide +kernel
theorem dX4_codeOf_20 : decode cX4_codeOf 20 = .ok (.invokevirtual 27, 3) := by decide +kernel
theorem dX4_codeOf_23 : decode cX4_codeOf 23 = .ok (.if_icmp .ge 30, 3) := by decide +kernel
theorem dX4_codeOf_26 : decode cX4_codeOf 26 = .ok (.aload_n 0, 1) := by decide +kernel
theorem dX4_codeOf_27 : decode cX4_codeOf 27 = .ok (.iload_n 2, 1) := by decide +kernel
theorem dX4_codeOf_28 : decode cX4_codeOf 28 = .ok (.iload 4, 2) := by decide +kernel
theorem dX4_codeOf_30 : decode cX4_codeOf 30 = .ok (.invokevirtual 33, 3) := by decide +kernel
theorem dX4_codeOf_33 : decode cX4_codeOf 33 = .ok (.istore 5, 2) := by decide +kernel
theorem dX4_codeOf_35 : decode cX4_codeOf 35 = .ok (.iload_n 1, 1) := by decide +kernel
theorem dX4_codeOf_36 : decode cX4_codeOf 36 = .ok (.iload_n 3, 1) := by decide +kernel
theorem dX4_codeOf_37 : decode cX4_codeOf 37 = .ok (.iconst 3, 1) := by decide +kernel
theorem dX4_codeOf_38 : decode cX4_codeOf 38 = .ok (.iload 5, 2) := by decide +kernel
theorem dX4_codeOf_40 : decode cX4_codeOf 40 = .ok (.imul, 1) := by decide +kernel
theorem dX4_codeOf_41 : decode cX4_codeOf 41 = .ok (.ishl, 1) := by decide +kernel
theorem dX4_codeOf_42 : decode cX4_codeOf 42 = .ok (.ior, 1) := by decide +kernel
theorem dX4_codeOf_43 : decode cX4_codeOf 43 = .ok (.istore_n 1, 1) := by decide +kernel
theorem dX4_codeOf_44 : decode cX4_codeOf 44 = .ok (.iload 5, 2) := by decide +kernel
theorem dX4_codeOf_46 : decode cX4_codeOf 46 = .ok (.istore_n 3, 1) := by decide +kernel
theorem dX4_codeOf_47 : decode cX4_codeOf 47 = .ok (.iinc 4 1, 3) := by decide +kernel
theorem dX4_codeOf_50 : decode cX4_codeOf 50 = .ok (.goto (-34), 3) := by decide +kernel
theorem dX4_codeOf_53 : decode cX4_codeOf 53 = .ok (.iinc 2 1, 3) := by decide +kernel
theorem dX4_codeOf_56 : decode cX4_codeOf 56 = .ok (.goto (-52), 3) := by decide +kernel
theorem dX4_codeOf_59 : decode cX4_codeOf 59 = .ok (.iload_n 1, 1) := by decide +kernel
theorem dX4_codeOf_60 : decode cX4_codeOf 60 = .ok (.ireturn, 1) := by decide +kernel
theorem dX4_belowOf_0 : decode cX4_belowOf 0 = .ok (.iload_n 0, 1) := by decide +kernel
theorem dX4_belowOf_1 : decode cX4_belowOf 1 = .ok (.iconst 3, 1) := by decide +kernel
theorem dX4_belowOf_2 : decode cX4_belowOf 2 = .ok (.iload_n 1, 1) := by decide +kernel
theorem dX4_belowOf_3 : decode cX4_belowOf 3 = .ok (.imul, 1) := by decide +kernel
theorem dX4_belowOf_4 : decode cX4_belowOf 4 = .ok (.ishr, 1) := by decide +kernel
theorem dX4_belowOf_5 : decode cX4_belowOf 5 = .ok (.bipush 7, 2) := by decide +kernel
theorem dX4_belowOf_7 : decode cX4_belowOf 7 = .ok (.iand, 1) := by decide +kernel
theorem dX4_belowOf_8 : decode cX4_belowOf 8 = .ok (.ireturn, 1) := by decide +kernel
theorem dX4_trackIn_0 : decode cX4_trackIn 0 = .ok (.iload_n 0, 1) := by decide +kernel
theorem dX4_trackIn_1 : decode cX4_trackIn 1 = .ok (.iload_n 1, 1) := by decide +kernel
theorem dX4_trackIn_2 : decode cX4_trackIn 2 = .ok (.invokestatic 37, 3) := by decide +kernel
theorem dX4_trackIn_5 : decode cX4_trackIn 5 = .ok (.istore_n 2, 1) := by decide +kernel
theorem dX4_trackIn_6 : decode cX4_trackIn 6 = .ok (.iconst 0, 1) := by decide +kernel
theorem dX4_trackIn_7 : decode cX4_trackIn 7 = .ok (.istore_n 3, 1) := by decide +kernel
theorem dX4_trackIn_8 : decode cX4_trackIn 8 = .ok (.iload_n 3, 1) := by decide +kernel
theorem dX4_trackIn_9 : decode cX4_trackIn 9 = .ok (.iconst 5, 1) := by decide +kernel
theorem dX4_trackIn_10 : decode cX4_trackIn 10 = .ok (.if_icmp .ge 20, 3) := by decide +kernel
theorem dX4_trackIn_13 : decode cX4_trackIn 13 = .ok (.iload_n 2, 1) := by decide +kernel
theorem dX4_trackIn_14 : decode cX4_trackIn 14 = .ok (.iconst 5, 1) := by decide +kernel
theorem dX4_trackIn_15 : decode cX4_trackIn 15 = .ok (.if_icmp .ge 15, 3) := by decide +kernel
theorem dX4_trackIn_18 : decode cX4_trackIn 18 = .ok (.iload_n 0, 1) := by decide +kernel
theorem dX4_trackIn_19 : decode cX4_trackIn 19 = .ok (.iload_n 2, 1) := by decide +kernel
theorem dX4_trackIn_20 : decode cX4_trackIn 20 = .ok (.invokestatic 37, 3) := by decide +kernel
theorem dX4_trackIn_23 : decode cX4_trackIn 23 = .ok (.istore_n 2, 1) := by decide +kernel
theorem dX4_trackIn_24 : decode cX4_trackIn 24 = .ok (.iinc 3 1, 3) := by decide +kernel
theorem dX4_trackIn_27 : decode cX4_trackIn 27 = .ok (.goto (-19), 3) := by decide +kernel
theorem dX4_trackIn_30 : decode cX4_trackIn 30 = .ok (.iload_n 2, 1) := by decide +kernel
theorem dX4_trackIn_31 : decode cX4_trackIn 31 = .ok (.iconst 5, 1) := by decide +kernel
theorem dX4_trackIn_32 : decode cX4_trackIn 32 = .ok (.isub, 1) := by decide +kernel
theorem dX4_trackIn_33 : decode cX4_trackIn 33 = .ok (.ireturn, 1) := by decide +kernel
theorem dX4_explore_0 : decode cX4_explore 0 = .ok (.aload_n 0, 1) := by decide +kernel
theorem dX4_explore_1 : decode cX4_explore 1 = .ok (.getfield 40, 3) := by decide +kernel
theorem dX4_explore_4 : decode cX4_explore 4 = .ok (.ifCond .le 30, 3) := by decide +kernel
theorem dX4_explore_7 : decode cX4_explore 7 = .ok (.aload_n 0, 1) := by decide +kernel
theorem dX4_explore_8 : decode cX4_explore 8 = .ok (.getfield 11, 3) := by decide +kernel
theorem dX4_explore_11 : decode cX4_explore 11 = .ok (.iconst 0, 1) := by decide +kernel
theorem dX4_explore_12 : decode cX4_explore 12 = .ok (.iaload, 1) := by decide +kernel
theorem dX4_explore_13 : decode cX4_explore 13 = .ok (.iload_n 1, 1) := by decide +kernel
theorem dX4_explore_14 : decode cX4_explore 14 = .ok (.if_icmp .ne 20, 3) := by decide +kernel
theorem dX4_explore_17 : decode cX4_explore 17 = .ok (.aload_n 0, 1) := by decide +kernel
theorem dX4_explore_18 : decode cX4_explore 18 = .ok (.getfield 44, 3) := by decide +kernel
theorem dX4_explore_21 : decode cX4_explore 21 = .ok (.iload_n 2, 1) := by decide +kernel
theorem dX4_explore_22 : decode cX4_explore 22 = .ok (.if_icmp .ne 12, 3) := by decide +kernel
theorem dX4_explore_25 : decode cX4_explore 25 = .ok (.aload_n 0, 1) := by decide +kernel
theorem dX4_explore_26 : decode cX4_explore 26 = .ok (.getfield 47, 3) := by decide +kernel
theorem dX4_explore_29 : decode cX4_explore 29 = .ok (.iload_n 3, 1) := by decide +kernel
theorem dX4_explore_30 : decode cX4_explore 30 = .ok (.if_icmp .ne 4, 3) := by decide +kernel
theorem dX4_explore_33 : decode cX4_explore 33 = .ok (.return_, 1) := by decide +kernel
theorem dX4_explore_34 : decode cX4_explore 34 = .ok (.aload_n 0, 1) := by decide +kernel
theorem dX4_explore_35 : decode cX4_explore 35 = .ok (.iload_n 2, 1) := by decide +kernel
theorem dX4_explore_36 : decode cX4_explore 36 = .ok (.putfield 44, 3) := by decide +kernel
theorem dX4_explore_39 : decode cX4_explore 39 = .ok (.aload_n 0, 1) := by decide +kernel
theorem dX4_explore_40 : decode cX4_explore 40 = .ok (.iload_n 3, 1) := by decide +kernel
theorem dX4_explore_41 : decode cX4_explore 41 = .ok (.putfield 47, 3) := by decide +kernel
theorem dX4_explore_44 : decode cX4_explore 44 = .ok (.aload_n 0, 1) := by decide +kernel
theorem dX4_explore_45 : decode cX4_explore 45 = .ok (.getfield 18, 3) := by decide +kernel
theorem dX4_explore_48 : decode cX4_explore 48 = .ok (.iconst 0, 1) := by decide +kernel
theorem dX4_explore_49 : decode cX4_explore 49 = .ok (.invokestatic 50, 3) := by decide +kernel
theorem dX4_explore_52 : decode cX4_explore 52 = .ok (.aload_n 0, 1) := by decide +kernel
theorem dX4_explore_53 : decode cX4_explore 53 = .ok (.iconst 0, 1) := by decide +kernel
theorem dX4_explore_54 : decode cX4_explore 54 = .ok (.putfield 40, 3) := by decide +kernel
theorem dX4_explore_57 : decode cX4_explore 57 = .ok (.aload_n 0, 1) := by decide +kernel
theorem dX4_explore_58 : decode cX4_explore 58 = .ok (.iload_n 1, 1) := by decide +kernel
theorem dX4_explore_59 : decode cX4_explore 59 = .ok (.iconst 0, 1) := by decide +kernel
theorem dX4_explore_60 : decode cX4_explore 60 = .ok (.invokevirtual 56, 3) := by decide +kernel
theorem dX4_explore_63 : decode cX4_explore 63 = .ok (.iconst 0, 1) := by decide +kernel
theorem dX4_explore_64 : decode cX4_explore 64 = .ok (.istore 4, 2) := by decide +kernel
theorem dX4_explore_66 : decode cX4_explore 66 = .ok (.iload 4, 2) := by decide +kernel
theorem dX4_explore_68 : decode cX4_explore 68 = .ok (.aload_n 0, 1) := by decide +kernel
theorem dX4_explore_69 : decode cX4_explore 69 = .ok (.getfield 40, 3) := by decide +kernel
theorem dX4_explore_72 : decode cX4_explore 72 = .ok (.if_icmp .ge 81, 3) := by decide +kernel
theorem dX4_explore_75 : decode cX4_explore 75 = .ok (.iload 4, 2) := by decide +kernel
theorem dX4_explore_77 : decode cX4_explore 77 = .ok (.sipush 2520, 3) := by decide +kernel
theorem dX4_explore_80 : decode cX4_explore 80 = .ok (.if_icmp .ge 73, 3) := by decide +kernel
theorem dX4_explore_83 : decode cX4_explore 83 = .ok (.aload_n 0, 1) := by decide +kernel
theorem dX4_explore_84 : decode cX4_explore 84 = .ok (.aload_n 0, 1) := by decide +kernel
theorem dX4_explore_85 : decode cX4_explore 85 = .ok (.getfield 11, 3) := by decide +kernel
theorem dX4_explore_88 : decode cX4_explore 88 = .ok (.iload 4, 2) := by decide +kernel
theorem dX4_explore_90 : decode cX4_explore 90 = .ok (.iaload, 1) := by decide +kernel
theorem dX4_explore_91 : decode cX4_explore 91 = .ok (.iload_n 2, 1) := by decide +kernel
theorem dX4_explore_92 : decode cX4_explore 92 = .ok (.invokevirtual 60, 3) := by decide +kernel
theorem dX4_explore_95 : decode cX4_explore 95 = .ok (.iconst 0, 1) := by decide +kernel
theorem dX4_explore_96 : decode cX4_explore 96 = .ok (.istore 5, 2) := by decide +kernel
theorem dX4_explore_98 : decode cX4_explore 98 = .ok (.iload 5, 2) := by decide +kernel
theorem dX4_explore_100 : decode cX4_explore 100 = .ok (.bipush 9, 2) := by decide +kernel
theorem dX4_explore_102 : decode cX4_explore 102 = .ok (.if_icmp .ge 45, 3) := by decide +kernel
theorem dX4_explore_105 : decode cX4_explore 105 = .ok (.aload_n 0, 1) := by decide +kernel
theorem dX4_explore_106 : decode cX4_explore 106 = .ok (.aload_n 0, 1) := by decide +kernel
theorem dX4_explore_107 : decode cX4_explore 107 = .ok (.getfield 11, 3) := by decide +kernel
theorem dX4_explore_110 : decode cX4_explore 110 = .ok (.iload 4, 2) := by decide +kernel
theorem dX4_explore_112 : decode cX4_explore 112 = .ok (.iaload, 1) := by decide +kernel
theorem dX4_explore_113 : decode cX4_explore 113 = .ok (.iload 5, 2) := by decide +kernel
theorem dX4_explore_115 : decode cX4_explore 115 = .ok (.iload_n 3, 1) := by decide +kernel
theorem dX4_explore_116 : decode cX4_explore 116 = .ok (.invokevirtual 63, 3) := by decide +kernel
theorem dX4_explore_119 : decode cX4_explore 119 = .ok (.istore 6, 2) := by decide +kernel
theorem dX4_explore_121 : decode cX4_explore 121 = .ok (.iload 6, 2) := by decide +kernel
theorem dX4_explore_123 : decode cX4_explore 123 = .ok (.iconst (-1), 1) := by decide +kernel
theorem dX4_explore_124 : decode cX4_explore 124 = .ok (.if_icmp .eq 17, 3) := by decide +kernel
theorem dX4_explore_127 : decode cX4_explore 127 = .ok (.aload_n 0, 1) := by decide +kernel
theorem dX4_explore_128 : decode cX4_explore 128 = .ok (.iload 6, 2) := by decide +kernel
theorem dX4_explore_130 : decode cX4_explore 130 = .ok (.bipush 9, 2) := by decide +kernel
theorem dX4_explore_132 : decode cX4_explore 132 = .ok (.iload 4, 2) := by decide +kernel
theorem dX4_explore_134 : decode cX4_explore 134 = .ok (.imul, 1) := by decide +kernel
theorem dX4_explore_135 : decode cX4_explore 135 = .ok (.iload 5, 2) := by decide +kernel
theorem dX4_explore_137 : decode cX4_explore 137 = .ok (.iadd, 1) := by decide +kernel
theorem dX4_explore_138 : decode cX4_explore 138 = .ok (.invokevirtual 56, 3) := by decide +kernel
theorem dX4_explore_141 : decode cX4_explore 141 = .ok (.iinc 5 1, 3) := by decide +kernel
theorem dX4_explore_144 : decode cX4_explore 144 = .ok (.goto (-46), 3) := by decide +kernel
theorem dX4_explore_147 : decode cX4_explore 147 = .ok (.iinc 4 1, 3) := by decide +kernel
theorem dX4_explore_150 : decode cX4_explore 150 = .ok (.goto (-84), 3) := by decide +kernel
theorem dX4_explore_153 : decode cX4_explore 153 = .ok (.return_, 1) := by decide +kernel
theorem dX4_note_0 : decode cX4_note 0 = .ok (.iload_n 1, 1) := by decide +kernel
theorem dX4_note_1 : decode cX4_note 1 = .ok (.iconst 5, 1) := by decide +kernel
theorem dX4_note_2 : decode cX4_note 2 = .ok (.ishr, 1) := by decide +kernel
theorem dX4_note_3 : decode cX4_note 3 = .ok (.istore_n 3, 1) := by decide +kernel
theorem dX4_note_4 : decode cX4_note 4 = .ok (.iconst 1, 1) := by decide +kernel
theorem dX4_note_5 : decode cX4_note 5 = .ok (.iload_n 1, 1) := by decide +kernel
theorem dX4_note_6 : decode cX4_note 6 = .ok (.bipush 31, 2) := by decide +kernel
theorem dX4_note_8 : decode cX4_note 8 = .ok (.iand, 1) := by decide +kernel
theorem dX4_note_9 : decode cX4_note 9 = .ok (.ishl, 1) := by decide +kernel
theorem dX4_note_10 : decode cX4_note 10 = .ok (.istore 4, 2) := by decide +kernel
theorem dX4_note_12 : decode cX4_note 12 = .ok (.iload_n 3, 1) := by decide +kernel
theorem dX4_note_13 : decode cX4_note 13 = .ok (.ifCond .lt 34, 3) := by decide +kernel
theorem dX4_note_16 : decode cX4_note 16 = .ok (.iload_n 3, 1) := by decide +kernel
theorem dX4_note_17 : decode cX4_note 17 = .ok (.aload_n 0, 1) := by decide +kernel
theorem dX4_note_18 : decode cX4_note 18 = .ok (.getfield 18, 3) := by decide +kernel
theorem dX4_note_21 : decode cX4_note 21 = .ok (.arraylength, 1) := by decide +kernel
theorem dX4_note_22 : decode cX4_note 22 = .ok (.if_icmp .ge 25, 3) := by decide +kernel
theorem dX4_note_25 : decode cX4_note 25 = .ok (.aload_n 0, 1) := by decide +kernel
theorem dX4_note_26 : decode cX4_note 26 = .ok (.getfield 18, 3) := by decide +kernel
theorem dX4_note_29 : decode cX4_note 29 = .ok (.iload_n 3, 1) := by decide +kernel
theorem dX4_note_30 : decode cX4_note 30 = .ok (.iaload, 1) := by decide +kernel
theorem dX4_note_31 : decode cX4_note 31 = .ok (.iload 4, 2) := by decide +kernel
theorem dX4_note_33 : decode cX4_note 33 = .ok (.iand, 1) := by decide +kernel
theorem dX4_note_34 : decode cX4_note 34 = .ok (.ifCond .ne 13, 3) := by decide +kernel
theorem dX4_note_37 : decode cX4_note 37 = .ok (.aload_n 0, 1) := by decide +kernel
theorem dX4_note_38 : decode cX4_note 38 = .ok (.getfield 40, 3) := by decide +kernel
theorem dX4_note_41 : decode cX4_note 41 = .ok (.sipush 2520, 3) := by decide +kernel
theorem dX4_note_44 : decode cX4_note 44 = .ok (.if_icmp .lt 4, 3) := by decide +kernel
theorem dX4_note_47 : decode cX4_note 47 = .ok (.return_, 1) := by decide +kernel
theorem dX4_note_48 : decode cX4_note 48 = .ok (.aload_n 0, 1) := by decide +kernel
theorem dX4_note_49 : decode cX4_note 49 = .ok (.getfield 18, 3) := by decide +kernel
theorem dX4_note_52 : decode cX4_note 52 = .ok (.iload_n 3, 1) := by decide +kernel
theorem dX4_note_53 : decode cX4_note 53 = .ok (.dup2, 1) := by decide +kernel
theorem dX4_note_54 : decode cX4_note 54 = .ok (.iaload, 1) := by decide +kernel
theorem dX4_note_55 : decode cX4_note 55 = .ok (.iload 4, 2) := by decide +kernel
theorem dX4_note_57 : decode cX4_note 57 = .ok (.ior, 1) := by decide +kernel
theorem dX4_note_58 : decode cX4_note 58 = .ok (.iastore, 1) := by decide +kernel
theorem dX4_note_59 : decode cX4_note 59 = .ok (.aload_n 0, 1) := by decide +kernel
theorem dX4_note_60 : decode cX4_note 60 = .ok (.getfield 11, 3) := by decide +kernel
theorem dX4_note_63 : decode cX4_note 63 = .ok (.aload_n 0, 1) := by decide +kernel
theorem dX4_note_64 : decode cX4_note 64 = .ok (.getfield 40, 3) := by decide +kernel
theorem dX4_note_67 : decode cX4_note 67 = .ok (.iload_n 1, 1) := by decide +kernel
theorem dX4_note_68 : decode cX4_note 68 = .ok (.iastore, 1) := by decide +kernel
theorem dX4_note_69 : decode cX4_note 69 = .ok (.aload_n 0, 1) := by decide +kernel
theorem dX4_note_70 : decode cX4_note 70 = .ok (.getfield 15, 3) := by decide +kernel
theorem dX4_note_73 : decode cX4_note 73 = .ok (.aload_n 0, 1) := by decide +kernel
theorem dX4_note_74 : decode cX4_note 74 = .ok (.getfield 40, 3) := by decide +kernel
theorem dX4_note_77 : decode cX4_note 77 = .ok (.iload_n 2, 1) := by decide +kernel
theorem dX4_note_78 : decode cX4_note 78 = .ok (.iastore, 1) := by decide +kernel
theorem dX4_note_79 : decode cX4_note 79 = .ok (.aload_n 0, 1) := by decide +kernel
theorem dX4_note_80 : decode cX4_note 80 = .ok (.dup, 1) := by decide +kernel
theorem dX4_note_81 : decode cX4_note 81 = .ok (.getfield 40, 3) := by decide +kernel
theorem dX4_note_84 : decode cX4_note 84 = .ok (.iconst 1, 1) := by decide +kernel
theorem dX4_note_85 : decode cX4_note 85 = .ok (.iadd, 1) := by decide +kernel
theorem dX4_note_86 : decode cX4_note 86 = .ok (.putfield 40, 3) := by decide +kernel
theorem dX4_note_89 : decode cX4_note 89 = .ok (.return_, 1) := by decide +kernel
theorem dX4_findTops_0 : decode cX4_findTops 0 = .ok (.aload_n 0, 1) := by decide +kernel
theorem dX4_findTops_1 : decode cX4_findTops 1 = .ok (.getfield 21, 3) := by decide +kernel
theorem dX4_findTops_4 : decode cX4_findTops 4 = .ok (.iconst (-1), 1) := by decide +kernel
theorem dX4_findTops_5 : decode cX4_findTops 5 = .ok (.invokestatic 50, 3) := by decide +kernel
theorem dX4_findTops_8 : decode cX4_findTops 8 = .ok (.iconst 0, 1) := by decide +kernel
theorem dX4_findTops_9 : decode cX4_findTops 9 = .ok (.istore_n 3, 1) := by decide +kernel
theorem dX4_findTops_10 : decode cX4_findTops 10 = .ok (.iload_n 3, 1) := by decide +kernel
theorem dX4_findTops_11 : decode cX4_findTops 11 = .ok (.iload_n 2, 1) := by decide +kernel
theorem dX4_findTops_12 : decode cX4_findTops 12 = .ok (.if_icmp .ge 20, 3) := by decide +kernel
theorem dX4_findTops_15 : decode cX4_findTops 15 = .ok (.aload_n 0, 1) := by decide +kernel
theorem dX4_findTops_16 : decode cX4_findTops 16 = .ok (.getfield 21, 3) := by decide +kernel
theorem dX4_findTops_19 : decode cX4_findTops 19 = .ok (.iload_n 1, 1) := by decide +kernel
theorem dX4_findTops_20 : decode cX4_findTops 20 = .ok (.iload_n 3, 1) := by decide +kernel
theorem dX4_findTops_21 : decode cX4_findTops 21 = .ok (.invokestatic 37, 3) := by decide +kernel
theorem dX4_findTops_24 : decode cX4_findTops 24 = .ok (.iload_n 3, 1) := by decide +kernel
theorem dX4_findTops_25 : decode cX4_findTops 25 = .ok (.iastore, 1) := by decide +kernel
theorem dX4_findTops_26 : decode cX4_findTops 26 = .ok (.iinc 3 1, 3) := by decide +kernel
theorem dX4_findTops_29 : decode cX4_findTops 29 = .ok (.goto (-19), 3) := by decide +kernel
theorem dX4_findTops_32 : decode cX4_findTops 32 = .ok (.iconst 0, 1) := by decide +kernel
theorem dX4_findTops_33 : decode cX4_findTops 33 = .ok (.istore_n 3, 1) := by decide +kernel
theorem dX4_findTops_34 : decode cX4_findTops 34 = .ok (.iload_n 3, 1) := by decide +kernel
theorem dX4_findTops_35 : decode cX4_findTops 35 = .ok (.iconst 3, 1) := by decide +kernel
theorem dX4_findTops_36 : decode cX4_findTops 36 = .ok (.if_icmp .ge 57, 3) := by decide +kernel
theorem dX4_findTops_39 : decode cX4_findTops 39 = .ok (.iconst 5, 1) := by decide +kernel
theorem dX4_findTops_40 : decode cX4_findTops 40 = .ok (.iload_n 3, 1) := by decide +kernel
theorem dX4_findTops_41 : decode cX4_findTops 41 = .ok (.iadd, 1) := by decide +kernel
theorem dX4_findTops_42 : decode cX4_findTops 42 = .ok (.istore 4, 2) := by decide +kernel
theorem dX4_findTops_44 : decode cX4_findTops 44 = .ok (.iconst 0, 1) := by decide +kernel
theorem dX4_findTops_45 : decode cX4_findTops 45 = .ok (.istore 5, 2) := by decide +kernel
theorem dX4_findTops_47 : decode cX4_findTops 47 = .ok (.iload 5, 2) := by decide +kernel
theorem dX4_findTops_49 : decode cX4_findTops 49 = .ok (.iload_n 2, 1) := by decide +kernel
theorem dX4_findTops_50 : decode cX4_findTops 50 = .ok (.if_icmp .ge 29, 3) := by decide +kernel
theorem dX4_findTops_53 : decode cX4_findTops 53 = .ok (.aload_n 0, 1) := by decide +kernel
theorem dX4_findTops_54 : decode cX4_findTops 54 = .ok (.getfield 21, 3) := by decide +kernel
theorem dX4_findTops_57 : decode cX4_findTops 57 = .ok (.iload 4, 2) := by decide +kernel
theorem dX4_findTops_59 : decode cX4_findTops 59 = .ok (.iaload, 1) := by decide +kernel
theorem dX4_findTops_60 : decode cX4_findTops 60 = .ok (.iconst (-1), 1) := by decide +kernel
theorem dX4_findTops_61 : decode cX4_findTops 61 = .ok (.if_icmp .eq 18, 3) := by decide +kernel
theorem dX4_findTops_64 : decode cX4_findTops 64 = .ok (.aload_n 0, 1) := by decide +kernel
theorem dX4_findTops_65 : decode cX4_findTops 65 = .ok (.getfield 21, 3) := by decide +kernel
theorem dX4_findTops_68 : decode cX4_findTops 68 = .ok (.iload 4, 2) := by decide +kernel
theorem dX4_findTops_70 : decode cX4_findTops 70 = .ok (.iaload, 1) := by decide +kernel
theorem dX4_findTops_71 : decode cX4_findTops 71 = .ok (.istore 4, 2) := by decide +kernel
theorem dX4_findTops_73 : decode cX4_findTops 73 = .ok (.iinc 5 1, 3) := by decide +kernel
theorem dX4_findTops_76 : decode cX4_findTops 76 = .ok (.goto (-29), 3) := by decide +kernel
theorem dX4_findTops_79 : decode cX4_findTops 79 = .ok (.aload_n 0, 1) := by decide +kernel
theorem dX4_findTops_80 : decode cX4_findTops 80 = .ok (.getfield 24, 3) := by decide +kernel
theorem dX4_findTops_83 : decode cX4_findTops 83 = .ok (.iload_n 3, 1) := by decide +kernel
theorem dX4_findTops_84 : decode cX4_findTops 84 = .ok (.iload 4, 2) := by decide +kernel
theorem dX4_findTops_86 : decode cX4_findTops 86 = .ok (.iastore, 1) := by decide +kernel
theorem dX4_findTops_87 : decode cX4_findTops 87 = .ok (.iinc 3 1, 3) := by decide +kernel
theorem dX4_findTops_90 : decode cX4_findTops 90 = .ok (.goto (-56), 3) := by decide +kernel
theorem dX4_findTops_93 : decode cX4_findTops 93 = .ok (.return_, 1) := by decide +kernel
theorem dX4_moved_0 : decode cX4_moved 0 = .ok (.iload_n 2, 1) := by decide +kernel
theorem dX4_moved_1 : decode cX4_moved 1 = .ok (.iconst 3, 1) := by decide +kernel
theorem dX4_moved_2 : decode cX4_moved 2 = .ok (.idiv, 1) := by decide +kernel
theorem dX4_moved_3 : decode cX4_moved 3 = .ok (.istore 4, 2) := by decide +kernel
theorem dX4_moved_5 : decode cX4_moved 5 = .ok (.iload_n 2, 1) := by decide +kernel
theorem dX4_moved_6 : decode cX4_moved 6 = .ok (.iconst 3, 1) := by decide +kernel
theorem dX4_moved_7 : decode cX4_moved 7 = .ok (.irem, 1) := by decide +kernel
theorem dX4_moved_8 : decode cX4_moved 8 = .ok (.istore 5, 2) := by decide +kernel
theorem dX4_moved_10 : decode cX4_moved 10 = .ok (.aload_n 0, 1) := by decide +kernel
theorem dX4_moved_11 : decode cX4_moved 11 = .ok (.getfield 24, 3) := by decide +kernel
theorem dX4_moved_14 : decode cX4_moved 14 = .ok (.iload 4, 2) := by decide +kernel
theorem dX4_moved_16 : decode cX4_moved 16 = .ok (.iaload, 1) := by decide +kernel
theorem dX4_moved_17 : decode cX4_moved 17 = .ok (.istore 6, 2) := by decide +kernel
theorem dX4_moved_19 : decode cX4_moved 19 = .ok (.aload_n 0, 1) := by decide +kernel
theorem dX4_moved_20 : decode cX4_moved 20 = .ok (.getfield 24, 3) := by decide +kernel
theorem dX4_moved_23 : decode cX4_moved 23 = .ok (.iload 5, 2) := by decide +kernel
theorem dX4_moved_25 : decode cX4_moved 25 = .ok (.iaload, 1) := by decide +kernel
theorem dX4_moved_26 : decode cX4_moved 26 = .ok (.istore 7, 2) := by decide +kernel
theorem dX4_moved_28 : decode cX4_moved 28 = .ok (.iload 4, 2) := by decide +kernel
theorem dX4_moved_30 : decode cX4_moved 30 = .ok (.iload 5, 2) := by decide +kernel
theorem dX4_moved_32 : decode cX4_moved 32 = .ok (.if_icmp .eq 9, 3) := by decide +kernel
theorem dX4_moved_35 : decode cX4_moved 35 = .ok (.iload 6, 2) := by decide +kernel
theorem dX4_moved_37 : decode cX4_moved 37 = .ok (.iconst 5, 1) := by decide +kernel
theorem dX4_moved_38 : decode cX4_moved 38 = .ok (.if_icmp .lt 5, 3) := by decide +kernel
theorem dX4_moved_41 : decode cX4_moved 41 = .ok (.iconst (-1), 1) := by decide +kernel
theorem dX4_moved_42 : decode cX4_moved 42 = .ok (.ireturn, 1) := by decide +kernel
theorem dX4_moved_43 : decode cX4_moved 43 = .ok (.iload 7, 2) := by decide +kernel
theorem dX4_moved_45 : decode cX4_moved 45 = .ok (.iconst 5, 1) := by decide +kernel
theorem dX4_moved_46 : decode cX4_moved 46 = .ok (.if_icmp .ge 19, 3) := by decide +kernel
theorem dX4_moved_49 : decode cX4_moved 49 = .ok (.iload_n 3, 1) := by decide +kernel
theorem dX4_moved_50 : decode cX4_moved 50 = .ok (.iconst 5, 1) := by decide +kernel
theorem dX4_moved_51 : decode cX4_moved 51 = .ok (.iload 6, 2) := by decide +kernel
theorem dX4_moved_53 : decode cX4_moved 53 = .ok (.imul, 1) := by decide +kernel
theorem dX4_moved_54 : decode cX4_moved 54 = .ok (.iload 7, 2) := by decide +kernel
theorem dX4_moved_56 : decode cX4_moved 56 = .ok (.iadd, 1) := by decide +kernel
theorem dX4_moved_57 : decode cX4_moved 57 = .ok (.ishr, 1) := by decide +kernel
theorem dX4_moved_58 : decode cX4_moved 58 = .ok (.iconst 1, 1) := by decide +kernel
theorem dX4_moved_59 : decode cX4_moved 59 = .ok (.iand, 1) := by decide +kernel
theorem dX4_moved_60 : decode cX4_moved 60 = .ok (.ifCond .ne 5, 3) := by decide +kernel
theorem dX4_moved_63 : decode cX4_moved 63 = .ok (.iconst (-1), 1) := by decide +kernel
theorem dX4_moved_64 : decode cX4_moved 64 = .ok (.ireturn, 1) := by decide +kernel
theorem dX4_moved_65 : decode cX4_moved 65 = .ok (.iload_n 1, 1) := by decide +kernel
theorem dX4_moved_66 : decode cX4_moved 66 = .ok (.bipush 7, 2) := by decide +kernel
theorem dX4_moved_68 : decode cX4_moved 68 = .ok (.iconst 3, 1) := by decide +kernel
theorem dX4_moved_69 : decode cX4_moved 69 = .ok (.iload 6, 2) := by decide +kernel
theorem dX4_moved_71 : decode cX4_moved 71 = .ok (.imul, 1) := by decide +kernel
theorem dX4_moved_72 : decode cX4_moved 72 = .ok (.ishl, 1) := by decide +kernel
theorem dX4_moved_73 : decode cX4_moved 73 = .ok (.iconst (-1), 1) := by decide +kernel
theorem dX4_moved_74 : decode cX4_moved 74 = .ok (.ixor, 1) := by decide +kernel
theorem dX4_moved_75 : decode cX4_moved 75 = .ok (.iand, 1) := by decide +kernel
theorem dX4_moved_76 : decode cX4_moved 76 = .ok (.iload 7, 2) := by decide +kernel
theorem dX4_moved_78 : decode cX4_moved 78 = .ok (.iconst 3, 1) := by decide +kernel
theorem dX4_moved_79 : decode cX4_moved 79 = .ok (.iload 6, 2) := by decide +kernel
theorem dX4_moved_81 : decode cX4_moved 81 = .ok (.imul, 1) := by decide +kernel
theorem dX4_moved_82 : decode cX4_moved 82 = .ok (.ishl, 1) := by decide +kernel
theorem dX4_moved_83 : decode cX4_moved 83 = .ok (.ior, 1) := by decide +kernel
theorem dX4_moved_84 : decode cX4_moved 84 = .ok (.ireturn, 1) := by decide +kernel
theorem dX4_codeBehind_0 : decode cX4_codeBehind 0 = .ok (.aload_n 0, 1) := by decide +kernel
theorem dX4_codeBehind_1 : decode cX4_codeBehind 1 = .ok (.iload_n 1, 1) := by decide +kernel
theorem dX4_codeBehind_2 : decode cX4_codeBehind 2 = .ok (.iload_n 2, 1) := by decide +kernel
theorem dX4_codeBehind_3 : decode cX4_codeBehind 3 = .ok (.invokevirtual 60, 3) := by decide +kernel
theorem dX4_codeBehind_6 : decode cX4_codeBehind 6 = .ok (.aload_n 0, 1) := by decide +kernel
theorem dX4_codeBehind_7 : decode cX4_codeBehind 7 = .ok (.iload_n 1, 1) := by decide +kernel
theorem dX4_codeBehind_8 : decode cX4_codeBehind 8 = .ok (.iload_n 3, 1) := by decide +kernel
theorem dX4_codeBehind_9 : decode cX4_codeBehind 9 = .ok (.iload 4, 2) := by decide +kernel
theorem dX4_codeBehind_11 : decode cX4_codeBehind 11 = .ok (.invokevirtual 63, 3) := by decide +kernel
theorem dX4_codeBehind_14 : decode cX4_codeBehind 14 = .ok (.ireturn, 1) := by decide +kernel
theorem dX4_placeOfGoal_0 : decode cX4_placeOfGoal 0 = .ok (.iconst 0, 1) := by decide +kernel
theorem dX4_placeOfGoal_1 : decode cX4_placeOfGoal 1 = .ok (.istore_n 2, 1) := by decide +kernel
theorem dX4_placeOfGoal_2 : decode cX4_placeOfGoal 2 = .ok (.iload_n 2, 1) := by decide +kernel
theorem dX4_placeOfGoal_3 : decode cX4_placeOfGoal 3 = .ok (.aload_n 0, 1) := by decide +kernel
theorem dX4_placeOfGoal_4 : decode cX4_placeOfGoal 4 = .ok (.getfield 40, 3) := by decide +kernel
theorem dX4_placeOfGoal_7 : decode cX4_placeOfGoal 7 = .ok (.if_icmp .ge 21, 3) := by decide +kernel
theorem dX4_placeOfGoal_10 : decode cX4_placeOfGoal 10 = .ok (.aload_n 0, 1) := by decide +kernel
theorem dX4_placeOfGoal_11 : decode cX4_placeOfGoal 11 = .ok (.getfield 11, 3) := by decide +kernel
theorem dX4_placeOfGoal_14 : decode cX4_placeOfGoal 14 = .ok (.iload_n 2, 1) := by decide +kernel
theorem dX4_placeOfGoal_15 : decode cX4_placeOfGoal 15 = .ok (.iaload, 1) := by decide +kernel
theorem dX4_placeOfGoal_16 : decode cX4_placeOfGoal 16 = .ok (.iload_n 1, 1) := by decide +kernel
theorem dX4_placeOfGoal_17 : decode cX4_placeOfGoal 17 = .ok (.if_icmp .ne 5, 3) := by decide +kernel
theorem dX4_placeOfGoal_20 : decode cX4_placeOfGoal 20 = .ok (.iload_n 2, 1) := by decide +kernel
theorem dX4_placeOfGoal_21 : decode cX4_placeOfGoal 21 = .ok (.ireturn, 1) := by decide +kernel
theorem dX4_placeOfGoal_22 : decode cX4_placeOfGoal 22 = .ok (.iinc 2 1, 3) := by decide +kernel
theorem dX4_placeOfGoal_25 : decode cX4_placeOfGoal 25 = .ok (.goto (-23), 3) := by decide +kernel
theorem dX4_placeOfGoal_28 : decode cX4_placeOfGoal 28 = .ok (.iconst (-1), 1) := by decide +kernel
theorem dX4_placeOfGoal_29 : decode cX4_placeOfGoal 29 = .ok (.ireturn, 1) := by decide +kernel
theorem dX4_countMovesTo_0 : decode cX4_countMovesTo 0 = .ok (.iconst 0, 1) := by decide +kernel
theorem dX4_countMovesTo_1 : decode cX4_countMovesTo 1 = .ok (.istore_n 2, 1) := by decide +kernel
theorem dX4_countMovesTo_2 : decode cX4_countMovesTo 2 = .ok (.iload_n 1, 1) := by decide +kernel
theorem dX4_countMovesTo_3 : decode cX4_countMovesTo 3 = .ok (.istore_n 3, 1) := by decide +kernel
theorem dX4_countMovesTo_4 : decode cX4_countMovesTo 4 = .ok (.iload_n 3, 1) := by decide +kernel
theorem dX4_countMovesTo_5 : decode cX4_countMovesTo 5 = .ok (.ifCond .le 26, 3) := by decide +kernel
theorem dX4_countMovesTo_8 : decode cX4_countMovesTo 8 = .ok (.iload_n 2, 1) := by decide +kernel
theorem dX4_countMovesTo_9 : decode cX4_countMovesTo 9 = .ok (.sipush 2520, 3) := by decide +kernel
theorem dX4_countMovesTo_12 : decode cX4_countMovesTo 12 = .ok (.if_icmp .ge 19, 3) := by decide +kernel
theorem dX4_countMovesTo_15 : decode cX4_countMovesTo 15 = .ok (.iinc 2 1, 3) := by decide +kernel
theorem dX4_countMovesTo_18 : decode cX4_countMovesTo 18 = .ok (.aload_n 0, 1) := by decide +kernel
theorem dX4_countMovesTo_19 : decode cX4_countMovesTo 19 = .ok (.getfield 15, 3) := by decide +kernel
theorem dX4_countMovesTo_22 : decode cX4_countMovesTo 22 = .ok (.iload_n 3, 1) := by decide +kernel
theorem dX4_countMovesTo_23 : decode cX4_countMovesTo 23 = .ok (.iaload, 1) := by decide +kernel
theorem dX4_countMovesTo_24 : decode cX4_countMovesTo 24 = .ok (.bipush 9, 2) := by decide +kernel
theorem dX4_countMovesTo_26 : decode cX4_countMovesTo 26 = .ok (.idiv, 1) := by decide +kernel
theorem dX4_countMovesTo_27 : decode cX4_countMovesTo 27 = .ok (.istore_n 3, 1) := by decide +kernel
theorem dX4_countMovesTo_28 : decode cX4_countMovesTo 28 = .ok (.goto (-24), 3) := by decide +kernel
theorem dX4_countMovesTo_31 : decode cX4_countMovesTo 31 = .ok (.iload_n 2, 1) := by decide +kernel
theorem dX4_countMovesTo_32 : decode cX4_countMovesTo 32 = .ok (.ireturn, 1) := by decide +kernel
theorem dX4_moveOnWayTo_0 : decode cX4_moveOnWayTo 0 = .ok (.iload_n 1, 1) := by decide +kernel
theorem dX4_moveOnWayTo_1 : decode cX4_moveOnWayTo 1 = .ok (.istore_n 3, 1) := by decide +kernel
theorem dX4_moveOnWayTo_2 : decode cX4_moveOnWayTo 2 = .ok (.iconst 0, 1) := by decide +kernel
theorem dX4_moveOnWayTo_3 : decode cX4_moveOnWayTo 3 = .ok (.istore 4, 2) := by decide +kernel
theorem dX4_moveOnWayTo_5 : decode cX4_moveOnWayTo 5 = .ok (.iload 4, 2) := by decide +kernel
theorem dX4_moveOnWayTo_7 : decode cX4_moveOnWayTo 7 = .ok (.iload_n 2, 1) := by decide +kernel
theorem dX4_moveOnWayTo_8 : decode cX4_moveOnWayTo 8 = .ok (.if_icmp .ge 23, 3) := by decide +kernel
theorem dX4_moveOnWayTo_11 : decode cX4_moveOnWayTo 11 = .ok (.iload_n 3, 1) := by decide +kernel
theorem dX4_moveOnWayTo_12 : decode cX4_moveOnWayTo 12 = .ok (.ifCond .le 19, 3) := by decide +kernel
theorem dX4_moveOnWayTo_15 : decode cX4_moveOnWayTo 15 = .ok (.aload_n 0, 1) := by decide +kernel
theorem dX4_moveOnWayTo_16 : decode cX4_moveOnWayTo 16 = .ok (.getfield 15, 3) := by decide +kernel
theorem dX4_moveOnWayTo_19 : decode cX4_moveOnWayTo 19 = .ok (.iload_n 3, 1) := by decide +kernel
theorem dX4_moveOnWayTo_20 : decode cX4_moveOnWayTo 20 = .ok (.iaload, 1) := by decide +kernel
theorem dX4_moveOnWayTo_21 : decode cX4_moveOnWayTo 21 = .ok (.bipush 9, 2) := by decide +kernel
theorem dX4_moveOnWayTo_23 : decode cX4_moveOnWayTo 23 = .ok (.idiv, 1) := by decide +kernel
theorem dX4_moveOnWayTo_24 : decode cX4_moveOnWayTo 24 = .ok (.istore_n 3, 1) := by decide +kernel
theorem dX4_moveOnWayTo_25 : decode cX4_moveOnWayTo 25 = .ok (.iinc 4 1, 3) := by decide +kernel
theorem dX4_moveOnWayTo_28 : decode cX4_moveOnWayTo 28 = .ok (.goto (-23), 3) := by decide +kernel
theorem dX4_moveOnWayTo_31 : decode cX4_moveOnWayTo 31 = .ok (.iload_n 3, 1) := by decide +kernel
theorem dX4_moveOnWayTo_32 : decode cX4_moveOnWayTo 32 = .ok (.ifCond .le 15, 3) := by decide +kernel
theorem dX4_moveOnWayTo_35 : decode cX4_moveOnWayTo 35 = .ok (.aload_n 0, 1) := by decide +kernel
theorem dX4_moveOnWayTo_36 : decode cX4_moveOnWayTo 36 = .ok (.getfield 15, 3) := by decide +kernel
theorem dX4_moveOnWayTo_39 : decode cX4_moveOnWayTo 39 = .ok (.iload_n 3, 1) := by decide +kernel
theorem dX4_moveOnWayTo_40 : decode cX4_moveOnWayTo 40 = .ok (.iaload, 1) := by decide +kernel
theorem dX4_moveOnWayTo_41 : decode cX4_moveOnWayTo 41 = .ok (.bipush 9, 2) := by decide +kernel
theorem dX4_moveOnWayTo_43 : decode cX4_moveOnWayTo 43 = .ok (.irem, 1) := by decide +kernel
theorem dX4_moveOnWayTo_44 : decode cX4_moveOnWayTo 44 = .ok (.goto 5, 3) := by decide +kernel
theorem dX4_moveOnWayTo_47 : decode cX4_moveOnWayTo 47 = .ok (.bipush (-2), 2) := by decide +kernel
theorem dX4_moveOnWayTo_49 : decode cX4_moveOnWayTo 49 = .ok (.ireturn, 1) := by decide +kernel
theorem dX5_init_0 : decode cX5_init 0 = .ok (.aload_n 0, 1) := by decide +kernel
theorem dX5_init_1 : decode cX5_init 1 = .ok (.invokespecial 3, 3) := by decide +kernel
theorem dX5_init_4 : decode cX5_init 4 = .ok (.aload_n 0, 1) := by decide +kernel
theorem dX5_init_5 : decode cX5_init 5 = .ok (.new 9, 3) := by decide +kernel
theorem dX5_init_8 : decode cX5_init 8 = .ok (.dup, 1) := by decide +kernel
theorem dX5_init_9 : decode cX5_init 9 = .ok (.invokespecial 11, 3) := by decide +kernel
theorem dX5_init_12 : decode cX5_init 12 = .ok (.putfield 12, 3) := by decide +kernel
theorem dX5_init_15 : decode cX5_init 15 = .ok (.aload_n 0, 1) := by decide +kernel
theorem dX5_init_16 : decode cX5_init 16 = .ok (.new 18, 3) := by decide +kernel
theorem dX5_init_19 : decode cX5_init 19 = .ok (.dup, 1) := by decide +kernel
theorem dX5_init_20 : decode cX5_init 20 = .ok (.invokespecial 20, 3) := by decide +kernel
theorem dX5_init_23 : decode cX5_init 23 = .ok (.putfield 21, 3) := by decide +kernel
theorem dX5_init_26 : decode cX5_init 26 = .ok (.aload_n 0, 1) := by decide +kernel
theorem dX5_init_27 : decode cX5_init 27 = .ok (.iconst 5, 1) := by decide +kernel
theorem dX5_init_28 : decode cX5_init 28 = .ok (.newarray .int, 2) := by decide +kernel
theorem dX5_init_30 : decode cX5_init 30 = .ok (.putfield 25, 3) := by decide +kernel
theorem dX5_init_33 : decode cX5_init 33 = .ok (.aload_n 0, 1) := by decide +kernel
theorem dX5_init_34 : decode cX5_init 34 = .ok (.iconst 5, 1) := by decide +kernel
theorem dX5_init_35 : decode cX5_init 35 = .ok (.newarray .int, 2) := by decide +kernel
theorem dX5_init_37 : decode cX5_init 37 = .ok (.putfield 29, 3) := by decide +kernel
theorem dX5_init_40 : decode cX5_init 40 = .ok (.aload_n 0, 1) := by decide +kernel
theorem dX5_init_41 : decode cX5_init 41 = .ok (.iconst 5, 1) := by decide +kernel
theorem dX5_init_42 : decode cX5_init 42 = .ok (.newarray .int, 2) := by decide +kernel
theorem dX5_init_44 : decode cX5_init 44 = .ok (.putfield 32, 3) := by decide +kernel
theorem dX5_init_47 : decode cX5_init 47 = .ok (.aload_n 0, 1) := by decide +kernel
theorem dX5_init_48 : decode cX5_init 48 = .ok (.iconst 5, 1) := by decide +kernel
theorem dX5_init_49 : decode cX5_init 49 = .ok (.newarray .int, 2) := by decide +kernel
theorem dX5_init_51 : decode cX5_init 51 = .ok (.putfield 35, 3) := by decide +kernel
theorem dX5_init_54 : decode cX5_init 54 = .ok (.aload_n 0, 1) := by decide +kernel
theorem dX5_init_55 : decode cX5_init 55 = .ok (.iconst 5, 1) := by decide +kernel
theorem dX5_init_56 : decode cX5_init 56 = .ok (.newarray .int, 2) := by decide +kernel
theorem dX5_init_58 : decode cX5_init 58 = .ok (.putfield 38, 3) := by decide +kernel
theorem dX5_init_61 : decode cX5_init 61 = .ok (.aload_n 0, 1) := by decide +kernel
theorem dX5_init_62 : decode cX5_init 62 = .ok (.bipush 6, 2) := by decide +kernel
theorem dX5_init_64 : decode cX5_init 64 = .ok (.newarray .int, 2) := by decide +kernel
theorem dX5_init_66 : decode cX5_init 66 = .ok (.putfield 41, 3) := by decide +kernel
theorem dX5_init_69 : decode cX5_init 69 = .ok (.aload_n 0, 1) := by decide +kernel
theorem dX5_init_70 : decode cX5_init 70 = .ok (.new 44, 3) := by decide +kernel
theorem dX5_init_73 : decode cX5_init 73 = .ok (.dup, 1) := by decide +kernel
theorem dX5_init_74 : decode cX5_init 74 = .ok (.bipush 8, 2) := by decide +kernel
theorem dX5_init_76 : decode cX5_init 76 = .ok (.invokespecial 46, 3) := by decide +kernel
theorem dX5_init_79 : decode cX5_init 79 = .ok (.putfield 49, 3) := by decide +kernel
theorem dX5_init_82 : decode cX5_init 82 = .ok (.aload_n 0, 1) := by decide +kernel
theorem dX5_init_83 : decode cX5_init 83 = .ok (.new 44, 3) := by decide +kernel
theorem dX5_init_86 : decode cX5_init 86 = .ok (.dup, 1) := by decide +kernel
theorem dX5_init_87 : decode cX5_init 87 = .ok (.iconst 4, 1) := by decide +kernel
theorem dX5_init_88 : decode cX5_init 88 = .ok (.invokespecial 46, 3) := by decide +kernel
theorem dX5_init_91 : decode cX5_init 91 = .ok (.putfield 53, 3) := by decide +kernel
theorem dX5_init_94 : decode cX5_init 94 = .ok (.aload_n 0, 1) := by decide +kernel
theorem dX5_init_95 : decode cX5_init 95 = .ok (.new 44, 3) := by decide +kernel
theorem dX5_init_98 : decode cX5_init 98 = .ok (.dup, 1) := by decide +kernel
theorem dX5_init_99 : decode cX5_init 99 = .ok (.bipush 8, 2) := by decide +kernel
theorem dX5_init_101 : decode cX5_init 101 = .ok (.invokespecial 46, 3) := by decide +kernel
theorem dX5_init_104 : decode cX5_init 104 = .ok (.putfield 56, 3) := by decide +kernel
theorem dX5_init_107 : decode cX5_init 107 = .ok (.aload_n 0, 1) := by decide +kernel
theorem dX5_init_108 : decode cX5_init 108 = .ok (.iconst 4, 1) := by decide +kernel
theorem dX5_init_109 : decode cX5_init 109 = .ok (.anewarray 59, 3) := by decide +kernel
theorem dX5_init_112 : decode cX5_init 112 = .ok (.putfield 61, 3) := by decide +kernel
theorem dX5_init_115 : decode cX5_init 115 = .ok (.aload_n 0, 1) := by decide +kernel
theorem dX5_init_116 : decode cX5_init 116 = .ok (.iconst (-1), 1) := by decide +kernel
theorem dX5_init_117 : decode cX5_init 117 = .ok (.putfield 65, 3) := by decide +kernel
theorem dX5_init_120 : decode cX5_init 120 = .ok (.return_, 1) := by decide +kernel
theorem dX5_copyFrom_0 : decode cX5_copyFrom 0 = .ok (.aload_n 0, 1) := by decide +kernel
theorem dX5_copyFrom_1 : decode cX5_copyFrom 1 = .ok (.getfield 12, 3) := by decide +kernel
theorem dX5_copyFrom_4 : decode cX5_copyFrom 4 = .ok (.aload_n 1, 1) := by decide +kernel
theorem dX5_copyFrom_5 : decode cX5_copyFrom 5 = .ok (.getfield 12, 3) := by decide +kernel
theorem dX5_copyFrom_8 : decode cX5_copyFrom 8 = .ok (.invokevirtual 69, 3) := by decide +kernel
theorem dX5_copyFrom_11 : decode cX5_copyFrom 11 = .ok (.aload_n 0, 1) := by decide +kernel
theorem dX5_copyFrom_12 : decode cX5_copyFrom 12 = .ok (.getfield 21, 3) := by decide +kernel
theorem dX5_copyFrom_15 : decode cX5_copyFrom 15 = .ok (.aload_n 1, 1) := by decide +kernel
theorem dX5_copyFrom_16 : decode cX5_copyFrom 16 = .ok (.getfield 21, 3) := by decide +kernel
theorem dX5_copyFrom_19 : decode cX5_copyFrom 19 = .ok (.invokevirtual 73, 3) := by decide +kernel
theorem dX5_copyFrom_22 : decode cX5_copyFrom 22 = .ok (.aload_n 1, 1) := by decide +kernel
theorem dX5_copyFrom_23 : decode cX5_copyFrom 23 = .ok (.getfield 25, 3) := by decide +kernel
theorem dX5_copyFrom_26 : decode cX5_copyFrom 26 = .ok (.iconst 0, 1) := by decide +kernel
theorem dX5_copyFrom_27 : decode cX5_copyFrom 27 = .ok (.aload_n 0, 1) := by decide +kernel
theorem dX5_copyFrom_28 : decode cX5_copyFrom 28 = .ok (.getfield 25, 3) := by decide +kernel
theorem dX5_copyFrom_31 : decode cX5_copyFrom 31 = .ok (.iconst 0, 1) := by decide +kernel
theorem dX5_copyFrom_32 : decode cX5_copyFrom 32 = .ok (.iconst 5, 1) := by decide +kernel
theorem dX5_copyFrom_33 : decode cX5_copyFrom 33 = .ok (.invokestatic 76, 3) := by decide +kernel
theorem dX5_copyFrom_36 : decode cX5_copyFrom 36 = .ok (.aload_n 1, 1) := by decide +kernel
theorem dX5_copyFrom_37 : decode cX5_copyFrom 37 = .ok (.getfield 29, 3) := by decide +kernel
theorem dX5_copyFrom_40 : decode cX5_copyFrom 40 = .ok (.iconst 0, 1) := by decide +kernel
theorem dX5_copyFrom_41 : decode cX5_copyFrom 41 = .ok (.aload_n 0, 1) := by decide +kernel
theorem dX5_copyFrom_42 : decode cX5_copyFrom 42 = .ok (.getfield 29, 3) := by decide +kernel
theorem dX5_copyFrom_45 : decode cX5_copyFrom 45 = .ok (.iconst 0, 1) := by decide +kernel
theorem dX5_copyFrom_46 : decode cX5_copyFrom 46 = .ok (.iconst 5, 1) := by decide +kernel
theorem dX5_copyFrom_47 : decode cX5_copyFrom 47 = .ok (.invokestatic 76, 3) := by decide +kernel
theorem dX5_copyFrom_50 : decode cX5_copyFrom 50 = .ok (.aload_n 1, 1) := by decide +kernel
theorem dX5_copyFrom_51 : decode cX5_copyFrom 51 = .ok (.getfield 32, 3) := by decide +kernel
theorem dX5_copyFrom_54 : decode cX5_copyFrom 54 = .ok (.iconst 0, 1) := by decide +kernel
theorem dX5_copyFrom_55 : decode cX5_copyFrom 55 = .ok (.aload_n 0, 1) := by decide +kernel
theorem dX5_copyFrom_56 : decode cX5_copyFrom 56 = .ok (.getfield 32, 3) := by decide +kernel
theorem dX5_copyFrom_59 : decode cX5_copyFrom 59 = .ok (.iconst 0, 1) := by decide +kernel
theorem dX5_copyFrom_60 : decode cX5_copyFrom 60 = .ok (.iconst 5, 1) := by decide +kernel
theorem dX5_copyFrom_61 : decode cX5_copyFrom 61 = .ok (.invokestatic 76, 3) := by decide +kernel
theorem dX5_copyFrom_64 : decode cX5_copyFrom 64 = .ok (.aload_n 1, 1) := by decide +kernel
theorem dX5_copyFrom_65 : decode cX5_copyFrom 65 = .ok (.getfield 35, 3) := by decide +kernel
theorem dX5_copyFrom_68 : decode cX5_copyFrom 68 = .ok (.iconst 0, 1) := by decide +kernel
theorem dX5_copyFrom_69 : decode cX5_copyFrom 69 = .ok (.aload_n 0, 1) := by decide +kernel
theorem dX5_copyFrom_70 : decode cX5_copyFrom 70 = .ok (.getfield 35, 3) := by decide +kernel
theorem dX5_copyFrom_73 : decode cX5_copyFrom 73 = .ok (.iconst 0, 1) := by decide +kernel
theorem dX5_copyFrom_74 : decode cX5_copyFrom 74 = .ok (.iconst 5, 1) := by decide +kernel
theorem dX5_copyFrom_75 : decode cX5_copyFrom 75 = .ok (.invokestatic 76, 3) := by decide +kernel
theorem dX5_copyFrom_78 : decode cX5_copyFrom 78 = .ok (.aload_n 1, 1) := by decide +kernel
theorem dX5_copyFrom_79 : decode cX5_copyFrom 79 = .ok (.getfield 38, 3) := by decide +kernel
theorem dX5_copyFrom_82 : decode cX5_copyFrom 82 = .ok (.iconst 0, 1) := by decide +kernel
theorem dX5_copyFrom_83 : decode cX5_copyFrom 83 = .ok (.aload_n 0, 1) := by decide +kernel
theorem dX5_copyFrom_84 : decode cX5_copyFrom 84 = .ok (.getfield 38, 3) := by decide +kernel
theorem dX5_copyFrom_87 : decode cX5_copyFrom 87 = .ok (.iconst 0, 1) := by decide +kernel
theorem dX5_copyFrom_88 : decode cX5_copyFrom 88 = .ok (.iconst 5, 1) := by decide +kernel
theorem dX5_copyFrom_89 : decode cX5_copyFrom 89 = .ok (.invokestatic 76, 3) := by decide +kernel
theorem dX5_copyFrom_92 : decode cX5_copyFrom 92 = .ok (.aload_n 1, 1) := by decide +kernel
theorem dX5_copyFrom_93 : decode cX5_copyFrom 93 = .ok (.getfield 41, 3) := by decide +kernel
theorem dX5_copyFrom_96 : decode cX5_copyFrom 96 = .ok (.iconst 0, 1) := by decide +kernel
theorem dX5_copyFrom_97 : decode cX5_copyFrom 97 = .ok (.aload_n 0, 1) := by decide +kernel
theorem dX5_copyFrom_98 : decode cX5_copyFrom 98 = .ok (.getfield 41, 3) := by decide +kernel
theorem dX5_copyFrom_101 : decode cX5_copyFrom 101 = .ok (.iconst 0, 1) := by decide +kernel
theorem dX5_copyFrom_102 : decode cX5_copyFrom 102 = .ok (.bipush 6, 2) := by decide +kernel
theorem dX5_copyFrom_104 : decode cX5_copyFrom 104 = .ok (.invokestatic 76, 3) := by decide +kernel
theorem dX5_copyFrom_107 : decode cX5_copyFrom 107 = .ok (.aload_n 0, 1) := by decide +kernel
theorem dX5_copyFrom_108 : decode cX5_copyFrom 108 = .ok (.getfield 49, 3) := by decide +kernel
theorem dX5_copyFrom_111 : decode cX5_copyFrom 111 = .ok (.aload_n 1, 1) := by decide +kernel
theorem dX5_copyFrom_112 : decode cX5_copyFrom 112 = .ok (.getfield 49, 3) := by decide +kernel
theorem dX5_copyFrom_115 : decode cX5_copyFrom 115 = .ok (.invokevirtual 82, 3) := by decide +kernel
theorem dX5_copyFrom_118 : decode cX5_copyFrom 118 = .ok (.aload_n 0, 1) := by decide +kernel
theorem dX5_copyFrom_119 : decode cX5_copyFrom 119 = .ok (.getfield 53, 3) := by decide +kernel
theorem dX5_copyFrom_122 : decode cX5_copyFrom 122 = .ok (.aload_n 1, 1) := by decide +kernel
theorem dX5_copyFrom_123 : decode cX5_copyFrom 123 = .ok (.getfield 53, 3) := by decide +kernel
theorem dX5_copyFrom_126 : decode cX5_copyFrom 126 = .ok (.invokevirtual 82, 3) := by decide +kernel
theorem dX5_copyFrom_129 : decode cX5_copyFrom 129 = .ok (.aload_n 0, 1) := by decide +kernel
theorem dX5_copyFrom_130 : decode cX5_copyFrom 130 = .ok (.getfield 56, 3) := by decide +kernel
theorem dX5_copyFrom_133 : decode cX5_copyFrom 133 = .ok (.aload_n 1, 1) := by decide +kernel
theorem dX5_copyFrom_134 : decode cX5_copyFrom 134 = .ok (.getfield 56, 3) := by decide +kernel
theorem dX5_copyFrom_137 : decode cX5_copyFrom 137 = .ok (.invokevirtual 82, 3) := by decide +kernel
theorem dX5_copyFrom_140 : decode cX5_copyFrom 140 = .ok (.iconst 0, 1) := by decide +kernel
theorem dX5_copyFrom_141 : decode cX5_copyFrom 141 = .ok (.istore_n 2, 1) := by decide +kernel
theorem dX5_copyFrom_142 : decode cX5_copyFrom 142 = .ok (.iload_n 2, 1) := by decide +kernel
theorem dX5_copyFrom_143 : decode cX5_copyFrom 143 = .ok (.iconst 4, 1) := by decide +kernel
theorem dX5_copyFrom_144 : decode cX5_copyFrom 144 = .ok (.if_icmp .ge 21, 3) := by decide +kernel
theorem dX5_copyFrom_147 : decode cX5_copyFrom 147 = .ok (.aload_n 0, 1) := by decide +kernel
theorem dX5_copyFrom_148 : decode cX5_copyFrom 148 = .ok (.getfield 61, 3) := by decide +kernel
theorem dX5_copyFrom_151 : decode cX5_copyFrom 151 = .ok (.iload_n 2, 1) := by decide +kernel
theorem dX5_copyFrom_152 : decode cX5_copyFrom 152 = .ok (.aload_n 1, 1) := by decide +kernel
theorem dX5_copyFrom_153 : decode cX5_copyFrom 153 = .ok (.getfield 61, 3) := by decide +kernel
theorem dX5_copyFrom_156 : decode cX5_copyFrom 156 = .ok (.iload_n 2, 1) := by decide +kernel
theorem dX5_copyFrom_157 : decode cX5_copyFrom 157 = .ok (.aaload, 1) := by decide +kernel
theorem dX5_copyFrom_158 : decode cX5_copyFrom 158 = .ok (.aastore, 1) := by decide +kernel
theorem dX5_copyFrom_159 : decode cX5_copyFrom 159 = .ok (.iinc 2 1, 3) := by decide +kernel
theorem dX5_copyFrom_162 : decode cX5_copyFrom 162 = .ok (.goto (-20), 3) := by decide +kernel
theorem dX5_copyFrom_165 : decode cX5_copyFrom 165 = .ok (.aload_n 0, 1) := by decide +kernel
theorem dX5_copyFrom_166 : decode cX5_copyFrom 166 = .ok (.aload_n 1, 1) := by decide +kernel
theorem dX5_copyFrom_167 : decode cX5_copyFrom 167 = .ok (.getfield 85, 3) := by decide +kernel
theorem dX5_copyFrom_170 : decode cX5_copyFrom 170 = .ok (.putfield 85, 3) := by decide +kernel
theorem dX5_copyFrom_173 : decode cX5_copyFrom 173 = .ok (.aload_n 0, 1) := by decide +kernel
theorem dX5_copyFrom_174 : decode cX5_copyFrom 174 = .ok (.aload_n 1, 1) := by decide +kernel
theorem dX5_copyFrom_175 : decode cX5_copyFrom 175 = .ok (.getfield 65, 3) := by decide +kernel
theorem dX5_copyFrom_178 : decode cX5_copyFrom 178 = .ok (.putfield 65, 3) := by decide +kernel
theorem dX5_copyFrom_181 : decode cX5_copyFrom 181 = .ok (.aload_n 0, 1) := by decide +kernel
theorem dX5_copyFrom_182 : decode cX5_copyFrom 182 = .ok (.aload_n 1, 1) := by decide +kernel
theorem dX5_copyFrom_183 : decode cX5_copyFrom 183 = .ok (.getfield 88, 3) := by decide +kernel
theorem dX5_copyFrom_186 : decode cX5_copyFrom 186 = .ok (.putfield 88, 3) := by decide +kernel
theorem dX5_copyFrom_189 : decode cX5_copyFrom 189 = .ok (.aload_n 0, 1) := by decide +kernel
theorem dX5_copyFrom_190 : decode cX5_copyFrom 190 = .ok (.aload_n 1, 1) := by decide +kernel
theorem dX5_copyFrom_191 : decode cX5_copyFrom 191 = .ok (.getfield 91, 3) := by decide +kernel
theorem dX5_copyFrom_194 : decode cX5_copyFrom 194 = .ok (.putfield 91, 3) := by decide +kernel
theorem dX5_copyFrom_197 : decode cX5_copyFrom 197 = .ok (.return_, 1) := by decide +kernel
theorem dX5_addCar_0 : decode cX5_addCar 0 = .ok (.aload_n 0, 1) := by decide +kernel
theorem dX5_addCar_1 : decode cX5_addCar 1 = .ok (.getfield 12, 3) := by decide +kernel
theorem dX5_addCar_4 : decode cX5_addCar 4 = .ok (.invokevirtual 94, 3) := by decide +kernel
theorem dX5_addCar_7 : decode cX5_addCar 7 = .ok (.istore_n 3, 1) := by decide +kernel
theorem dX5_addCar_8 : decode cX5_addCar 8 = .ok (.iload_n 3, 1) := by decide +kernel
theorem dX5_addCar_9 : decode cX5_addCar 9 = .ok (.iconst (-1), 1) := by decide +kernel
theorem dX5_addCar_10 : decode cX5_addCar 10 = .ok (.if_icmp .eq 38, 3) := by decide +kernel
theorem dX5_addCar_13 : decode cX5_addCar 13 = .ok (.aload_n 0, 1) := by decide +kernel
theorem dX5_addCar_14 : decode cX5_addCar 14 = .ok (.getfield 25, 3) := by decide +kernel
theorem dX5_addCar_17 : decode cX5_addCar 17 = .ok (.iload_n 3, 1) := by decide +kernel
theorem dX5_addCar_18 : decode cX5_addCar 18 = .ok (.iload_n 1, 1) := by decide +kernel
theorem dX5_addCar_19 : decode cX5_addCar 19 = .ok (.iastore, 1) := by decide +kernel
theorem dX5_addCar_20 : decode cX5_addCar 20 = .ok (.aload_n 0, 1) := by decide +kernel
theorem dX5_addCar_21 : decode cX5_addCar 21 = .ok (.getfield 29, 3) := by decide +kernel
theorem dX5_addCar_24 : decode cX5_addCar 24 = .ok (.iload_n 3, 1) := by decide +kernel
theorem dX5_addCar_25 : decode cX5_addCar 25 = .ok (.iload_n 2, 1) := by decide +kernel
theorem dX5_addCar_26 : decode cX5_addCar 26 = .ok (.iastore, 1) := by decide +kernel
theorem dX5_addCar_27 : decode cX5_addCar 27 = .ok (.aload_n 0, 1) := by decide +kernel
theorem dX5_addCar_28 : decode cX5_addCar 28 = .ok (.getfield 32, 3) := by decide +kernel
theorem dX5_addCar_31 : decode cX5_addCar 31 = .ok (.iload_n 3, 1) := by decide +kernel
theorem dX5_addCar_32 : decode cX5_addCar 32 = .ok (.iconst 1, 1) := by decide +kernel
theorem dX5_addCar_33 : decode cX5_addCar 33 = .ok (.iastore, 1) := by decide +kernel
theorem dX5_addCar_34 : decode cX5_addCar 34 = .ok (.aload_n 0, 1) := by decide +kernel
theorem dX5_addCar_35 : decode cX5_addCar 35 = .ok (.getfield 35, 3) := by decide +kernel
theorem dX5_addCar_38 : decode cX5_addCar 38 = .ok (.iload_n 3, 1) := by decide +kernel
theorem dX5_addCar_39 : decode cX5_addCar 39 = .ok (.iconst 1, 1) := by decide +kernel
theorem dX5_addCar_40 : decode cX5_addCar 40 = .ok (.iastore, 1) := by decide +kernel
theorem dX5_addCar_41 : decode cX5_addCar 41 = .ok (.aload_n 0, 1) := by decide +kernel
theorem dX5_addCar_42 : decode cX5_addCar 42 = .ok (.getfield 38, 3) := by decide +kernel
theorem dX5_addCar_45 : decode cX5_addCar 45 = .ok (.iload_n 3, 1) := by decide +kernel
theorem dX5_addCar_46 : decode cX5_addCar 46 = .ok (.iconst 0, 1) := by decide +kernel
theorem dX5_addCar_47 : decode cX5_addCar 47 = .ok (.iastore, 1) := by decide +kernel
theorem dX5_addCar_48 : decode cX5_addCar 48 = .ok (.iload_n 3, 1) := by decide +kernel
theorem dX5_addCar_49 : decode cX5_addCar 49 = .ok (.ireturn, 1) := by decide +kernel
theorem dX5_setForbidden_0 : decode cX5_setForbidden 0 = .ok (.iconst 1, 1) := by decide +kernel
theorem dX5_setForbidden_1 : decode cX5_setForbidden 1 = .ok (.iconst 4, 1) := by decide +kernel
theorem dX5_setForbidden_2 : decode cX5_setForbidden 2 = .ok (.iload_n 1, 1) := by decide +kernel
theorem dX5_setForbidden_3 : decode cX5_setForbidden 3 = .ok (.imul, 1) := by decide +kernel
theorem dX5_setForbidden_4 : decode cX5_setForbidden 4 = .ok (.iload_n 2, 1) := by decide +kernel
theorem dX5_setForbidden_5 : decode cX5_setForbidden 5 = .ok (.iadd, 1) := by decide +kernel
theorem dX5_setForbidden_6 : decode cX5_setForbidden 6 = .ok (.ishl, 1) := by decide +kernel
theorem dX5_setForbidden_7 : decode cX5_setForbidden 7 = .ok (.iconst 1, 1) := by decide +kernel
theorem dX5_setForbidden_8 : decode cX5_setForbidden 8 = .ok (.iconst 4, 1) := by decide +kernel
theorem dX5_setForbidden_9 : decode cX5_setForbidden 9 = .ok (.iload_n 2, 1) := by decide +kernel
theorem dX5_setForbidden_10 : decode cX5_setForbidden 10 = .ok (.imul, 1) := by decide +kernel
theorem dX5_setForbidden_11 : decode cX5_setForbidden 11 = .ok (.iload_n 1, 1) := by decide +kernel
theorem dX5_setForbidden_12 : decode cX5_setForbidden 12 = .ok (.iadd, 1) := by decide +kernel
theorem dX5_setForbidden_13 : decode cX5_setForbidden 13 = .ok (.ishl, 1) := by decide +kernel
theorem dX5_setForbidden_14 : decode cX5_setForbidden 14 = .ok (.ior, 1) := by decide +kernel
theorem dX5_setForbidden_15 : decode cX5_setForbidden 15 = .ok (.istore 4, 2) := by decide +kernel
theorem dX5_setForbidden_17 : decode cX5_setForbidden 17 = .ok (.aload_n 0, 1) := by decide +kernel
theorem dX5_setForbidden_18 : decode cX5_setForbidden 18 = .ok (.iload_n 3, 1) := by decide +kernel
theorem dX5_setForbidden_19 : decode cX5_setForbidden 19 = .ok (.ifCond .eq 13, 3) := by decide +kernel
theorem dX5_setForbidden_22 : decode cX5_setForbidden 22 = .ok (.aload_n 0, 1) := by decide +kernel
theorem dX5_setForbidden_23 : decode cX5_setForbidden 23 = .ok (.getfield 91, 3) := by decide +kernel
theorem dX5_setForbidden_26 : decode cX5_setForbidden 26 = .ok (.iload 4, 2) := by decide +kernel
theorem dX5_setForbidden_28 : decode cX5_setForbidden 28 = .ok (.ior, 1) := by decide +kernel
theorem dX5_setForbidden_29 : decode cX5_setForbidden 29 = .ok (.goto 12, 3) := by decide +kernel
theorem dX5_setForbidden_32 : decode cX5_setForbidden 32 = .ok (.aload_n 0, 1) := by decide +kernel
theorem dX5_setForbidden_33 : decode cX5_setForbidden 33 = .ok (.getfield 91, 3) := by decide +kernel
theorem dX5_setForbidden_36 : decode cX5_setForbidden 36 = .ok (.iload 4, 2) := by decide +kernel
theorem dX5_setForbidden_38 : decode cX5_setForbidden 38 = .ok (.iconst (-1), 1) := by decide +kernel
theorem dX5_setForbidden_39 : decode cX5_setForbidden 39 = .ok (.ixor, 1) := by decide +kernel
theorem dX5_setForbidden_40 : decode cX5_setForbidden 40 = .ok (.iand, 1) := by decide +kernel
theorem dX5_setForbidden_41 : decode cX5_setForbidden 41 = .ok (.putfield 91, 3) := by decide +kernel
theorem dX5_setForbidden_44 : decode cX5_setForbidden 44 = .ok (.iconst 1, 1) := by decide +kernel
theorem dX5_setForbidden_45 : decode cX5_setForbidden 45 = .ok (.ireturn, 1) := by decide +kernel
theorem dX5_mayStandBeside_0 : decode cX5_mayStandBeside 0 = .ok (.aload_n 0, 1) := by decide +kernel
theorem dX5_mayStandBeside_1 : decode cX5_mayStandBeside 1 = .ok (.getfield 91, 3) := by decide +kernel
theorem dX5_mayStandBeside_4 : decode cX5_mayStandBeside 4 = .ok (.iconst 4, 1) := by decide +kernel
theorem dX5_mayStandBeside_5 : decode cX5_mayStandBeside 5 = .ok (.aload_n 0, 1) := by decide +kernel
theorem dX5_mayStandBeside_6 : decode cX5_mayStandBeside 6 = .ok (.getfield 25, 3) := by decide +kernel
theorem dX5_mayStandBeside_9 : decode cX5_mayStandBeside 9 = .ok (.iload_n 1, 1) := by decide +kernel
theorem dX5_mayStandBeside_10 : decode cX5_mayStandBeside 10 = .ok (.iaload, 1) := by decide +kernel
theorem dX5_mayStandBeside_11 : decode cX5_mayStandBeside 11 = .ok (.imul, 1) := by decide +kernel
theorem dX5_mayStandBeside_12 : decode cX5_mayStandBeside 12 = .ok (.aload_n 0, 1) := by decide +kernel
theorem dX5_mayStandBeside_13 : decode cX5_mayStandBeside 13 = .ok (.getfield 25, 3) := by decide +kernel
theorem dX5_mayStandBeside_16 : decode cX5_mayStandBeside 16 = .ok (.iload_n 2, 1) := by decide +kernel
theorem dX5_mayStandBeside_17 : decode cX5_mayStandBeside 17 = .ok (.iaload, 1) := by decide +kernel
theorem dX5_mayStandBeside_18 : decode cX5_mayStandBeside 18 = .ok (.iadd, 1) := by decide +kernel
theorem dX5_mayStandBeside_19 : decode cX5_mayStandBeside 19 = .ok (.ishr, 1) := by decide +kernel
theorem dX5_mayStandBeside_20 : decode cX5_mayStandBeside 20 = .ok (.iconst 1, 1) := by decide +kernel
theorem dX5_mayStandBeside_21 : decode cX5_mayStandBeside 21 = .ok (.iand, 1) := by decide +kernel
theorem dX5_mayStandBeside_22 : decode cX5_mayStandBeside 22 = .ok (.ifCond .ne 7, 3) := by decide +kernel
theorem dX5_mayStandBeside_25 : decode cX5_mayStandBeside 25 = .ok (.iconst 1, 1) := by decide +kernel
theorem dX5_mayStandBeside_26 : decode cX5_mayStandBeside 26 = .ok (.goto 4, 3) := by decide +kernel
theorem dX5_mayStandBeside_29 : decode cX5_mayStandBeside 29 = .ok (.iconst 0, 1) := by decide +kernel
theorem dX5_mayStandBeside_30 : decode cX5_mayStandBeside 30 = .ok (.ireturn, 1) := by decide +kernel
theorem dX5_pairsThatMay_0 : decode cX5_pairsThatMay 0 = .ok (.iconst 0, 1) := by decide +kernel
theorem dX5_pairsThatMay_1 : decode cX5_pairsThatMay 1 = .ok (.istore_n 1, 1) := by decide +kernel
theorem dX5_pairsThatMay_2 : decode cX5_pairsThatMay 2 = .ok (.iconst 0, 1) := by decide +kernel
theorem dX5_pairsThatMay_3 : decode cX5_pairsThatMay 3 = .ok (.istore_n 2, 1) := by decide +kernel
theorem dX5_pairsThatMay_4 : decode cX5_pairsThatMay 4 = .ok (.iload_n 2, 1) := by decide +kernel
theorem dX5_pairsThatMay_5 : decode cX5_pairsThatMay 5 = .ok (.aload_n 0, 1) := by decide +kernel
theorem dX5_pairsThatMay_6 : decode cX5_pairsThatMay 6 = .ok (.getfield 12, 3) := by decide +kernel
theorem dX5_pairsThatMay_9 : decode cX5_pairsThatMay 9 = .ok (.invokevirtual 98, 3) := by decide +kernel
theorem dX5_pairsThatMay_12 : decode cX5_pairsThatMay 12 = .ok (.if_icmp .ge 47, 3) := by decide +kernel
theorem dX5_pairsThatMay_15 : decode cX5_pairsThatMay 15 = .ok (.iconst 0, 1) := by decide +kernel
theorem dX5_pairsThatMay_16 : decode cX5_pairsThatMay 16 = .ok (.istore_n 3, 1) := by decide +kernel
theorem dX5_pairsThatMay_17 : decode cX5_pairsThatMay 17 = .ok (.iload_n 3, 1) := by decide +kernel
theorem dX5_pairsThatMay_18 : decode cX5_pairsThatMay 18 = .ok (.aload_n 0, 1) := by decide +kernel
theorem dX5_pairsThatMay_19 : decode cX5_pairsThatMay 19 = .ok (.getfield 12, 3) := by decide +kernel
theorem dX5_pairsThatMay_22 : decode cX5_pairsThatMay 22 = .ok (.invokevirtual 98, 3) := by decide +kernel
theorem dX5_pairsThatMay_25 : decode cX5_pairsThatMay 25 = .ok (.if_icmp .ge 28, 3) := by decide +kernel
theorem dX5_pairsThatMay_28 : decode cX5_pairsThatMay 28 = .ok (.aload_n 0, 1) := by decide +kernel
theorem dX5_pairsThatMay_29 : decode cX5_pairsThatMay 29 = .ok (.iload_n 2, 1) := by decide +kernel
theorem dX5_pairsThatMay_30 : decode cX5_pairsThatMay 30 = .ok (.iload_n 3, 1) := by decide +kernel
theorem dX5_pairsThatMay_31 : decode cX5_pairsThatMay 31 = .ok (.invokevirtual 101, 3) := by decide +kernel
theorem dX5_pairsThatMay_34 : decode cX5_pairsThatMay 34 = .ok (.ifCond .eq 13, 3) := by decide +kernel
theorem dX5_pairsThatMay_37 : decode cX5_pairsThatMay 37 = .ok (.iload_n 1, 1) := by decide +kernel
theorem dX5_pairsThatMay_38 : decode cX5_pairsThatMay 38 = .ok (.iconst 1, 1) := by decide +kernel
theorem dX5_pairsThatMay_39 : decode cX5_pairsThatMay 39 = .ok (.iconst 5, 1) := by decide +kernel
theorem dX5_pairsThatMay_40 : decode cX5_pairsThatMay 40 = .ok (.iload_n 2, 1) := by decide +kernel
theorem dX5_pairsThatMay_41 : decode cX5_pairsThatMay 41 = .ok (.imul, 1) := by decide +kernel
theorem dX5_pairsThatMay_42 : decode cX5_pairsThatMay 42 = .ok (.iload_n 3, 1) := by decide +kernel
theorem dX5_pairsThatMay_43 : decode cX5_pairsThatMay 43 = .ok (.iadd, 1) := by decide +kernel
theorem dX5_pairsThatMay_44 : decode cX5_pairsThatMay 44 = .ok (.ishl, 1) := by decide +kernel
theorem dX5_pairsThatMay_45 : decode cX5_pairsThatMay 45 = .ok (.ior, 1) := by decide +kernel
theorem dX5_pairsThatMay_46 : decode cX5_pairsThatMay 46 = .ok (.istore_n 1, 1) := by decide +kernel
theorem dX5_pairsThatMay_47 : decode cX5_pairsThatMay 47 = .ok (.iinc 3 1, 3) := by decide +kernel
theorem dX5_pairsThatMay_50 : decode cX5_pairsThatMay 50 = .ok (.goto (-33), 3) := by decide +kernel
theorem dX5_pairsThatMay_53 : decode cX5_pairsThatMay 53 = .ok (.iinc 2 1, 3) := by decide +kernel
theorem dX5_pairsThatMay_56 : decode cX5_pairsThatMay 56 = .ok (.goto (-52), 3) := by decide +kernel
theorem dX5_pairsThatMay_59 : decode cX5_pairsThatMay 59 = .ok (.iload_n 1, 1) := by decide +kernel
theorem dX5_pairsThatMay_60 : decode cX5_pairsThatMay 60 = .ok (.ireturn, 1) := by decide +kernel
theorem dX5_loadOfUppermost_0 : decode cX5_loadOfUppermost 0 = .ok (.aload_n 0, 1) := by decide +kernel
theorem dX5_loadOfUppermost_1 : decode cX5_loadOfUppermost 1 = .ok (.getfield 12, 3) := by decide +kernel
theorem dX5_loadOfUppermost_4 : decode cX5_loadOfUppermost 4 = .ok (.iload_n 1, 1) := by decide +kernel
theorem dX5_loadOfUppermost_5 : decode cX5_loadOfUppermost 5 = .ok (.invokevirtual 105, 3) := by decide +kernel
theorem dX5_loadOfUppermost_8 : decode cX5_loadOfUppermost 8 = .ok (.istore_n 2, 1) := by decide +kernel
theorem dX5_loadOfUppermost_9 : decode cX5_loadOfUppermost 9 = .ok (.iload_n 2, 1) := by decide +kernel
theorem dX5_loadOfUppermost_10 : decode cX5_loadOfUppermost 10 = .ok (.iconst (-1), 1) := by decide +kernel
theorem dX5_loadOfUppermost_11 : decode cX5_loadOfUppermost 11 = .ok (.if_icmp .ne 7, 3) := by decide +kernel
theorem dX5_loadOfUppermost_14 : decode cX5_loadOfUppermost 14 = .ok (.iconst 0, 1) := by decide +kernel
theorem dX5_loadOfUppermost_15 : decode cX5_loadOfUppermost 15 = .ok (.goto 9, 3) := by decide +kernel
theorem dX5_loadOfUppermost_18 : decode cX5_loadOfUppermost 18 = .ok (.aload_n 0, 1) := by decide +kernel
theorem dX5_loadOfUppermost_19 : decode cX5_loadOfUppermost 19 = .ok (.getfield 29, 3) := by decide +kernel
theorem dX5_loadOfUppermost_22 : decode cX5_loadOfUppermost 22 = .ok (.iload_n 2, 1) := by decide +kernel
theorem dX5_loadOfUppermost_23 : decode cX5_loadOfUppermost 23 = .ok (.iaload, 1) := by decide +kernel
theorem dX5_loadOfUppermost_24 : decode cX5_loadOfUppermost 24 = .ok (.ireturn, 1) := by decide +kernel
theorem dX5_loadOn_0 : decode cX5_loadOn 0 = .ok (.iconst 0, 1) := by decide +kernel
theorem dX5_loadOn_1 : decode cX5_loadOn 1 = .ok (.istore_n 2, 1) := by decide +kernel
theorem dX5_loadOn_2 : decode cX5_loadOn 2 = .ok (.iconst 0, 1) := by decide +kernel
theorem dX5_loadOn_3 : decode cX5_loadOn 3 = .ok (.istore_n 3, 1) := by decide +kernel
theorem dX5_loadOn_4 : decode cX5_loadOn 4 = .ok (.iload_n 3, 1) := by decide +kernel
theorem dX5_loadOn_5 : decode cX5_loadOn 5 = .ok (.aload_n 0, 1) := by decide +kernel
theorem dX5_loadOn_6 : decode cX5_loadOn 6 = .ok (.getfield 12, 3) := by decide +kernel
theorem dX5_loadOn_9 : decode cX5_loadOn 9 = .ok (.iload_n 1, 1) := by decide +kernel
theorem dX5_loadOn_10 : decode cX5_loadOn 10 = .ok (.invokevirtual 109, 3) := by decide +kernel
theorem dX5_loadOn_13 : decode cX5_loadOn 13 = .ok (.if_icmp .ge 26, 3) := by decide +kernel
theorem dX5_loadOn_16 : decode cX5_loadOn 16 = .ok (.iload_n 2, 1) := by decide +kernel
theorem dX5_loadOn_17 : decode cX5_loadOn 17 = .ok (.aload_n 0, 1) := by decide +kernel
theorem dX5_loadOn_18 : decode cX5_loadOn 18 = .ok (.getfield 29, 3) := by decide +kernel
theorem dX5_loadOn_21 : decode cX5_loadOn 21 = .ok (.aload_n 0, 1) := by decide +kernel
theorem dX5_loadOn_22 : decode cX5_loadOn 22 = .ok (.getfield 12, 3) := by decide +kernel
theorem dX5_loadOn_25 : decode cX5_loadOn 25 = .ok (.iload_n 1, 1) := by decide +kernel
theorem dX5_loadOn_26 : decode cX5_loadOn 26 = .ok (.iload_n 3, 1) := by decide +kernel
theorem dX5_loadOn_27 : decode cX5_loadOn 27 = .ok (.invokevirtual 112, 3) := by decide +kernel
theorem dX5_loadOn_30 : decode cX5_loadOn 30 = .ok (.iaload, 1) := by decide +kernel
theorem dX5_loadOn_31 : decode cX5_loadOn 31 = .ok (.iadd, 1) := by decide +kernel
theorem dX5_loadOn_32 : decode cX5_loadOn 32 = .ok (.istore_n 2, 1) := by decide +kernel
theorem dX5_loadOn_33 : decode cX5_loadOn 33 = .ok (.iinc 3 1, 3) := by decide +kernel
theorem dX5_loadOn_36 : decode cX5_loadOn 36 = .ok (.goto (-32), 3) := by decide +kernel
theorem dX5_loadOn_39 : decode cX5_loadOn 39 = .ok (.iload_n 2, 1) := by decide +kernel
theorem dX5_loadOn_40 : decode cX5_loadOn 40 = .ok (.ireturn, 1) := by decide +kernel
theorem dX5_rulingText_0 : decode cX5_rulingText 0 = .ok (.aload_n 0, 1) := by decide +kernel
theorem dX5_rulingText_1 : decode cX5_rulingText 1 = .ok (.getfield 65, 3) := by decide +kernel
theorem dX5_rulingText_4 : decode cX5_rulingText 4 = .ok (.ifCond .lt 26, 3) := by decide +kernel
theorem dX5_rulingText_7 : decode cX5_rulingText 7 = .ok (.aload_n 0, 1) := by decide +kernel
theorem dX5_rulingText_8 : decode cX5_rulingText 8 = .ok (.getfield 65, 3) := by decide +kernel
theorem dX5_rulingText_11 : decode cX5_rulingText 11 = .ok (.aload_n 0, 1) := by decide +kernel
theorem dX5_rulingText_12 : decode cX5_rulingText 12 = .ok (.getfield 85, 3) := by decide +kernel
theorem dX5_rulingText_15 : decode cX5_rulingText 15 = .ok (.if_icmp .ge 15, 3) := by decide +kernel
theorem dX5_rulingText_18 : decode cX5_rulingText 18 = .ok (.aload_n 0, 1) := by decide +kernel
theorem dX5_rulingText_19 : decode cX5_rulingText 19 = .ok (.getfield 61, 3) := by decide +kernel
theorem dX5_rulingText_22 : decode cX5_rulingText 22 = .ok (.aload_n 0, 1) := by decide +kernel
theorem dX5_rulingText_23 : decode cX5_rulingText 23 = .ok (.getfield 65, 3) := by decide +kernel
theorem dX5_rulingText_26 : decode cX5_rulingText 26 = .ok (.aaload, 1) := by decide +kernel
theorem dX5_rulingText_27 : decode cX5_rulingText 27 = .ok (.goto 4, 3) := by decide +kernel
theorem dX5_rulingText_30 : decode cX5_rulingText 30 = .ok (.aconst_null, 1) := by decide +kernel
theorem dX5_rulingText_31 : decode cX5_rulingText 31 = .ok (.areturn, 1) := by decide +kernel
theorem dX6_init_0 : decode cX6_init 0 = .ok (.aload_n 0, 1) := by decide +kernel
theorem dX6_init_1 : decode cX6_init 1 = .ok (.invokespecial 3, 3) := by decide +kernel
theorem dX6_init_4 : decode cX6_init 4 = .ok (.aload_n 0, 1) := by decide +kernel
theorem dX6_init_5 : decode cX6_init 5 = .ok (.sipush 1800, 3) := by decide +kernel
theorem dX6_init_8 : decode cX6_init 8 = .ok (.newarray .int, 2) := by decide +kernel
theorem dX6_init_10 : decode cX6_init 10 = .ok (.putfield 11, 3) := by decide +kernel
theorem dX6_init_13 : decode cX6_init 13 = .ok (.return_, 1) := by decide +kernel
theorem dX6_keep_0 : decode cX6_keep 0 = .ok (.aload_n 0, 1) := by decide +kernel
theorem dX6_keep_1 : decode cX6_keep 1 = .ok (.getfield 17, 3) := by decide +kernel
theorem dX6_keep_4 : decode cX6_keep 4 = .ok (.aload_n 0, 1) := by decide +kernel
theorem dX6_keep_5 : decode cX6_keep 5 = .ok (.getfield 21, 3) := by decide +kernel
theorem dX6_keep_8 : decode cX6_keep 8 = .ok (.iadd, 1) := by decide +kernel
theorem dX6_keep_9 : decode cX6_keep 9 = .ok (.bipush 30, 2) := by decide +kernel
theorem dX6_keep_11 : decode cX6_keep 11 = .ok (.irem, 1) := by decide +kernel
theorem dX6_keep_12 : decode cX6_keep 12 = .ok (.istore_n 2, 1) := by decide +kernel
theorem dX6_keep_13 : decode cX6_keep 13 = .ok (.aload_n 1, 1) := by decide +kernel
theorem dX6_keep_14 : decode cX6_keep 14 = .ok (.getfield 24, 3) := by decide +kernel
theorem dX6_keep_17 : decode cX6_keep 17 = .ok (.iconst 0, 1) := by decide +kernel
theorem dX6_keep_18 : decode cX6_keep 18 = .ok (.aload_n 0, 1) := by decide +kernel
theorem dX6_keep_19 : decode cX6_keep 19 = .ok (.getfield 11, 3) := by decide +kernel
theorem dX6_keep_22 : decode cX6_keep 22 = .ok (.iload_n 2, 1) := by decide +kernel
theorem dX6_keep_23 : decode cX6_keep 23 = .ok (.bipush 60, 2) := by decide +kernel
theorem dX6_keep_25 : decode cX6_keep 25 = .ok (.imul, 1) := by decide +kernel
theorem dX6_keep_26 : decode cX6_keep 26 = .ok (.bipush 60, 2) := by decide +kernel
theorem dX6_keep_28 : decode cX6_keep 28 = .ok (.invokestatic 27, 3) := by decide +kernel
theorem dX6_keep_31 : decode cX6_keep 31 = .ok (.aload_n 0, 1) := by decide +kernel
theorem dX6_keep_32 : decode cX6_keep 32 = .ok (.getfield 21, 3) := by decide +kernel
theorem dX6_keep_35 : decode cX6_keep 35 = .ok (.bipush 30, 2) := by decide +kernel
theorem dX6_keep_37 : decode cX6_keep 37 = .ok (.if_icmp .ge 16, 3) := by decide +kernel
theorem dX6_keep_40 : decode cX6_keep 40 = .ok (.aload_n 0, 1) := by decide +kernel
theorem dX6_keep_41 : decode cX6_keep 41 = .ok (.dup, 1) := by decide +kernel
theorem dX6_keep_42 : decode cX6_keep 42 = .ok (.getfield 21, 3) := by decide +kernel
theorem dX6_keep_45 : decode cX6_keep 45 = .ok (.iconst 1, 1) := by decide +kernel
theorem dX6_keep_46 : decode cX6_keep 46 = .ok (.iadd, 1) := by decide +kernel
theorem dX6_keep_47 : decode cX6_keep 47 = .ok (.putfield 21, 3) := by decide +kernel
theorem dX6_keep_50 : decode cX6_keep 50 = .ok (.goto 16, 3) := by decide +kernel
theorem dX6_keep_53 : decode cX6_keep 53 = .ok (.aload_n 0, 1) := by decide +kernel
theorem dX6_keep_54 : decode cX6_keep 54 = .ok (.aload_n 0, 1) := by decide +kernel
theorem dX6_keep_55 : decode cX6_keep 55 = .ok (.getfield 17, 3) := by decide +kernel
theorem dX6_keep_58 : decode cX6_keep 58 = .ok (.iconst 1, 1) := by decide +kernel
theorem dX6_keep_59 : decode cX6_keep 59 = .ok (.iadd, 1) := by decide +kernel
theorem dX6_keep_60 : decode cX6_keep 60 = .ok (.bipush 30, 2) := by decide +kernel
theorem dX6_keep_62 : decode cX6_keep 62 = .ok (.irem, 1) := by decide +kernel
theorem dX6_keep_63 : decode cX6_keep 63 = .ok (.putfield 17, 3) := by decide +kernel
theorem dX6_keep_66 : decode cX6_keep 66 = .ok (.return_, 1) := by decide +kernel
theorem dX6_takeBack_0 : decode cX6_takeBack 0 = .ok (.aload_n 0, 1) := by decide +kernel
theorem dX6_takeBack_1 : decode cX6_takeBack 1 = .ok (.getfield 21, 3) := by decide +kernel
theorem dX6_takeBack_4 : decode cX6_takeBack 4 = .ok (.ifCond .ne 5, 3) := by decide +kernel
theorem dX6_takeBack_7 : decode cX6_takeBack 7 = .ok (.iconst 0, 1) := by decide +kernel
theorem dX6_takeBack_8 : decode cX6_takeBack 8 = .ok (.ireturn, 1) := by decide +kernel
theorem dX6_takeBack_9 : decode cX6_takeBack 9 = .ok (.aload_n 0, 1) := by decide +kernel
theorem dX6_takeBack_10 : decode cX6_takeBack 10 = .ok (.dup, 1) := by decide +kernel
theorem dX6_takeBack_11 : decode cX6_takeBack 11 = .ok (.getfield 21, 3) := by decide +kernel
theorem dX6_takeBack_14 : decode cX6_takeBack 14 = .ok (.iconst 1, 1) := by decide +kernel
theorem dX6_takeBack_15 : decode cX6_takeBack 15 = .ok (.isub, 1) := by decide +kernel
theorem dX6_takeBack_16 : decode cX6_takeBack 16 = .ok (.putfield 21, 3) := by decide +kernel
theorem dX6_takeBack_19 : decode cX6_takeBack 19 = .ok (.aload_n 0, 1) := by decide +kernel
theorem dX6_takeBack_20 : decode cX6_takeBack 20 = .ok (.getfield 17, 3) := by decide +kernel
theorem dX6_takeBack_23 : decode cX6_takeBack 23 = .ok (.aload_n 0, 1) := by decide +kernel
theorem dX6_takeBack_24 : decode cX6_takeBack 24 = .ok (.getfield 21, 3) := by decide +kernel
theorem dX6_takeBack_27 : decode cX6_takeBack 27 = .ok (.iadd, 1) := by decide +kernel
theorem dX6_takeBack_28 : decode cX6_takeBack 28 = .ok (.bipush 30, 2) := by decide +kernel
theorem dX6_takeBack_30 : decode cX6_takeBack 30 = .ok (.irem, 1) := by decide +kernel
theorem dX6_takeBack_31 : decode cX6_takeBack 31 = .ok (.istore_n 2, 1) := by decide +kernel
theorem dX6_takeBack_32 : decode cX6_takeBack 32 = .ok (.aload_n 1, 1) := by decide +kernel
theorem dX6_takeBack_33 : decode cX6_takeBack 33 = .ok (.invokevirtual 33, 3) := by decide +kernel
theorem dX6_takeBack_36 : decode cX6_takeBack 36 = .ok (.istore_n 3, 1) := by decide +kernel
theorem dX6_takeBack_37 : decode cX6_takeBack 37 = .ok (.aload_n 0, 1) := by decide +kernel
theorem dX6_takeBack_38 : decode cX6_takeBack 38 = .ok (.getfield 11, 3) := by decide +kernel
theorem dX6_takeBack_41 : decode cX6_takeBack 41 = .ok (.iload_n 2, 1) := by decide +kernel
theorem dX6_takeBack_42 : decode cX6_takeBack 42 = .ok (.bipush 60, 2) := by decide +kernel
theorem dX6_takeBack_44 : decode cX6_takeBack 44 = .ok (.imul, 1) := by decide +kernel
theorem dX6_takeBack_45 : decode cX6_takeBack 45 = .ok (.aload_n 1, 1) := by decide +kernel
theorem dX6_takeBack_46 : decode cX6_takeBack 46 = .ok (.getfield 24, 3) := by decide +kernel
theorem dX6_takeBack_49 : decode cX6_takeBack 49 = .ok (.iconst 0, 1) := by decide +kernel
theorem dX6_takeBack_50 : decode cX6_takeBack 50 = .ok (.bipush 60, 2) := by decide +kernel
theorem dX6_takeBack_52 : decode cX6_takeBack 52 = .ok (.invokestatic 27, 3) := by decide +kernel
theorem dX6_takeBack_55 : decode cX6_takeBack 55 = .ok (.aload_n 1, 1) := by decide +kernel
theorem dX6_takeBack_56 : decode cX6_takeBack 56 = .ok (.invokevirtual 33, 3) := by decide +kernel
theorem dX6_takeBack_59 : decode cX6_takeBack 59 = .ok (.istore 4, 2) := by decide +kernel
theorem dX6_takeBack_61 : decode cX6_takeBack 61 = .ok (.iload 4, 2) := by decide +kernel
theorem dX6_takeBack_63 : decode cX6_takeBack 63 = .ok (.iload_n 3, 1) := by decide +kernel
theorem dX6_takeBack_64 : decode cX6_takeBack 64 = .ok (.if_icmp .ge 14, 3) := by decide +kernel
theorem dX6_takeBack_67 : decode cX6_takeBack 67 = .ok (.aload_n 1, 1) := by decide +kernel
theorem dX6_takeBack_68 : decode cX6_takeBack 68 = .ok (.invokevirtual 37, 3) := by decide +kernel
theorem dX6_takeBack_71 : decode cX6_takeBack 71 = .ok (.pop, 1) := by decide +kernel
theorem dX6_takeBack_72 : decode cX6_takeBack 72 = .ok (.iinc 4 1, 3) := by decide +kernel
theorem dX6_takeBack_75 : decode cX6_takeBack 75 = .ok (.goto (-14), 3) := by decide +kernel
theorem dX6_takeBack_78 : decode cX6_takeBack 78 = .ok (.iconst 1, 1) := by decide +kernel
theorem dX6_takeBack_79 : decode cX6_takeBack 79 = .ok (.ireturn, 1) := by decide +kernel
theorem dX6_copyFrom_0 : decode cX6_copyFrom 0 = .ok (.aload_n 1, 1) := by decide +kernel
theorem dX6_copyFrom_1 : decode cX6_copyFrom 1 = .ok (.getfield 11, 3) := by decide +kernel
theorem dX6_copyFrom_4 : decode cX6_copyFrom 4 = .ok (.iconst 0, 1) := by decide +kernel
theorem dX6_copyFrom_5 : decode cX6_copyFrom 5 = .ok (.aload_n 0, 1) := by decide +kernel
theorem dX6_copyFrom_6 : decode cX6_copyFrom 6 = .ok (.getfield 11, 3) := by decide +kernel
theorem dX6_copyFrom_9 : decode cX6_copyFrom 9 = .ok (.iconst 0, 1) := by decide +kernel
theorem dX6_copyFrom_10 : decode cX6_copyFrom 10 = .ok (.aload_n 0, 1) := by decide +kernel
theorem dX6_copyFrom_11 : decode cX6_copyFrom 11 = .ok (.getfield 11, 3) := by decide +kernel
theorem dX6_copyFrom_14 : decode cX6_copyFrom 14 = .ok (.arraylength, 1) := by decide +kernel
theorem dX6_copyFrom_15 : decode cX6_copyFrom 15 = .ok (.invokestatic 27, 3) := by decide +kernel
theorem dX6_copyFrom_18 : decode cX6_copyFrom 18 = .ok (.aload_n 0, 1) := by decide +kernel
theorem dX6_copyFrom_19 : decode cX6_copyFrom 19 = .ok (.aload_n 1, 1) := by decide +kernel
theorem dX6_copyFrom_20 : decode cX6_copyFrom 20 = .ok (.getfield 17, 3) := by decide +kernel
theorem dX6_copyFrom_23 : decode cX6_copyFrom 23 = .ok (.putfield 17, 3) := by decide +kernel
theorem dX6_copyFrom_26 : decode cX6_copyFrom 26 = .ok (.aload_n 0, 1) := by decide +kernel
theorem dX6_copyFrom_27 : decode cX6_copyFrom 27 = .ok (.aload_n 1, 1) := by decide +kernel
theorem dX6_copyFrom_28 : decode cX6_copyFrom 28 = .ok (.getfield 21, 3) := by decide +kernel
theorem dX6_copyFrom_31 : decode cX6_copyFrom 31 = .ok (.putfield 21, 3) := by decide +kernel
theorem dX6_copyFrom_34 : decode cX6_copyFrom 34 = .ok (.return_, 1) := by decide +kernel
theorem dX7_init_0 : decode cX7_init 0 = .ok (.aload_n 0, 1) := by decide +kernel
theorem dX7_init_1 : decode cX7_init 1 = .ok (.invokespecial 3, 3) := by decide +kernel
theorem dX7_init_4 : decode cX7_init 4 = .ok (.aload_n 0, 1) := by decide +kernel
theorem dX7_init_5 : decode cX7_init 5 = .ok (.iconst 0, 1) := by decide +kernel
theorem dX7_init_6 : decode cX7_init 6 = .ok (.iload_n 1, 1) := by decide +kernel
theorem dX7_init_7 : decode cX7_init 7 = .ok (.invokestatic 9, 3) := by decide +kernel
theorem dX7_init_10 : decode cX7_init 10 = .ok (.putfield 15, 3) := by decide +kernel
theorem dX7_init_13 : decode cX7_init 13 = .ok (.aload_n 0, 1) := by decide +kernel
theorem dX7_init_14 : decode cX7_init 14 = .ok (.iconst 3, 1) := by decide +kernel
theorem dX7_init_15 : decode cX7_init 15 = .ok (.aload_n 0, 1) := by decide +kernel
theorem dX7_init_16 : decode cX7_init 16 = .ok (.getfield 15, 3) := by decide +kernel
theorem dX7_init_19 : decode cX7_init 19 = .ok (.imul, 1) := by decide +kernel
theorem dX7_init_20 : decode cX7_init 20 = .ok (.newarray .int, 2) := by decide +kernel
theorem dX7_init_22 : decode cX7_init 22 = .ok (.putfield 21, 3) := by decide +kernel
theorem dX7_init_25 : decode cX7_init 25 = .ok (.return_, 1) := by decide +kernel
theorem dX7_add_0 : decode cX7_add 0 = .ok (.aload_n 0, 1) := by decide +kernel
theorem dX7_add_1 : decode cX7_add 1 = .ok (.getfield 25, 3) := by decide +kernel
theorem dX7_add_4 : decode cX7_add 4 = .ok (.aload_n 0, 1) := by decide +kernel
theorem dX7_add_5 : decode cX7_add 5 = .ok (.getfield 15, 3) := by decide +kernel
theorem dX7_add_8 : decode cX7_add 8 = .ok (.if_icmp .lt 6, 3) := by decide +kernel
theorem dX7_add_11 : decode cX7_add 11 = .ok (.bipush (-2), 2) := by decide +kernel
theorem dX7_add_13 : decode cX7_add 13 = .ok (.ireturn, 1) := by decide +kernel
theorem dX7_add_14 : decode cX7_add 14 = .ok (.aload_n 0, 1) := by decide +kernel
theorem dX7_add_15 : decode cX7_add 15 = .ok (.getfield 21, 3) := by decide +kernel
theorem dX7_add_18 : decode cX7_add 18 = .ok (.iconst 3, 1) := by decide +kernel
theorem dX7_add_19 : decode cX7_add 19 = .ok (.aload_n 0, 1) := by decide +kernel
theorem dX7_add_20 : decode cX7_add 20 = .ok (.getfield 25, 3) := by decide +kernel
theorem dX7_add_23 : decode cX7_add 23 = .ok (.imul, 1) := by decide +kernel
theorem dX7_add_24 : decode cX7_add 24 = .ok (.iload_n 1, 1) := by decide +kernel
theorem dX7_add_25 : decode cX7_add 25 = .ok (.iastore, 1) := by decide +kernel
theorem dX7_add_26 : decode cX7_add 26 = .ok (.aload_n 0, 1) := by decide +kernel
theorem dX7_add_27 : decode cX7_add 27 = .ok (.getfield 21, 3) := by decide +kernel
theorem dX7_add_30 : decode cX7_add 30 = .ok (.iconst 3, 1) := by decide +kernel
theorem dX7_add_31 : decode cX7_add 31 = .ok (.aload_n 0, 1) := by decide +kernel
theorem dX7_add_32 : decode cX7_add 32 = .ok (.getfield 25, 3) := by decide +kernel
theorem dX7_add_35 : decode cX7_add 35 = .ok (.imul, 1) := by decide +kernel
theorem dX7_add_36 : decode cX7_add 36 = .ok (.iconst 1, 1) := by decide +kernel
theorem dX7_add_37 : decode cX7_add 37 = .ok (.iadd, 1) := by decide +kernel
theorem dX7_add_38 : decode cX7_add 38 = .ok (.iload_n 2, 1) := by decide +kernel
theorem dX7_add_39 : decode cX7_add 39 = .ok (.iastore, 1) := by decide +kernel
theorem dX7_add_40 : decode cX7_add 40 = .ok (.aload_n 0, 1) := by decide +kernel
theorem dX7_add_41 : decode cX7_add 41 = .ok (.getfield 21, 3) := by decide +kernel
theorem dX7_add_44 : decode cX7_add 44 = .ok (.iconst 3, 1) := by decide +kernel
theorem dX7_add_45 : decode cX7_add 45 = .ok (.aload_n 0, 1) := by decide +kernel
theorem dX7_add_46 : decode cX7_add 46 = .ok (.getfield 25, 3) := by decide +kernel
theorem dX7_add_49 : decode cX7_add 49 = .ok (.imul, 1) := by decide +kernel
theorem dX7_add_50 : decode cX7_add 50 = .ok (.iconst 2, 1) := by decide +kernel
theorem dX7_add_51 : decode cX7_add 51 = .ok (.iadd, 1) := by decide +kernel
theorem dX7_add_52 : decode cX7_add 52 = .ok (.iload_n 3, 1) := by decide +kernel
theorem dX7_add_53 : decode cX7_add 53 = .ok (.iastore, 1) := by decide +kernel
theorem dX7_add_54 : decode cX7_add 54 = .ok (.aload_n 0, 1) := by decide +kernel
theorem dX7_add_55 : decode cX7_add 55 = .ok (.dup, 1) := by decide +kernel
theorem dX7_add_56 : decode cX7_add 56 = .ok (.getfield 25, 3) := by decide +kernel
theorem dX7_add_59 : decode cX7_add 59 = .ok (.iconst 1, 1) := by decide +kernel
theorem dX7_add_60 : decode cX7_add 60 = .ok (.iadd, 1) := by decide +kernel
theorem dX7_add_61 : decode cX7_add 61 = .ok (.putfield 25, 3) := by decide +kernel
theorem dX7_add_64 : decode cX7_add 64 = .ok (.aload_n 0, 1) := by decide +kernel
theorem dX7_add_65 : decode cX7_add 65 = .ok (.getfield 25, 3) := by decide +kernel
theorem dX7_add_68 : decode cX7_add 68 = .ok (.ireturn, 1) := by decide +kernel
theorem dX7_empty_0 : decode cX7_empty 0 = .ok (.aload_n 0, 1) := by decide +kernel
theorem dX7_empty_1 : decode cX7_empty 1 = .ok (.iconst 0, 1) := by decide +kernel
theorem dX7_empty_2 : decode cX7_empty 2 = .ok (.putfield 25, 3) := by decide +kernel
theorem dX7_empty_5 : decode cX7_empty 5 = .ok (.iconst 0, 1) := by decide +kernel
theorem dX7_empty_6 : decode cX7_empty 6 = .ok (.ireturn, 1) := by decide +kernel
theorem dX7_cell_0 : decode cX7_cell 0 = .ok (.aload_n 0, 1) := by decide +kernel
theorem dX7_cell_1 : decode cX7_cell 1 = .ok (.getfield 21, 3) := by decide +kernel
theorem dX7_cell_4 : decode cX7_cell 4 = .ok (.iconst 3, 1) := by decide +kernel
theorem dX7_cell_5 : decode cX7_cell 5 = .ok (.iload_n 1, 1) := by decide +kernel
theorem dX7_cell_6 : decode cX7_cell 6 = .ok (.imul, 1) := by decide +kernel
theorem dX7_cell_7 : decode cX7_cell 7 = .ok (.iload_n 2, 1) := by decide +kernel
theorem dX7_cell_8 : decode cX7_cell 8 = .ok (.iadd, 1) := by decide +kernel
theorem dX7_cell_9 : decode cX7_cell 9 = .ok (.iaload, 1) := by decide +kernel
theorem dX7_cell_10 : decode cX7_cell 10 = .ok (.ireturn, 1) := by decide +kernel
theorem dX7_copyFrom_0 : decode cX7_copyFrom 0 = .ok (.aload_n 1, 1) := by decide +kernel
theorem dX7_copyFrom_1 : decode cX7_copyFrom 1 = .ok (.getfield 21, 3) := by decide +kernel
theorem dX7_copyFrom_4 : decode cX7_copyFrom 4 = .ok (.iconst 0, 1) := by decide +kernel
theorem dX7_copyFrom_5 : decode cX7_copyFrom 5 = .ok (.aload_n 0, 1) := by decide +kernel
theorem dX7_copyFrom_6 : decode cX7_copyFrom 6 = .ok (.getfield 21, 3) := by decide +kernel
theorem dX7_copyFrom_9 : decode cX7_copyFrom 9 = .ok (.iconst 0, 1) := by decide +kernel
theorem dX7_copyFrom_10 : decode cX7_copyFrom 10 = .ok (.aload_n 0, 1) := by decide +kernel
theorem dX7_copyFrom_11 : decode cX7_copyFrom 11 = .ok (.getfield 21, 3) := by decide +kernel
theorem dX7_copyFrom_14 : decode cX7_copyFrom 14 = .ok (.arraylength, 1) := by decide +kernel
theorem dX7_copyFrom_15 : decode cX7_copyFrom 15 = .ok (.aload_n 1, 1) := by decide +kernel
theorem dX7_copyFrom_16 : decode cX7_copyFrom 16 = .ok (.getfield 21, 3) := by decide +kernel
theorem dX7_copyFrom_19 : decode cX7_copyFrom 19 = .ok (.arraylength, 1) := by decide +kernel
theorem dX7_copyFrom_20 : decode cX7_copyFrom 20 = .ok (.invokestatic 28, 3) := by decide +kernel
theorem dX7_copyFrom_23 : decode cX7_copyFrom 23 = .ok (.invokestatic 31, 3) := by decide +kernel
theorem dX7_copyFrom_26 : decode cX7_copyFrom 26 = .ok (.aload_n 0, 1) := by decide +kernel
theorem dX7_copyFrom_27 : decode cX7_copyFrom 27 = .ok (.aload_n 0, 1) := by decide +kernel
theorem dX7_copyFrom_28 : decode cX7_copyFrom 28 = .ok (.getfield 15, 3) := by decide +kernel
theorem dX7_copyFrom_31 : decode cX7_copyFrom 31 = .ok (.aload_n 1, 1) := by decide +kernel
theorem dX7_copyFrom_32 : decode cX7_copyFrom 32 = .ok (.getfield 25, 3) := by decide +kernel
theorem dX7_copyFrom_35 : decode cX7_copyFrom 35 = .ok (.invokestatic 28, 3) := by decide +kernel
theorem dX7_copyFrom_38 : decode cX7_copyFrom 38 = .ok (.putfield 25, 3) := by decide +kernel
theorem dX7_copyFrom_41 : decode cX7_copyFrom 41 = .ok (.return_, 1) := by decide +kernel
theorem dX8_init_0 : decode cX8_init 0 = .ok (.aload_n 0, 1) := by decide +kernel
theorem dX8_init_1 : decode cX8_init 1 = .ok (.invokespecial 3, 3) := by decide +kernel
theorem dX8_init_4 : decode cX8_init 4 = .ok (.aload_n 0, 1) := by decide +kernel
theorem dX8_init_5 : decode cX8_init 5 = .ok (.aload_n 1, 1) := by decide +kernel
theorem dX8_init_6 : decode cX8_init 6 = .ok (.putfield 9, 3) := by decide +kernel
theorem dX8_init_9 : decode cX8_init 9 = .ok (.aload_n 0, 1) := by decide +kernel
theorem dX8_init_10 : decode cX8_init 10 = .ok (.aload_n 2, 1) := by decide +kernel
theorem dX8_init_11 : decode cX8_init 11 = .ok (.putfield 15, 3) := by decide +kernel
theorem dX8_init_14 : decode cX8_init 14 = .ok (.aload_n 0, 1) := by decide +kernel
theorem dX8_init_15 : decode cX8_init 15 = .ok (.aload_n 3, 1) := by decide +kernel
theorem dX8_init_16 : decode cX8_init 16 = .ok (.putfield 18, 3) := by decide +kernel
theorem dX8_init_19 : decode cX8_init 19 = .ok (.return_, 1) := by decide +kernel
theorem dX8_countClauses_0 : decode cX8_countClauses 0 = .ok (.aload_n 0, 1) := by decide +kernel
theorem dX8_countClauses_1 : decode cX8_countClauses 1 = .ok (.getfield 9, 3) := by decide +kernel
theorem dX8_countClauses_4 : decode cX8_countClauses 4 = .ok (.arraylength, 1) := by decide +kernel
theorem dX8_countClauses_5 : decode cX8_countClauses 5 = .ok (.iconst 3, 1) := by decide +kernel
theorem dX8_countClauses_6 : decode cX8_countClauses 6 = .ok (.idiv, 1) := by decide +kernel
theorem dX8_countClauses_7 : decode cX8_countClauses 7 = .ok (.ireturn, 1) := by decide +kernel
theorem dX8_clausePart_0 : decode cX8_clausePart 0 = .ok (.aload_n 0, 1) := by decide +kernel
theorem dX8_clausePart_1 : decode cX8_clausePart 1 = .ok (.getfield 9, 3) := by decide +kernel
theorem dX8_clausePart_4 : decode cX8_clausePart 4 = .ok (.iconst 3, 1) := by decide +kernel
theorem dX8_clausePart_5 : decode cX8_clausePart 5 = .ok (.iload_n 1, 1) := by decide +kernel
theorem dX8_clausePart_6 : decode cX8_clausePart 6 = .ok (.imul, 1) := by decide +kernel
theorem dX8_clausePart_7 : decode cX8_clausePart 7 = .ok (.iload_n 2, 1) := by decide +kernel
theorem dX8_clausePart_8 : decode cX8_clausePart 8 = .ok (.iadd, 1) := by decide +kernel
theorem dX8_clausePart_9 : decode cX8_clausePart 9 = .ok (.iaload, 1) := by decide +kernel
theorem dX8_clausePart_10 : decode cX8_clausePart 10 = .ok (.ireturn, 1) := by decide +kernel
theorem dX8_hasLaw_0 : decode cX8_hasLaw 0 = .ok (.aload_n 0, 1) := by decide +kernel
theorem dX8_hasLaw_1 : decode cX8_hasLaw 1 = .ok (.getfield 18, 3) := by decide +kernel
theorem dX8_hasLaw_4 : decode cX8_hasLaw 4 = .ok (.iconst 2, 1) := by decide +kernel
theorem dX8_hasLaw_5 : decode cX8_hasLaw 5 = .ok (.iload_n 1, 1) := by decide +kernel
theorem dX8_hasLaw_6 : decode cX8_hasLaw 6 = .ok (.imul, 1) := by decide +kernel
theorem dX8_hasLaw_7 : decode cX8_hasLaw 7 = .ok (.iaload, 1) := by decide +kernel
theorem dX8_hasLaw_8 : decode cX8_hasLaw 8 = .ok (.iconst (-1), 1) := by decide +kernel
theorem dX8_hasLaw_9 : decode cX8_hasLaw 9 = .ok (.if_icmp .eq 7, 3) := by decide +kernel
theorem dX8_hasLaw_12 : decode cX8_hasLaw 12 = .ok (.iconst 1, 1) := by decide +kernel
theorem dX8_hasLaw_13 : decode cX8_hasLaw 13 = .ok (.goto 4, 3) := by decide +kernel
theorem dX8_hasLaw_16 : decode cX8_hasLaw 16 = .ok (.iconst 0, 1) := by decide +kernel
theorem dX8_hasLaw_17 : decode cX8_hasLaw 17 = .ok (.ireturn, 1) := by decide +kernel
theorem dX8_codeFrom_0 : decode cX8_codeFrom 0 = .ok (.aload_n 0, 1) := by decide +kernel
theorem dX8_codeFrom_1 : decode cX8_codeFrom 1 = .ok (.getfield 18, 3) := by decide +kernel
theorem dX8_codeFrom_4 : decode cX8_codeFrom 4 = .ok (.iconst 2, 1) := by decide +kernel
theorem dX8_codeFrom_5 : decode cX8_codeFrom 5 = .ok (.iload_n 1, 1) := by decide +kernel
theorem dX8_codeFrom_6 : decode cX8_codeFrom 6 = .ok (.imul, 1) := by decide +kernel
theorem dX8_codeFrom_7 : decode cX8_codeFrom 7 = .ok (.iaload, 1) := by decide +kernel
theorem dX8_codeFrom_8 : decode cX8_codeFrom 8 = .ok (.ireturn, 1) := by decide +kernel
theorem dX8_codeBehind_0 : decode cX8_codeBehind 0 = .ok (.aload_n 0, 1) := by decide +kernel
theorem dX8_codeBehind_1 : decode cX8_codeBehind 1 = .ok (.getfield 18, 3) := by decide +kernel
theorem dX8_codeBehind_4 : decode cX8_codeBehind 4 = .ok (.iconst 2, 1) := by decide +kernel
theorem dX8_codeBehind_5 : decode cX8_codeBehind 5 = .ok (.iload_n 1, 1) := by decide +kernel
theorem dX8_codeBehind_6 : decode cX8_codeBehind 6 = .ok (.imul, 1) := by decide +kernel
theorem dX8_codeBehind_7 : decode cX8_codeBehind 7 = .ok (.iconst 1, 1) := by decide +kernel
theorem dX8_codeBehind_8 : decode cX8_codeBehind 8 = .ok (.iadd, 1) := by decide +kernel
theorem dX8_codeBehind_9 : decode cX8_codeBehind 9 = .ok (.iaload, 1) := by decide +kernel
theorem dX8_codeBehind_10 : decode cX8_codeBehind 10 = .ok (.ireturn, 1) := by decide +kernel
theorem dX9_init_0 : decode cX9_init 0 = .ok (.aload_n 0, 1) := by decide +kernel
theorem dX9_init_1 : decode cX9_init 1 = .ok (.invokespecial 3, 3) := by decide +kernel
theorem dX9_init_4 : decode cX9_init 4 = .ok (.aload_n 0, 1) := by decide +kernel
theorem dX9_init_5 : decode cX9_init 5 = .ok (.new 9, 3) := by decide +kernel
theorem dX9_init_8 : decode cX9_init 8 = .ok (.dup, 1) := by decide +kernel
theorem dX9_init_9 : decode cX9_init 9 = .ok (.invokespecial 11, 3) := by decide +kernel
theorem dX9_init_12 : decode cX9_init 12 = .ok (.putfield 12, 3) := by decide +kernel
theorem dX9_init_15 : decode cX9_init 15 = .ok (.aload_n 0, 1) := by decide +kernel
theorem dX9_init_16 : decode cX9_init 16 = .ok (.new 18, 3) := by decide +kernel
theorem dX9_init_19 : decode cX9_init 19 = .ok (.dup, 1) := by decide +kernel
theorem dX9_init_20 : decode cX9_init 20 = .ok (.invokespecial 20, 3) := by decide +kernel
theorem dX9_init_23 : decode cX9_init 23 = .ok (.putfield 21, 3) := by decide +kernel
theorem dX9_init_26 : decode cX9_init 26 = .ok (.return_, 1) := by decide +kernel
theorem dX9_movesSays_0 : decode cX9_movesSays 0 = .ok (.aload_n 0, 1) := by decide +kernel
theorem dX9_movesSays_1 : decode cX9_movesSays 1 = .ok (.getfield 12, 3) := by decide +kernel
theorem dX9_movesSays_4 : decode cX9_movesSays 4 = .ok (.invokevirtual 25, 3) := by decide +kernel
theorem dX9_movesSays_7 : decode cX9_movesSays 7 = .ok (.astore 4, 2) := by decide +kernel
theorem dX9_movesSays_9 : decode cX9_movesSays 9 = .ok (.aload 4, 2) := by decide +kernel
theorem dX9_movesSays_11 : decode cX9_movesSays 11 = .ok (.ifnull 12, 3) := by decide +kernel
theorem dX9_movesSays_14 : decode cX9_movesSays 14 = .ok (.aload 4, 2) := by decide +kernel
theorem dX9_movesSays_16 : decode cX9_movesSays 16 = .ok (.iconst 0, 1) := by decide +kernel
theorem dX9_movesSays_17 : decode cX9_movesSays 17 = .ok (.invokevirtual 29, 3) := by decide +kernel
theorem dX9_movesSays_20 : decode cX9_movesSays 20 = .ok (.ifCond .ne 5, 3) := by decide +kernel
theorem dX9_movesSays_23 : decode cX9_movesSays 23 = .ok (.iconst 1, 1) := by decide +kernel
theorem dX9_movesSays_24 : decode cX9_movesSays 24 = .ok (.ireturn, 1) := by decide +kernel
theorem dX9_movesSays_25 : decode cX9_movesSays 25 = .ok (.aload_n 0, 1) := by decide +kernel
theorem dX9_movesSays_26 : decode cX9_movesSays 26 = .ok (.iload_n 1, 1) := by decide +kernel
theorem dX9_movesSays_27 : decode cX9_movesSays 27 = .ok (.invokevirtual 35, 3) := by decide +kernel
theorem dX9_movesSays_30 : decode cX9_movesSays 30 = .ok (.aload_n 0, 1) := by decide +kernel
theorem dX9_movesSays_31 : decode cX9_movesSays 31 = .ok (.getfield 21, 3) := by decide +kernel
theorem dX9_movesSays_34 : decode cX9_movesSays 34 = .ok (.getfield 39, 3) := by decide +kernel
theorem dX9_movesSays_37 : decode cX9_movesSays 37 = .ok (.bipush 6, 2) := by decide +kernel
theorem dX9_movesSays_39 : decode cX9_movesSays 39 = .ok (.iload_n 2, 1) := by decide +kernel
theorem dX9_movesSays_40 : decode cX9_movesSays 40 = .ok (.iastore, 1) := by decide +kernel
theorem dX9_movesSays_41 : decode cX9_movesSays 41 = .ok (.aload_n 0, 1) := by decide +kernel
theorem dX9_movesSays_42 : decode cX9_movesSays 42 = .ok (.getfield 21, 3) := by decide +kernel
theorem dX9_movesSays_45 : decode cX9_movesSays 45 = .ok (.getfield 39, 3) := by decide +kernel
theorem dX9_movesSays_48 : decode cX9_movesSays 48 = .ok (.bipush 7, 2) := by decide +kernel
theorem dX9_movesSays_50 : decode cX9_movesSays 50 = .ok (.iload_n 3, 1) := by decide +kernel
theorem dX9_movesSays_51 : decode cX9_movesSays 51 = .ok (.iastore, 1) := by decide +kernel
theorem dX9_movesSays_52 : decode cX9_movesSays 52 = .ok (.aload_n 0, 1) := by decide +kernel
theorem dX9_movesSays_53 : decode cX9_movesSays 53 = .ok (.getfield 21, 3) := by decide +kernel
theorem dX9_movesSays_56 : decode cX9_movesSays 56 = .ok (.getfield 39, 3) := by decide +kernel
theorem dX9_movesSays_59 : decode cX9_movesSays 59 = .ok (.bipush 8, 2) := by decide +kernel
theorem dX9_movesSays_61 : decode cX9_movesSays 61 = .ok (.aload_n 0, 1) := by decide +kernel
theorem dX9_movesSays_62 : decode cX9_movesSays 62 = .ok (.getfield 12, 3) := by decide +kernel
theorem dX9_movesSays_65 : decode cX9_movesSays 65 = .ok (.getfield 43, 3) := by decide +kernel
theorem dX9_movesSays_68 : decode cX9_movesSays 68 = .ok (.iload_n 3, 1) := by decide +kernel
theorem dX9_movesSays_69 : decode cX9_movesSays 69 = .ok (.invokevirtual 47, 3) := by decide +kernel
theorem dX9_movesSays_72 : decode cX9_movesSays 72 = .ok (.iastore, 1) := by decide +kernel
theorem dX9_movesSays_73 : decode cX9_movesSays 73 = .ok (.aload_n 0, 1) := by decide +kernel
theorem dX9_movesSays_74 : decode cX9_movesSays 74 = .ok (.getfield 21, 3) := by decide +kernel
theorem dX9_movesSays_77 : decode cX9_movesSays 77 = .ok (.aload 4, 2) := by decide +kernel
theorem dX9_movesSays_79 : decode cX9_movesSays 79 = .ok (.iconst 0, 1) := by decide +kernel
theorem dX9_movesSays_80 : decode cX9_movesSays 80 = .ok (.invokevirtual 53, 3) := by decide +kernel
theorem dX9_movesSays_83 : decode cX9_movesSays 83 = .ok (.ireturn, 1) := by decide +kernel
theorem dX9_changesSays_0 : decode cX9_changesSays 0 = .ok (.aload_n 1, 1) := by decide +kernel
theorem dX9_changesSays_1 : decode cX9_changesSays 1 = .ok (.ifnull 11, 3) := by decide +kernel
theorem dX9_changesSays_4 : decode cX9_changesSays 4 = .ok (.aload_n 1, 1) := by decide +kernel
theorem dX9_changesSays_5 : decode cX9_changesSays 5 = .ok (.iconst 1, 1) := by decide +kernel
theorem dX9_changesSays_6 : decode cX9_changesSays 6 = .ok (.invokevirtual 29, 3) := by decide +kernel
theorem dX9_changesSays_9 : decode cX9_changesSays 9 = .ok (.ifCond .ne 5, 3) := by decide +kernel
theorem dX9_changesSays_12 : decode cX9_changesSays 12 = .ok (.iconst 1, 1) := by decide +kernel
theorem dX9_changesSays_13 : decode cX9_changesSays 13 = .ok (.ireturn, 1) := by decide +kernel
theorem dX9_changesSays_14 : decode cX9_changesSays 14 = .ok (.aload_n 0, 1) := by decide +kernel
theorem dX9_changesSays_15 : decode cX9_changesSays 15 = .ok (.iload_n 2, 1) := by decide +kernel
theorem dX9_changesSays_16 : decode cX9_changesSays 16 = .ok (.invokevirtual 35, 3) := by decide +kernel
theorem dX9_changesSays_19 : decode cX9_changesSays 19 = .ok (.aload_n 0, 1) := by decide +kernel
theorem dX9_changesSays_20 : decode cX9_changesSays 20 = .ok (.getfield 21, 3) := by decide +kernel
theorem dX9_changesSays_23 : decode cX9_changesSays 23 = .ok (.getfield 39, 3) := by decide +kernel
theorem dX9_changesSays_26 : decode cX9_changesSays 26 = .ok (.bipush 9, 2) := by decide +kernel
theorem dX9_changesSays_28 : decode cX9_changesSays 28 = .ok (.aload_n 0, 1) := by decide +kernel
theorem dX9_changesSays_29 : decode cX9_changesSays 29 = .ok (.getfield 12, 3) := by decide +kernel
theorem dX9_changesSays_32 : decode cX9_changesSays 32 = .ok (.getfield 43, 3) := by decide +kernel
theorem dX9_changesSays_35 : decode cX9_changesSays 35 = .ok (.iconst 0, 1) := by decide +kernel
theorem dX9_changesSays_36 : decode cX9_changesSays 36 = .ok (.invokevirtual 57, 3) := by decide +kernel
theorem dX9_changesSays_39 : decode cX9_changesSays 39 = .ok (.iastore, 1) := by decide +kernel
theorem dX9_changesSays_40 : decode cX9_changesSays 40 = .ok (.aload_n 0, 1) := by decide +kernel
theorem dX9_changesSays_41 : decode cX9_changesSays 41 = .ok (.getfield 21, 3) := by decide +kernel
theorem dX9_changesSays_44 : decode cX9_changesSays 44 = .ok (.getfield 39, 3) := by decide +kernel
theorem dX9_changesSays_47 : decode cX9_changesSays 47 = .ok (.bipush 10, 2) := by decide +kernel
theorem dX9_changesSays_49 : decode cX9_changesSays 49 = .ok (.aload_n 0, 1) := by decide +kernel
theorem dX9_changesSays_50 : decode cX9_changesSays 50 = .ok (.getfield 12, 3) := by decide +kernel
theorem dX9_changesSays_53 : decode cX9_changesSays 53 = .ok (.getfield 43, 3) := by decide +kernel
theorem dX9_changesSays_56 : decode cX9_changesSays 56 = .ok (.iconst 1, 1) := by decide +kernel
theorem dX9_changesSays_57 : decode cX9_changesSays 57 = .ok (.invokevirtual 57, 3) := by decide +kernel
theorem dX9_changesSays_60 : decode cX9_changesSays 60 = .ok (.iastore, 1) := by decide +kernel
theorem dX9_changesSays_61 : decode cX9_changesSays 61 = .ok (.aload_n 0, 1) := by decide +kernel
theorem dX9_changesSays_62 : decode cX9_changesSays 62 = .ok (.getfield 21, 3) := by decide +kernel
theorem dX9_changesSays_65 : decode cX9_changesSays 65 = .ok (.aload_n 1, 1) := by decide +kernel
theorem dX9_changesSays_66 : decode cX9_changesSays 66 = .ok (.iconst 1, 1) := by decide +kernel
theorem dX9_changesSays_67 : decode cX9_changesSays 67 = .ok (.invokevirtual 53, 3) := by decide +kernel
theorem dX9_changesSays_70 : decode cX9_changesSays 70 = .ok (.ireturn, 1) := by decide +kernel
theorem dX9_nameCar_0 : decode cX9_nameCar 0 = .ok (.aload_n 0, 1) := by decide +kernel
theorem dX9_nameCar_1 : decode cX9_nameCar 1 = .ok (.getfield 12, 3) := by decide +kernel
theorem dX9_nameCar_4 : decode cX9_nameCar 4 = .ok (.getfield 43, 3) := by decide +kernel
theorem dX9_nameCar_7 : decode cX9_nameCar 7 = .ok (.astore_n 2, 1) := by decide +kernel
theorem dX9_nameCar_8 : decode cX9_nameCar 8 = .ok (.aload_n 0, 1) := by decide +kernel
theorem dX9_nameCar_9 : decode cX9_nameCar 9 = .ok (.getfield 21, 3) := by decide +kernel
theorem dX9_nameCar_12 : decode cX9_nameCar 12 = .ok (.getfield 39, 3) := by decide +kernel
theorem dX9_nameCar_15 : decode cX9_nameCar 15 = .ok (.iconst 0, 1) := by decide +kernel
theorem dX9_nameCar_16 : decode cX9_nameCar 16 = .ok (.aload_n 2, 1) := by decide +kernel
theorem dX9_nameCar_17 : decode cX9_nameCar 17 = .ok (.invokevirtual 60, 3) := by decide +kernel
theorem dX9_nameCar_20 : decode cX9_nameCar 20 = .ok (.iastore, 1) := by decide +kernel
theorem dX9_nameCar_21 : decode cX9_nameCar 21 = .ok (.aload_n 0, 1) := by decide +kernel
theorem dX9_nameCar_22 : decode cX9_nameCar 22 = .ok (.getfield 21, 3) := by decide +kernel
theorem dX9_nameCar_25 : decode cX9_nameCar 25 = .ok (.getfield 39, 3) := by decide +kernel
theorem dX9_nameCar_28 : decode cX9_nameCar 28 = .ok (.iconst 1, 1) := by decide +kernel
theorem dX9_nameCar_29 : decode cX9_nameCar 29 = .ok (.iload_n 1, 1) := by decide +kernel
theorem dX9_nameCar_30 : decode cX9_nameCar 30 = .ok (.iastore, 1) := by decide +kernel
theorem dX9_nameCar_31 : decode cX9_nameCar 31 = .ok (.aload_n 0, 1) := by decide +kernel
theorem dX9_nameCar_32 : decode cX9_nameCar 32 = .ok (.getfield 21, 3) := by decide +kernel
theorem dX9_nameCar_35 : decode cX9_nameCar 35 = .ok (.getfield 39, 3) := by decide +kernel
theorem dX9_nameCar_38 : decode cX9_nameCar 38 = .ok (.iconst 2, 1) := by decide +kernel
theorem dX9_nameCar_39 : decode cX9_nameCar 39 = .ok (.aload_n 0, 1) := by decide +kernel
theorem dX9_nameCar_40 : decode cX9_nameCar 40 = .ok (.getfield 12, 3) := by decide +kernel
theorem dX9_nameCar_43 : decode cX9_nameCar 43 = .ok (.getfield 64, 3) := by decide +kernel
theorem dX9_nameCar_46 : decode cX9_nameCar 46 = .ok (.iload_n 1, 1) := by decide +kernel
theorem dX9_nameCar_47 : decode cX9_nameCar 47 = .ok (.iaload, 1) := by decide +kernel
theorem dX9_nameCar_48 : decode cX9_nameCar 48 = .ok (.iastore, 1) := by decide +kernel
theorem dX9_nameCar_49 : decode cX9_nameCar 49 = .ok (.aload_n 0, 1) := by decide +kernel
theorem dX9_nameCar_50 : decode cX9_nameCar 50 = .ok (.getfield 21, 3) := by decide +kernel
theorem dX9_nameCar_53 : decode cX9_nameCar 53 = .ok (.getfield 39, 3) := by decide +kernel
theorem dX9_nameCar_56 : decode cX9_nameCar 56 = .ok (.iconst 3, 1) := by decide +kernel
theorem dX9_nameCar_57 : decode cX9_nameCar 57 = .ok (.aload_n 0, 1) := by decide +kernel
theorem dX9_nameCar_58 : decode cX9_nameCar 58 = .ok (.getfield 12, 3) := by decide +kernel
theorem dX9_nameCar_61 : decode cX9_nameCar 61 = .ok (.getfield 67, 3) := by decide +kernel
theorem dX9_nameCar_64 : decode cX9_nameCar 64 = .ok (.iload_n 1, 1) := by decide +kernel
theorem dX9_nameCar_65 : decode cX9_nameCar 65 = .ok (.iaload, 1) := by decide +kernel
theorem dX9_nameCar_66 : decode cX9_nameCar 66 = .ok (.iastore, 1) := by decide +kernel
theorem dX9_nameCar_67 : decode cX9_nameCar 67 = .ok (.aload_n 0, 1) := by decide +kernel
theorem dX9_nameCar_68 : decode cX9_nameCar 68 = .ok (.getfield 21, 3) := by decide +kernel
theorem dX9_nameCar_71 : decode cX9_nameCar 71 = .ok (.getfield 39, 3) := by decide +kernel
theorem dX9_nameCar_74 : decode cX9_nameCar 74 = .ok (.iconst 4, 1) := by decide +kernel
theorem dX9_nameCar_75 : decode cX9_nameCar 75 = .ok (.aload_n 2, 1) := by decide +kernel
theorem dX9_nameCar_76 : decode cX9_nameCar 76 = .ok (.iload_n 1, 1) := by decide +kernel
theorem dX9_nameCar_77 : decode cX9_nameCar 77 = .ok (.invokevirtual 70, 3) := by decide +kernel
theorem dX9_nameCar_80 : decode cX9_nameCar 80 = .ok (.ifCond .eq 7, 3) := by decide +kernel
theorem dX9_nameCar_83 : decode cX9_nameCar 83 = .ok (.iconst 1, 1) := by decide +kernel
theorem dX9_nameCar_84 : decode cX9_nameCar 84 = .ok (.goto 4, 3) := by decide +kernel
theorem dX9_nameCar_87 : decode cX9_nameCar 87 = .ok (.iconst 0, 1) := by decide +kernel
theorem dX9_nameCar_88 : decode cX9_nameCar 88 = .ok (.iastore, 1) := by decide +kernel
theorem dX9_nameCar_89 : decode cX9_nameCar 89 = .ok (.aload_n 0, 1) := by decide +kernel
theorem dX9_nameCar_90 : decode cX9_nameCar 90 = .ok (.getfield 21, 3) := by decide +kernel
theorem dX9_nameCar_93 : decode cX9_nameCar 93 = .ok (.getfield 39, 3) := by decide +kernel
theorem dX9_nameCar_96 : decode cX9_nameCar 96 = .ok (.iconst 5, 1) := by decide +kernel
theorem dX9_nameCar_97 : decode cX9_nameCar 97 = .ok (.aload_n 2, 1) := by decide +kernel
theorem dX9_nameCar_98 : decode cX9_nameCar 98 = .ok (.iload_n 1, 1) := by decide +kernel
theorem dX9_nameCar_99 : decode cX9_nameCar 99 = .ok (.invokevirtual 73, 3) := by decide +kernel
theorem dX9_nameCar_102 : decode cX9_nameCar 102 = .ok (.iastore, 1) := by decide +kernel
theorem dX9_nameCar_103 : decode cX9_nameCar 103 = .ok (.iconst 0, 1) := by decide +kernel
theorem dX9_nameCar_104 : decode cX9_nameCar 104 = .ok (.istore_n 3, 1) := by decide +kernel
theorem dX9_nameCar_105 : decode cX9_nameCar 105 = .ok (.iload_n 3, 1) := by decide +kernel
theorem dX9_nameCar_106 : decode cX9_nameCar 106 = .ok (.iconst 3, 1) := by decide +kernel
theorem dX9_nameCar_107 : decode cX9_nameCar 107 = .ok (.if_icmp .ge 29, 3) := by decide +kernel
theorem dX9_nameCar_110 : decode cX9_nameCar 110 = .ok (.aload_n 0, 1) := by decide +kernel
theorem dX9_nameCar_111 : decode cX9_nameCar 111 = .ok (.getfield 21, 3) := by decide +kernel
theorem dX9_nameCar_114 : decode cX9_nameCar 114 = .ok (.getfield 39, 3) := by decide +kernel
theorem dX9_nameCar_117 : decode cX9_nameCar 117 = .ok (.bipush 11, 2) := by decide +kernel
theorem dX9_nameCar_119 : decode cX9_nameCar 119 = .ok (.iload_n 3, 1) := by decide +kernel
theorem dX9_nameCar_120 : decode cX9_nameCar 120 = .ok (.iadd, 1) := by decide +kernel
theorem dX9_nameCar_121 : decode cX9_nameCar 121 = .ok (.aload_n 0, 1) := by decide +kernel
theorem dX9_nameCar_122 : decode cX9_nameCar 122 = .ok (.getfield 12, 3) := by decide +kernel
theorem dX9_nameCar_125 : decode cX9_nameCar 125 = .ok (.iload_n 3, 1) := by decide +kernel
theorem dX9_nameCar_126 : decode cX9_nameCar 126 = .ok (.invokevirtual 76, 3) := by decide +kernel
theorem dX9_nameCar_129 : decode cX9_nameCar 129 = .ok (.iastore, 1) := by decide +kernel
theorem dX9_nameCar_130 : decode cX9_nameCar 130 = .ok (.iinc 3 1, 3) := by decide +kernel
theorem dX9_nameCar_133 : decode cX9_nameCar 133 = .ok (.goto (-28), 3) := by decide +kernel
theorem dX9_nameCar_136 : decode cX9_nameCar 136 = .ok (.return_, 1) := by decide +kernel
theorem dX9_shift_0 : decode cX9_shift 0 = .ok (.aload_n 0, 1) := by decide +kernel
theorem dX9_shift_1 : decode cX9_shift 1 = .ok (.getfield 12, 3) := by decide +kernel
theorem dX9_shift_4 : decode cX9_shift 4 = .ok (.getfield 43, 3) := by decide +kernel
theorem dX9_shift_7 : decode cX9_shift 7 = .ok (.astore 4, 2) := by decide +kernel
theorem dX9_shift_9 : decode cX9_shift 9 = .ok (.aload 4, 2) := by decide +kernel
theorem dX9_shift_11 : decode cX9_shift 11 = .ok (.iload_n 1, 1) := by decide +kernel
theorem dX9_shift_12 : decode cX9_shift 12 = .ok (.invokevirtual 79, 3) := by decide +kernel
theorem dX9_shift_15 : decode cX9_shift 15 = .ok (.istore 5, 2) := by decide +kernel
theorem dX9_shift_17 : decode cX9_shift 17 = .ok (.iload_n 1, 1) := by decide +kernel
theorem dX9_shift_18 : decode cX9_shift 18 = .ok (.iload_n 2, 1) := by decide +kernel
theorem dX9_shift_19 : decode cX9_shift 19 = .ok (.if_icmp .eq 19, 3) := by decide +kernel
theorem dX9_shift_22 : decode cX9_shift 22 = .ok (.iload 5, 2) := by decide +kernel
theorem dX9_shift_24 : decode cX9_shift 24 = .ok (.iconst (-1), 1) := by decide +kernel
theorem dX9_shift_25 : decode cX9_shift 25 = .ok (.if_icmp .eq 13, 3) := by decide +kernel
theorem dX9_shift_28 : decode cX9_shift 28 = .ok (.aload_n 0, 1) := by decide +kernel
theorem dX9_shift_29 : decode cX9_shift 29 = .ok (.iload 5, 2) := by decide +kernel
theorem dX9_shift_31 : decode cX9_shift 31 = .ok (.iload_n 2, 1) := by decide +kernel
theorem dX9_shift_32 : decode cX9_shift 32 = .ok (.invokevirtual 82, 3) := by decide +kernel
theorem dX9_shift_35 : decode cX9_shift 35 = .ok (.ifCond .ne 5, 3) := by decide +kernel
theorem dX9_shift_38 : decode cX9_shift 38 = .ok (.iconst (-1), 1) := by decide +kernel
theorem dX9_shift_39 : decode cX9_shift 39 = .ok (.ireturn, 1) := by decide +kernel
theorem dX9_shift_40 : decode cX9_shift 40 = .ok (.aload 4, 2) := by decide +kernel
theorem dX9_shift_42 : decode cX9_shift 42 = .ok (.iload_n 2, 1) := by decide +kernel
theorem dX9_shift_43 : decode cX9_shift 43 = .ok (.invokevirtual 79, 3) := by decide +kernel
theorem dX9_shift_46 : decode cX9_shift 46 = .ok (.istore 6, 2) := by decide +kernel
theorem dX9_shift_48 : decode cX9_shift 48 = .ok (.iload 6, 2) := by decide +kernel
theorem dX9_shift_50 : decode cX9_shift 50 = .ok (.iconst (-1), 1) := by decide +kernel
theorem dX9_shift_51 : decode cX9_shift 51 = .ok (.if_icmp .eq 19, 3) := by decide +kernel
theorem dX9_shift_54 : decode cX9_shift 54 = .ok (.aload_n 0, 1) := by decide +kernel
theorem dX9_shift_55 : decode cX9_shift 55 = .ok (.getfield 12, 3) := by decide +kernel
theorem dX9_shift_58 : decode cX9_shift 58 = .ok (.iload 5, 2) := by decide +kernel
theorem dX9_shift_60 : decode cX9_shift 60 = .ok (.iload 6, 2) := by decide +kernel
theorem dX9_shift_62 : decode cX9_shift 62 = .ok (.invokevirtual 86, 3) := by decide +kernel
theorem dX9_shift_65 : decode cX9_shift 65 = .ok (.ifCond .ne 5, 3) := by decide +kernel
theorem dX9_shift_68 : decode cX9_shift 68 = .ok (.iconst (-1), 1) := by decide +kernel
theorem dX9_shift_69 : decode cX9_shift 69 = .ok (.ireturn, 1) := by decide +kernel
theorem dX9_shift_70 : decode cX9_shift 70 = .ok (.aload_n 0, 1) := by decide +kernel
theorem dX9_shift_71 : decode cX9_shift 71 = .ok (.iload 5, 2) := by decide +kernel
theorem dX9_shift_73 : decode cX9_shift 73 = .ok (.iload_n 1, 1) := by decide +kernel
theorem dX9_shift_74 : decode cX9_shift 74 = .ok (.iload_n 2, 1) := by decide +kernel
theorem dX9_shift_75 : decode cX9_shift 75 = .ok (.invokevirtual 89, 3) := by decide +kernel
theorem dX9_shift_78 : decode cX9_shift 78 = .ok (.ifCond .gt 5, 3) := by decide +kernel
theorem dX9_shift_81 : decode cX9_shift 81 = .ok (.iconst (-1), 1) := by decide +kernel
theorem dX9_shift_82 : decode cX9_shift 82 = .ok (.ireturn, 1) := by decide +kernel
theorem dX9_shift_83 : decode cX9_shift 83 = .ok (.iload_n 3, 1) := by decide +kernel
theorem dX9_shift_84 : decode cX9_shift 84 = .ok (.ifCond .eq 15, 3) := by decide +kernel
theorem dX9_shift_87 : decode cX9_shift 87 = .ok (.aload_n 0, 1) := by decide +kernel
theorem dX9_shift_88 : decode cX9_shift 88 = .ok (.getfield 12, 3) := by decide +kernel
theorem dX9_shift_91 : decode cX9_shift 91 = .ok (.getfield 93, 3) := by decide +kernel
theorem dX9_shift_94 : decode cX9_shift 94 = .ok (.aload 4, 2) := by decide +kernel
theorem dX9_shift_96 : decode cX9_shift 96 = .ok (.invokevirtual 97, 3) := by decide +kernel
theorem dX9_shift_99 : decode cX9_shift 99 = .ok (.aload 4, 2) := by decide +kernel
theorem dX9_shift_101 : decode cX9_shift 101 = .ok (.iload_n 1, 1) := by decide +kernel
theorem dX9_shift_102 : decode cX9_shift 102 = .ok (.iload_n 2, 1) := by decide +kernel
theorem dX9_shift_103 : decode cX9_shift 103 = .ok (.invokevirtual 103, 3) := by decide +kernel
theorem dX9_shift_106 : decode cX9_shift 106 = .ok (.iload 5, 2) := by decide +kernel
theorem dX9_shift_108 : decode cX9_shift 108 = .ok (.ireturn, 1) := by decide +kernel
theorem dX9_feetFit_0 : decode cX9_feetFit 0 = .ok (.iload_n 2, 1) := by decide +kernel
theorem dX9_feetFit_1 : decode cX9_feetFit 1 = .ok (.iconst 1, 1) := by decide +kernel
theorem dX9_feetFit_2 : decode cX9_feetFit 2 = .ok (.if_icmp .eq 27, 3) := by decide +kernel
theorem dX9_feetFit_5 : decode cX9_feetFit 5 = .ok (.aload_n 0, 1) := by decide +kernel
theorem dX9_feetFit_6 : decode cX9_feetFit 6 = .ok (.getfield 12, 3) := by decide +kernel
theorem dX9_feetFit_9 : decode cX9_feetFit 9 = .ok (.getfield 43, 3) := by decide +kernel
theorem dX9_feetFit_12 : decode cX9_feetFit 12 = .ok (.iload_n 1, 1) := by decide +kernel
theorem dX9_feetFit_13 : decode cX9_feetFit 13 = .ok (.invokevirtual 70, 3) := by decide +kernel
theorem dX9_feetFit_16 : decode cX9_feetFit 16 = .ok (.iload_n 2, 1) := by decide +kernel
theorem dX9_feetFit_17 : decode cX9_feetFit 17 = .ok (.iconst 2, 1) := by decide +kernel
theorem dX9_feetFit_18 : decode cX9_feetFit 18 = .ok (.if_icmp .ne 7, 3) := by decide +kernel
theorem dX9_feetFit_21 : decode cX9_feetFit 21 = .ok (.iconst 1, 1) := by decide +kernel
theorem dX9_feetFit_22 : decode cX9_feetFit 22 = .ok (.goto 4, 3) := by decide +kernel
theorem dX9_feetFit_25 : decode cX9_feetFit 25 = .ok (.iconst 0, 1) := by decide +kernel
theorem dX9_feetFit_26 : decode cX9_feetFit 26 = .ok (.if_icmp .ne 7, 3) := by decide +kernel
theorem dX9_feetFit_29 : decode cX9_feetFit 29 = .ok (.iconst 1, 1) := by decide +kernel
theorem dX9_feetFit_30 : decode cX9_feetFit 30 = .ok (.goto 4, 3) := by decide +kernel
theorem dX9_feetFit_33 : decode cX9_feetFit 33 = .ok (.iconst 0, 1) := by decide +kernel
theorem dX9_feetFit_34 : decode cX9_feetFit 34 = .ok (.ireturn, 1) := by decide +kernel
theorem dX9_swapFeet_0 : decode cX9_swapFeet 0 = .ok (.aload_n 0, 1) := by decide +kernel
theorem dX9_swapFeet_1 : decode cX9_swapFeet 1 = .ok (.getfield 12, 3) := by decide +kernel
theorem dX9_swapFeet_4 : decode cX9_swapFeet 4 = .ok (.getfield 43, 3) := by decide +kernel
theorem dX9_swapFeet_7 : decode cX9_swapFeet 7 = .ok (.astore_n 2, 1) := by decide +kernel
theorem dX9_swapFeet_8 : decode cX9_swapFeet 8 = .ok (.aload_n 2, 1) := by decide +kernel
theorem dX9_swapFeet_9 : decode cX9_swapFeet 9 = .ok (.iconst 1, 1) := by decide +kernel
theorem dX9_swapFeet_10 : decode cX9_swapFeet 10 = .ok (.invokevirtual 79, 3) := by decide +kernel
theorem dX9_swapFeet_13 : decode cX9_swapFeet 13 = .ok (.istore_n 3, 1) := by decide +kernel
theorem dX9_swapFeet_14 : decode cX9_swapFeet 14 = .ok (.iload_n 3, 1) := by decide +kernel
theorem dX9_swapFeet_15 : decode cX9_swapFeet 15 = .ok (.iconst (-1), 1) := by decide +kernel
theorem dX9_swapFeet_16 : decode cX9_swapFeet 16 = .ok (.if_icmp .eq 23, 3) := by decide +kernel
theorem dX9_swapFeet_19 : decode cX9_swapFeet 19 = .ok (.aload_n 2, 1) := by decide +kernel
theorem dX9_swapFeet_20 : decode cX9_swapFeet 20 = .ok (.aload_n 2, 1) := by decide +kernel
theorem dX9_swapFeet_21 : decode cX9_swapFeet 21 = .ok (.iload_n 3, 1) := by decide +kernel
theorem dX9_swapFeet_22 : decode cX9_swapFeet 22 = .ok (.invokevirtual 70, 3) := by decide +kernel
theorem dX9_swapFeet_25 : decode cX9_swapFeet 25 = .ok (.ifCond .eq 7, 3) := by decide +kernel
theorem dX9_swapFeet_28 : decode cX9_swapFeet 28 = .ok (.iconst 0, 1) := by decide +kernel
theorem dX9_swapFeet_29 : decode cX9_swapFeet 29 = .ok (.goto 4, 3) := by decide +kernel
theorem dX9_swapFeet_32 : decode cX9_swapFeet 32 = .ok (.iconst 1, 1) := by decide +kernel
theorem dX9_swapFeet_33 : decode cX9_swapFeet 33 = .ok (.invokevirtual 57, 3) := by decide +kernel
theorem dX9_swapFeet_36 : decode cX9_swapFeet 36 = .ok (.ifCond .ne 5, 3) := by decide +kernel
theorem dX9_swapFeet_39 : decode cX9_swapFeet 39 = .ok (.iconst (-1), 1) := by decide +kernel
theorem dX9_swapFeet_40 : decode cX9_swapFeet 40 = .ok (.ireturn, 1) := by decide +kernel
theorem dX9_swapFeet_41 : decode cX9_swapFeet 41 = .ok (.aload_n 0, 1) := by decide +kernel
theorem dX9_swapFeet_42 : decode cX9_swapFeet 42 = .ok (.aload_n 0, 1) := by decide +kernel
theorem dX9_swapFeet_43 : decode cX9_swapFeet 43 = .ok (.getfield 12, 3) := by decide +kernel
theorem dX9_swapFeet_46 : decode cX9_swapFeet 46 = .ok (.invokevirtual 25, 3) := by decide +kernel
theorem dX9_swapFeet_49 : decode cX9_swapFeet 49 = .ok (.iload_n 3, 1) := by decide +kernel
theorem dX9_swapFeet_50 : decode cX9_swapFeet 50 = .ok (.invokevirtual 107, 3) := by decide +kernel
theorem dX9_swapFeet_53 : decode cX9_swapFeet 53 = .ok (.ifCond .gt 5, 3) := by decide +kernel
theorem dX9_swapFeet_56 : decode cX9_swapFeet 56 = .ok (.iconst (-1), 1) := by decide +kernel
theorem dX9_swapFeet_57 : decode cX9_swapFeet 57 = .ok (.ireturn, 1) := by decide +kernel
theorem dX9_swapFeet_58 : decode cX9_swapFeet 58 = .ok (.iload_n 1, 1) := by decide +kernel
theorem dX9_swapFeet_59 : decode cX9_swapFeet 59 = .ok (.ifCond .eq 14, 3) := by decide +kernel
theorem dX9_swapFeet_62 : decode cX9_swapFeet 62 = .ok (.aload_n 0, 1) := by decide +kernel
theorem dX9_swapFeet_63 : decode cX9_swapFeet 63 = .ok (.getfield 12, 3) := by decide +kernel
theorem dX9_swapFeet_66 : decode cX9_swapFeet 66 = .ok (.getfield 93, 3) := by decide +kernel
theorem dX9_swapFeet_69 : decode cX9_swapFeet 69 = .ok (.aload_n 2, 1) := by decide +kernel
theorem dX9_swapFeet_70 : decode cX9_swapFeet 70 = .ok (.invokevirtual 97, 3) := by decide +kernel
theorem dX9_swapFeet_73 : decode cX9_swapFeet 73 = .ok (.aload_n 2, 1) := by decide +kernel
theorem dX9_swapFeet_74 : decode cX9_swapFeet 74 = .ok (.iload_n 3, 1) := by decide +kernel
theorem dX9_swapFeet_75 : decode cX9_swapFeet 75 = .ok (.invokevirtual 110, 3) := by decide +kernel
theorem dX9_swapFeet_78 : decode cX9_swapFeet 78 = .ok (.iload_n 3, 1) := by decide +kernel
theorem dX9_swapFeet_79 : decode cX9_swapFeet 79 = .ok (.ireturn, 1) := by decide +kernel
theorem dX9_lendWheels_0 : decode cX9_lendWheels 0 = .ok (.aload_n 0, 1) := by decide +kernel
theorem dX9_lendWheels_1 : decode cX9_lendWheels 1 = .ok (.getfield 12, 3) := by decide +kernel
theorem dX9_lendWheels_4 : decode cX9_lendWheels 4 = .ok (.getfield 43, 3) := by decide +kernel
theorem dX9_lendWheels_7 : decode cX9_lendWheels 7 = .ok (.iload_n 1, 1) := by decide +kernel
theorem dX9_lendWheels_8 : decode cX9_lendWheels 8 = .ok (.invokevirtual 57, 3) := by decide +kernel
theorem dX9_lendWheels_11 : decode cX9_lendWheels 11 = .ok (.iload_n 2, 1) := by decide +kernel
theorem dX9_lendWheels_12 : decode cX9_lendWheels 12 = .ok (.iadd, 1) := by decide +kernel
theorem dX9_lendWheels_13 : decode cX9_lendWheels 13 = .ok (.istore_n 3, 1) := by decide +kernel
theorem dX9_lendWheels_14 : decode cX9_lendWheels 14 = .ok (.iload_n 3, 1) := by decide +kernel
theorem dX9_lendWheels_15 : decode cX9_lendWheels 15 = .ok (.ifCond .lt 9, 3) := by decide +kernel
theorem dX9_lendWheels_18 : decode cX9_lendWheels 18 = .ok (.iload_n 3, 1) := by decide +kernel
theorem dX9_lendWheels_19 : decode cX9_lendWheels 19 = .ok (.bipush 9, 2) := by decide +kernel
theorem dX9_lendWheels_21 : decode cX9_lendWheels 21 = .ok (.if_icmp .le 5, 3) := by decide +kernel
theorem dX9_lendWheels_24 : decode cX9_lendWheels 24 = .ok (.iconst 0, 1) := by decide +kernel
theorem dX9_lendWheels_25 : decode cX9_lendWheels 25 = .ok (.ireturn, 1) := by decide +kernel
theorem dX9_lendWheels_26 : decode cX9_lendWheels 26 = .ok (.aload_n 0, 1) := by decide +kernel
theorem dX9_lendWheels_27 : decode cX9_lendWheels 27 = .ok (.getfield 12, 3) := by decide +kernel
theorem dX9_lendWheels_30 : decode cX9_lendWheels 30 = .ok (.getfield 93, 3) := by decide +kernel
theorem dX9_lendWheels_33 : decode cX9_lendWheels 33 = .ok (.aload_n 0, 1) := by decide +kernel
theorem dX9_lendWheels_34 : decode cX9_lendWheels 34 = .ok (.getfield 12, 3) := by decide +kernel
theorem dX9_lendWheels_37 : decode cX9_lendWheels 37 = .ok (.getfield 43, 3) := by decide +kernel
theorem dX9_lendWheels_40 : decode cX9_lendWheels 40 = .ok (.invokevirtual 97, 3) := by decide +kernel
theorem dX9_lendWheels_43 : decode cX9_lendWheels 43 = .ok (.aload_n 0, 1) := by decide +kernel
theorem dX9_lendWheels_44 : decode cX9_lendWheels 44 = .ok (.getfield 12, 3) := by decide +kernel
theorem dX9_lendWheels_47 : decode cX9_lendWheels 47 = .ok (.getfield 43, 3) := by decide +kernel
theorem dX9_lendWheels_50 : decode cX9_lendWheels 50 = .ok (.getfield 113, 3) := by decide +kernel
theorem dX9_lendWheels_53 : decode cX9_lendWheels 53 = .ok (.iconst 2, 1) := by decide +kernel
theorem dX9_lendWheels_54 : decode cX9_lendWheels 54 = .ok (.iload_n 1, 1) := by decide +kernel
theorem dX9_lendWheels_55 : decode cX9_lendWheels 55 = .ok (.iadd, 1) := by decide +kernel
theorem dX9_lendWheels_56 : decode cX9_lendWheels 56 = .ok (.iload_n 3, 1) := by decide +kernel
theorem dX9_lendWheels_57 : decode cX9_lendWheels 57 = .ok (.iastore, 1) := by decide +kernel
theorem dX9_lendWheels_58 : decode cX9_lendWheels 58 = .ok (.iconst 1, 1) := by decide +kernel
theorem dX9_lendWheels_59 : decode cX9_lendWheels 59 = .ok (.ireturn, 1) := by decide +kernel
theorem dX9_passHours_0 : decode cX9_passHours 0 = .ok (.iconst 0, 1) := by decide +kernel
theorem dX9_passHours_1 : decode cX9_passHours 1 = .ok (.istore_n 2, 1) := by decide +kernel
theorem dX9_passHours_2 : decode cX9_passHours 2 = .ok (.iconst 0, 1) := by decide +kernel
theorem dX9_passHours_3 : decode cX9_passHours 3 = .ok (.istore_n 3, 1) := by decide +kernel
theorem dX9_passHours_4 : decode cX9_passHours 4 = .ok (.iload_n 3, 1) := by decide +kernel
theorem dX9_passHours_5 : decode cX9_passHours 5 = .ok (.iload_n 1, 1) := by decide +kernel
theorem dX9_passHours_6 : decode cX9_passHours 6 = .ok (.if_icmp .ge 52, 3) := by decide +kernel
theorem dX9_passHours_9 : decode cX9_passHours 9 = .ok (.aload_n 0, 1) := by decide +kernel
theorem dX9_passHours_10 : decode cX9_passHours 10 = .ok (.getfield 12, 3) := by decide +kernel
theorem dX9_passHours_13 : decode cX9_passHours 13 = .ok (.getfield 43, 3) := by decide +kernel
theorem dX9_passHours_16 : decode cX9_passHours 16 = .ok (.invokevirtual 116, 3) := by decide +kernel
theorem dX9_passHours_19 : decode cX9_passHours 19 = .ok (.ifCond .eq 39, 3) := by decide +kernel
theorem dX9_passHours_22 : decode cX9_passHours 22 = .ok (.aload_n 0, 1) := by decide +kernel
theorem dX9_passHours_23 : decode cX9_passHours 23 = .ok (.getfield 12, 3) := by decide +kernel
theorem dX9_passHours_26 : decode cX9_passHours 26 = .ok (.getfield 93, 3) := by decide +kernel
theorem dX9_passHours_29 : decode cX9_passHours 29 = .ok (.aload_n 0, 1) := by decide +kernel
theorem dX9_passHours_30 : decode cX9_passHours 30 = .ok (.getfield 12, 3) := by decide +kernel
theorem dX9_passHours_33 : decode cX9_passHours 33 = .ok (.getfield 43, 3) := by decide +kernel
theorem dX9_passHours_36 : decode cX9_passHours 36 = .ok (.invokevirtual 97, 3) := by decide +kernel
theorem dX9_passHours_39 : decode cX9_passHours 39 = .ok (.iload_n 2, 1) := by decide +kernel
theorem dX9_passHours_40 : decode cX9_passHours 40 = .ok (.aload_n 0, 1) := by decide +kernel
theorem dX9_passHours_41 : decode cX9_passHours 41 = .ok (.getfield 12, 3) := by decide +kernel
theorem dX9_passHours_44 : decode cX9_passHours 44 = .ok (.getfield 43, 3) := by decide +kernel
theorem dX9_passHours_47 : decode cX9_passHours 47 = .ok (.invokevirtual 120, 3) := by decide +kernel
theorem dX9_passHours_50 : decode cX9_passHours 50 = .ok (.iadd, 1) := by decide +kernel
theorem dX9_passHours_51 : decode cX9_passHours 51 = .ok (.istore_n 2, 1) := by decide +kernel
theorem dX9_passHours_52 : decode cX9_passHours 52 = .ok (.iinc 3 1, 3) := by decide +kernel
theorem dX9_passHours_55 : decode cX9_passHours 55 = .ok (.goto (-51), 3) := by decide +kernel
theorem dX9_passHours_58 : decode cX9_passHours 58 = .ok (.iload_n 2, 1) := by decide +kernel
theorem dX9_passHours_59 : decode cX9_passHours 59 = .ok (.ireturn, 1) := by decide +kernel
theorem dX9_playClause_0 : decode cX9_playClause 0 = .ok (.aload_n 1, 1) := by decide +kernel
theorem dX9_playClause_1 : decode cX9_playClause 1 = .ok (.iload_n 2, 1) := by decide +kernel
theorem dX9_playClause_2 : decode cX9_playClause 2 = .ok (.iconst 1, 1) := by decide +kernel
theorem dX9_playClause_3 : decode cX9_playClause 3 = .ok (.invokevirtual 123, 3) := by decide +kernel
theorem dX9_playClause_6 : decode cX9_playClause 6 = .ok (.istore_n 3, 1) := by decide +kernel
theorem dX9_playClause_7 : decode cX9_playClause 7 = .ok (.aload_n 1, 1) := by decide +kernel
theorem dX9_playClause_8 : decode cX9_playClause 8 = .ok (.iload_n 2, 1) := by decide +kernel
theorem dX9_playClause_9 : decode cX9_playClause 9 = .ok (.iconst 2, 1) := by decide +kernel
theorem dX9_playClause_10 : decode cX9_playClause 10 = .ok (.invokevirtual 123, 3) := by decide +kernel
theorem dX9_playClause_13 : decode cX9_playClause 13 = .ok (.istore 4, 2) := by decide +kernel
theorem dX9_playClause_15 : decode cX9_playClause 15 = .ok (.aload_n 1, 1) := by decide +kernel
theorem dX9_playClause_16 : decode cX9_playClause 16 = .ok (.iload_n 2, 1) := by decide +kernel
theorem dX9_playClause_17 : decode cX9_playClause 17 = .ok (.iconst 0, 1) := by decide +kernel
theorem dX9_playClause_18 : decode cX9_playClause 18 = .ok (.invokevirtual 123, 3) := by decide +kernel
theorem dX9_playClause_21 : decode cX9_playClause 21 = .ok (.tableswitch 166 0 17 #[160, 166, 166, 166, 166, 166, 166, 166, 166, 166, 166, 166, 166, 87, 107, 119, 137, 152], 87) := by decide +kernel
theorem dX9_playClause_108 : decode cX9_playClause 108 = .ok (.aload_n 0, 1) := by decide +kernel
theorem dX9_playClause_109 : decode cX9_playClause 109 = .ok (.getfield 12, 3) := by decide +kernel
theorem dX9_playClause_112 : decode cX9_playClause 112 = .ok (.iload_n 3, 1) := by decide +kernel
theorem dX9_playClause_113 : decode cX9_playClause 113 = .ok (.iload 4, 2) := by decide +kernel
theorem dX9_playClause_115 : decode cX9_playClause 115 = .ok (.invokevirtual 127, 3) := by decide +kernel
theorem dX9_playClause_118 : decode cX9_playClause 118 = .ok (.iconst (-1), 1) := by decide +kernel
theorem dX9_playClause_119 : decode cX9_playClause 119 = .ok (.if_icmp .eq 7, 3) := by decide +kernel
theorem dX9_playClause_122 : decode cX9_playClause 122 = .ok (.iconst 1, 1) := by decide +kernel
theorem dX9_playClause_123 : decode cX9_playClause 123 = .ok (.goto 4, 3) := by decide +kernel
theorem dX9_playClause_126 : decode cX9_playClause 126 = .ok (.iconst 0, 1) := by decide +kernel
theorem dX9_playClause_127 : decode cX9_playClause 127 = .ok (.ireturn, 1) := by decide +kernel
theorem dX9_playClause_128 : decode cX9_playClause 128 = .ok (.aload_n 0, 1) := by decide +kernel
theorem dX9_playClause_129 : decode cX9_playClause 129 = .ok (.getfield 12, 3) := by decide +kernel
theorem dX9_playClause_132 : decode cX9_playClause 132 = .ok (.iload_n 3, 1) := by decide +kernel
theorem dX9_playClause_133 : decode cX9_playClause 133 = .ok (.iload 4, 2) := by decide +kernel
theorem dX9_playClause_135 : decode cX9_playClause 135 = .ok (.iconst 1, 1) := by decide +kernel
theorem dX9_playClause_136 : decode cX9_playClause 136 = .ok (.invokevirtual 130, 3) := by decide +kernel
theorem dX9_playClause_139 : decode cX9_playClause 139 = .ok (.ireturn, 1) := by decide +kernel
theorem dX9_playClause_140 : decode cX9_playClause 140 = .ok (.aload_n 0, 1) := by decide +kernel
theorem dX9_playClause_141 : decode cX9_playClause 141 = .ok (.iload_n 3, 1) := by decide +kernel
theorem dX9_playClause_142 : decode cX9_playClause 142 = .ok (.iload 4, 2) := by decide +kernel
theorem dX9_playClause_144 : decode cX9_playClause 144 = .ok (.iconst 1, 1) := by decide +kernel
theorem dX9_playClause_145 : decode cX9_playClause 145 = .ok (.invokevirtual 134, 3) := by decide +kernel
theorem dX9_playClause_148 : decode cX9_playClause 148 = .ok (.iconst (-1), 1) := by decide +kernel
theorem dX9_playClause_149 : decode cX9_playClause 149 = .ok (.if_icmp .eq 7, 3) := by decide +kernel
theorem dX9_playClause_152 : decode cX9_playClause 152 = .ok (.iconst 1, 1) := by decide +kernel
theorem dX9_playClause_153 : decode cX9_playClause 153 = .ok (.goto 4, 3) := by decide +kernel
theorem dX9_playClause_156 : decode cX9_playClause 156 = .ok (.iconst 0, 1) := by decide +kernel
theorem dX9_playClause_157 : decode cX9_playClause 157 = .ok (.ireturn, 1) := by decide +kernel
theorem dX9_playClause_158 : decode cX9_playClause 158 = .ok (.aload_n 0, 1) := by decide +kernel
theorem dX9_playClause_159 : decode cX9_playClause 159 = .ok (.iconst 1, 1) := by decide +kernel
theorem dX9_playClause_160 : decode cX9_playClause 160 = .ok (.invokevirtual 138, 3) := by decide +kernel
theorem dX9_playClause_163 : decode cX9_playClause 163 = .ok (.iconst (-1), 1) := by decide +kernel
theorem dX9_playClause_164 : decode cX9_playClause 164 = .ok (.if_icmp .eq 7, 3) := by decide +kernel
theorem dX9_playClause_167 : decode cX9_playClause 167 = .ok (.iconst 1, 1) := by decide +kernel
theorem dX9_playClause_168 : decode cX9_playClause 168 = .ok (.goto 4, 3) := by decide +kernel
theorem dX9_playClause_171 : decode cX9_playClause 171 = .ok (.iconst 0, 1) := by decide +kernel
theorem dX9_playClause_172 : decode cX9_playClause 172 = .ok (.ireturn, 1) := by decide +kernel
theorem dX9_playClause_173 : decode cX9_playClause 173 = .ok (.aload_n 0, 1) := by decide +kernel
theorem dX9_playClause_174 : decode cX9_playClause 174 = .ok (.iload 4, 2) := by decide +kernel
theorem dX9_playClause_176 : decode cX9_playClause 176 = .ok (.iload_n 3, 1) := by decide +kernel
theorem dX9_playClause_177 : decode cX9_playClause 177 = .ok (.invokevirtual 142, 3) := by decide +kernel
theorem dX9_playClause_180 : decode cX9_playClause 180 = .ok (.ireturn, 1) := by decide +kernel
theorem dX9_playClause_181 : decode cX9_playClause 181 = .ok (.aload_n 0, 1) := by decide +kernel
theorem dX9_playClause_182 : decode cX9_playClause 182 = .ok (.iload_n 3, 1) := by decide +kernel
theorem dX9_playClause_183 : decode cX9_playClause 183 = .ok (.invokevirtual 145, 3) := by decide +kernel
theorem dX9_playClause_186 : decode cX9_playClause 186 = .ok (.ireturn, 1) := by decide +kernel
theorem dX9_playClause_187 : decode cX9_playClause 187 = .ok (.iconst 1, 1) := by decide +kernel
theorem dX9_playClause_188 : decode cX9_playClause 188 = .ok (.ireturn, 1) := by decide +kernel
theorem dX9_passHoursThatCan_0 : decode cX9_passHoursThatCan 0 = .ok (.aload_n 0, 1) := by decide +kernel
theorem dX9_passHoursThatCan_1 : decode cX9_passHoursThatCan 1 = .ok (.getfield 12, 3) := by decide +kernel
theorem dX9_passHoursThatCan_4 : decode cX9_passHoursThatCan 4 = .ok (.getfield 43, 3) := by decide +kernel
theorem dX9_passHoursThatCan_7 : decode cX9_passHoursThatCan 7 = .ok (.invokevirtual 60, 3) := by decide +kernel
theorem dX9_passHoursThatCan_10 : decode cX9_passHoursThatCan 10 = .ok (.iload_n 1, 1) := by decide +kernel
theorem dX9_passHoursThatCan_11 : decode cX9_passHoursThatCan 11 = .ok (.iadd, 1) := by decide +kernel
theorem dX9_passHoursThatCan_12 : decode cX9_passHoursThatCan 12 = .ok (.sipush 9999, 3) := by decide +kernel
theorem dX9_passHoursThatCan_15 : decode cX9_passHoursThatCan 15 = .ok (.if_icmp .gt 7, 3) := by decide +kernel
theorem dX9_passHoursThatCan_18 : decode cX9_passHoursThatCan 18 = .ok (.iconst 1, 1) := by decide +kernel
theorem dX9_passHoursThatCan_19 : decode cX9_passHoursThatCan 19 = .ok (.goto 4, 3) := by decide +kernel
theorem dX9_passHoursThatCan_22 : decode cX9_passHoursThatCan 22 = .ok (.iconst 0, 1) := by decide +kernel
theorem dX9_passHoursThatCan_23 : decode cX9_passHoursThatCan 23 = .ok (.istore_n 2, 1) := by decide +kernel
theorem dX9_passHoursThatCan_24 : decode cX9_passHoursThatCan 24 = .ok (.aload_n 0, 1) := by decide +kernel
theorem dX9_passHoursThatCan_25 : decode cX9_passHoursThatCan 25 = .ok (.iload_n 1, 1) := by decide +kernel
theorem dX9_passHoursThatCan_26 : decode cX9_passHoursThatCan 26 = .ok (.invokevirtual 148, 3) := by decide +kernel
theorem dX9_passHoursThatCan_29 : decode cX9_passHoursThatCan 29 = .ok (.pop, 1) := by decide +kernel
theorem dX9_passHoursThatCan_30 : decode cX9_passHoursThatCan 30 = .ok (.iload_n 2, 1) := by decide +kernel
theorem dX9_passHoursThatCan_31 : decode cX9_passHoursThatCan 31 = .ok (.ireturn, 1) := by decide +kernel
theorem dX9_beginYears_0 : decode cX9_beginYears 0 = .ok (.aload_n 0, 1) := by decide +kernel
theorem dX9_beginYears_1 : decode cX9_beginYears 1 = .ok (.getfield 12, 3) := by decide +kernel
theorem dX9_beginYears_4 : decode cX9_beginYears 4 = .ok (.getfield 93, 3) := by decide +kernel
theorem dX9_beginYears_7 : decode cX9_beginYears 7 = .ok (.aload_n 0, 1) := by decide +kernel
theorem dX9_beginYears_8 : decode cX9_beginYears 8 = .ok (.getfield 12, 3) := by decide +kernel
theorem dX9_beginYears_11 : decode cX9_beginYears 11 = .ok (.getfield 43, 3) := by decide +kernel
theorem dX9_beginYears_14 : decode cX9_beginYears 14 = .ok (.invokevirtual 97, 3) := by decide +kernel
theorem dX9_beginYears_17 : decode cX9_beginYears 17 = .ok (.aload_n 0, 1) := by decide +kernel
theorem dX9_beginYears_18 : decode cX9_beginYears 18 = .ok (.getfield 12, 3) := by decide +kernel
theorem dX9_beginYears_21 : decode cX9_beginYears 21 = .ok (.getfield 43, 3) := by decide +kernel
theorem dX9_beginYears_24 : decode cX9_beginYears 24 = .ok (.getfield 113, 3) := by decide +kernel
theorem dX9_beginYears_27 : decode cX9_beginYears 27 = .ok (.iconst 1, 1) := by decide +kernel
theorem dX9_beginYears_28 : decode cX9_beginYears 28 = .ok (.iload_n 1, 1) := by decide +kernel
theorem dX9_beginYears_29 : decode cX9_beginYears 29 = .ok (.iconst 2, 1) := by decide +kernel
theorem dX9_beginYears_30 : decode cX9_beginYears 30 = .ok (.imul, 1) := by decide +kernel
theorem dX9_beginYears_31 : decode cX9_beginYears 31 = .ok (.sipush 353, 3) := by decide +kernel
theorem dX9_beginYears_34 : decode cX9_beginYears 34 = .ok (.iadd, 1) := by decide +kernel
theorem dX9_beginYears_35 : decode cX9_beginYears 35 = .ok (.iastore, 1) := by decide +kernel
theorem dX9_beginYears_36 : decode cX9_beginYears 36 = .ok (.return_, 1) := by decide +kernel
theorem dX9_passYear_0 : decode cX9_passYear 0 = .ok (.aload_n 0, 1) := by decide +kernel
theorem dX9_passYear_1 : decode cX9_passYear 1 = .ok (.getfield 12, 3) := by decide +kernel
theorem dX9_passYear_4 : decode cX9_passYear 4 = .ok (.getfield 43, 3) := by decide +kernel
theorem dX9_passYear_7 : decode cX9_passYear 7 = .ok (.astore_n 1, 1) := by decide +kernel
theorem dX9_passYear_8 : decode cX9_passYear 8 = .ok (.aload_n 1, 1) := by decide +kernel
theorem dX9_passYear_9 : decode cX9_passYear 9 = .ok (.invokevirtual 151, 3) := by decide +kernel
theorem dX9_passYear_12 : decode cX9_passYear 12 = .ok (.istore_n 2, 1) := by decide +kernel
theorem dX9_passYear_13 : decode cX9_passYear 13 = .ok (.iload_n 2, 1) := by decide +kernel
theorem dX9_passYear_14 : decode cX9_passYear 14 = .ok (.bipush 6, 2) := by decide +kernel
theorem dX9_passYear_16 : decode cX9_passYear 16 = .ok (.irem, 1) := by decide +kernel
theorem dX9_passYear_17 : decode cX9_passYear 17 = .ok (.tableswitch 86 0 3 #[31, 31, 64, 73], 31) := by decide +kernel
theorem dX9_passYear_48 : decode cX9_passYear 48 = .ok (.iload_n 2, 1) := by decide +kernel
theorem dX9_passYear_49 : decode cX9_passYear 49 = .ok (.bipush 6, 2) := by decide +kernel
theorem dX9_passYear_51 : decode cX9_passYear 51 = .ok (.idiv, 1) := by decide +kernel
theorem dX9_passYear_52 : decode cX9_passYear 52 = .ok (.iconst 3, 1) := by decide +kernel
theorem dX9_passYear_53 : decode cX9_passYear 53 = .ok (.irem, 1) := by decide +kernel
theorem dX9_passYear_54 : decode cX9_passYear 54 = .ok (.istore_n 3, 1) := by decide +kernel
theorem dX9_passYear_55 : decode cX9_passYear 55 = .ok (.aload_n 0, 1) := by decide +kernel
theorem dX9_passYear_56 : decode cX9_passYear 56 = .ok (.iload_n 3, 1) := by decide +kernel
theorem dX9_passYear_57 : decode cX9_passYear 57 = .ok (.iload_n 3, 1) := by decide +kernel
theorem dX9_passYear_58 : decode cX9_passYear 58 = .ok (.iload_n 2, 1) := by decide +kernel
theorem dX9_passYear_59 : decode cX9_passYear 59 = .ok (.iconst 4, 1) := by decide +kernel
