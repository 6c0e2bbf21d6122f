theorem dX12_init_0 : decode cX12_init 0 = .ok (.aload_n 0, 1) := by decide +kernel
theorem dX12_init_1 : decode cX12_init 1 = .ok (.invokespecial 1, 3) := by decide +kernel
theorem dX12_init_4 : decode cX12_init 4 = .ok (.aload_n 0, 1) := by decide +kernel
theorem dX12_init_5 : decode cX12_init 5 = .ok (.bipush 40, 2) := by decide +kernel
theorem dX12_init_7 : decode cX12_init 7 = .ok (.newarray .char, 2) := by decide +kernel
theorem dX12_init_9 : decode cX12_init 9 = .ok (.putfield 7, 3) := by decide +kernel
theorem dX12_init_12 : decode cX12_init 12 = .ok (.aload_n 0, 1) := by decide +kernel
theorem dX12_init_13 : decode cX12_init 13 = .ok (.sipush 500, 3) := by decide +kernel
theorem dX12_init_16 : decode cX12_init 16 = .ok (.newarray .int, 2) := by decide +kernel
theorem dX12_init_18 : decode cX12_init 18 = .ok (.putfield 13, 3) := by decide +kernel
theorem dX12_init_21 : decode cX12_init 21 = .ok (.aload_n 0, 1) := by decide +kernel
theorem dX12_init_22 : decode cX12_init 22 = .ok (.sipush 500, 3) := by decide +kernel
theorem dX12_init_25 : decode cX12_init 25 = .ok (.newarray .int, 2) := by decide +kernel
theorem dX12_init_27 : decode cX12_init 27 = .ok (.putfield 17, 3) := by decide +kernel
theorem dX12_init_30 : decode cX12_init 30 = .ok (.aload_n 0, 1) := by decide +kernel
theorem dX12_init_31 : decode cX12_init 31 = .ok (.bipush 100, 2) := by decide +kernel
theorem dX12_init_33 : decode cX12_init 33 = .ok (.newarray .int, 2) := by decide +kernel
theorem dX12_init_35 : decode cX12_init 35 = .ok (.putfield 20, 3) := by decide +kernel
theorem dX12_init_38 : decode cX12_init 38 = .ok (.aload_n 0, 1) := by decide +kernel
theorem dX12_init_39 : decode cX12_init 39 = .ok (.bipush 80, 2) := by decide +kernel
theorem dX12_init_41 : decode cX12_init 41 = .ok (.newarray .int, 2) := by decide +kernel
theorem dX12_init_43 : decode cX12_init 43 = .ok (.putfield 23, 3) := by decide +kernel
theorem dX12_init_46 : decode cX12_init 46 = .ok (.aload_n 0, 1) := by decide +kernel
theorem dX12_init_47 : decode cX12_init 47 = .ok (.bipush 80, 2) := by decide +kernel
theorem dX12_init_49 : decode cX12_init 49 = .ok (.newarray .int, 2) := by decide +kernel
theorem dX12_init_51 : decode cX12_init 51 = .ok (.putfield 26, 3) := by decide +kernel
theorem dX12_init_54 : decode cX12_init 54 = .ok (.aload_n 0, 1) := by decide +kernel
theorem dX12_init_55 : decode cX12_init 55 = .ok (.bipush 20, 2) := by decide +kernel
theorem dX12_init_57 : decode cX12_init 57 = .ok (.newarray .int, 2) := by decide +kernel
theorem dX12_init_59 : decode cX12_init 59 = .ok (.putfield 29, 3) := by decide +kernel
theorem dX12_init_62 : decode cX12_init 62 = .ok (.aload_n 0, 1) := by decide +kernel
theorem dX12_init_63 : decode cX12_init 63 = .ok (.bipush 20, 2) := by decide +kernel
theorem dX12_init_65 : decode cX12_init 65 = .ok (.newarray .boolean, 2) := by decide +kernel
theorem dX12_init_67 : decode cX12_init 67 = .ok (.putfield 32, 3) := by decide +kernel
theorem dX12_init_70 : decode cX12_init 70 = .ok (.aload_n 0, 1) := by decide +kernel
theorem dX12_init_71 : decode cX12_init 71 = .ok (.bipush 20, 2) := by decide +kernel
theorem dX12_init_73 : decode cX12_init 73 = .ok (.newarray .int, 2) := by decide +kernel
theorem dX12_init_75 : decode cX12_init 75 = .ok (.putfield 36, 3) := by decide +kernel
theorem dX12_init_78 : decode cX12_init 78 = .ok (.aload_n 0, 1) := by decide +kernel
theorem dX12_init_79 : decode cX12_init 79 = .ok (.sipush 1600, 3) := by decide +kernel
theorem dX12_init_82 : decode cX12_init 82 = .ok (.newarray .int, 2) := by decide +kernel
theorem dX12_init_84 : decode cX12_init 84 = .ok (.putfield 39, 3) := by decide +kernel
theorem dX12_init_87 : decode cX12_init 87 = .ok (.aload_n 0, 1) := by decide +kernel
theorem dX12_init_88 : decode cX12_init 88 = .ok (.sipush 1600, 3) := by decide +kernel
theorem dX12_init_91 : decode cX12_init 91 = .ok (.newarray .int, 2) := by decide +kernel
theorem dX12_init_93 : decode cX12_init 93 = .ok (.putfield 42, 3) := by decide +kernel
theorem dX12_init_96 : decode cX12_init 96 = .ok (.aload_n 0, 1) := by decide +kernel
theorem dX12_init_97 : decode cX12_init 97 = .ok (.bipush 30, 2) := by decide +kernel
theorem dX12_init_99 : decode cX12_init 99 = .ok (.newarray .int, 2) := by decide +kernel
theorem dX12_init_101 : decode cX12_init 101 = .ok (.putfield 45, 3) := by decide +kernel
theorem dX12_init_104 : decode cX12_init 104 = .ok (.aload_n 0, 1) := by decide +kernel
theorem dX12_init_105 : decode cX12_init 105 = .ok (.bipush 30, 2) := by decide +kernel
theorem dX12_init_107 : decode cX12_init 107 = .ok (.newarray .int, 2) := by decide +kernel
theorem dX12_init_109 : decode cX12_init 109 = .ok (.putfield 48, 3) := by decide +kernel
theorem dX12_init_112 : decode cX12_init 112 = .ok (.aload_n 0, 1) := by decide +kernel
theorem dX12_init_113 : decode cX12_init 113 = .ok (.bipush 30, 2) := by decide +kernel
theorem dX12_init_115 : decode cX12_init 115 = .ok (.newarray .int, 2) := by decide +kernel
theorem dX12_init_117 : decode cX12_init 117 = .ok (.putfield 51, 3) := by decide +kernel
theorem dX12_init_120 : decode cX12_init 120 = .ok (.aload_n 0, 1) := by decide +kernel
theorem dX12_init_121 : decode cX12_init 121 = .ok (.bipush 40, 2) := by decide +kernel
theorem dX12_init_123 : decode cX12_init 123 = .ok (.newarray .int, 2) := by decide +kernel
theorem dX12_init_125 : decode cX12_init 125 = .ok (.putfield 54, 3) := by decide +kernel
theorem dX12_init_128 : decode cX12_init 128 = .ok (.aload_n 0, 1) := by decide +kernel
theorem dX12_init_129 : decode cX12_init 129 = .ok (.bipush 20, 2) := by decide +kernel
theorem dX12_init_131 : decode cX12_init 131 = .ok (.newarray .boolean, 2) := by decide +kernel
theorem dX12_init_133 : decode cX12_init 133 = .ok (.putfield 57, 3) := by decide +kernel
theorem dX12_init_136 : decode cX12_init 136 = .ok (.aload_n 0, 1) := by decide +kernel
theorem dX12_init_137 : decode cX12_init 137 = .ok (.bipush 20, 2) := by decide +kernel
theorem dX12_init_139 : decode cX12_init 139 = .ok (.newarray .int, 2) := by decide +kernel
theorem dX12_init_141 : decode cX12_init 141 = .ok (.putfield 60, 3) := by decide +kernel
theorem dX12_init_144 : decode cX12_init 144 = .ok (.aload_n 0, 1) := by decide +kernel
theorem dX12_init_145 : decode cX12_init 145 = .ok (.bipush 20, 2) := by decide +kernel
theorem dX12_init_147 : decode cX12_init 147 = .ok (.newarray .int, 2) := by decide +kernel
theorem dX12_init_149 : decode cX12_init 149 = .ok (.putfield 63, 3) := by decide +kernel
theorem dX12_init_152 : decode cX12_init 152 = .ok (.aload_n 0, 1) := by decide +kernel
theorem dX12_init_153 : decode cX12_init 153 = .ok (.bipush 80, 2) := by decide +kernel
theorem dX12_init_155 : decode cX12_init 155 = .ok (.newarray .int, 2) := by decide +kernel
theorem dX12_init_157 : decode cX12_init 157 = .ok (.putfield 66, 3) := by decide +kernel
theorem dX12_init_160 : decode cX12_init 160 = .ok (.aload_n 0, 1) := by decide +kernel
theorem dX12_init_161 : decode cX12_init 161 = .ok (.bipush 80, 2) := by decide +kernel
theorem dX12_init_163 : decode cX12_init 163 = .ok (.newarray .int, 2) := by decide +kernel
theorem dX12_init_165 : decode cX12_init 165 = .ok (.putfield 69, 3) := by decide +kernel
theorem dX12_init_168 : decode cX12_init 168 = .ok (.aload_n 0, 1) := by decide +kernel
theorem dX12_init_169 : decode cX12_init 169 = .ok (.bipush 80, 2) := by decide +kernel
theorem dX12_init_171 : decode cX12_init 171 = .ok (.newarray .boolean, 2) := by decide +kernel
theorem dX12_init_173 : decode cX12_init 173 = .ok (.putfield 72, 3) := by decide +kernel
theorem dX12_init_176 : decode cX12_init 176 = .ok (.aload_n 0, 1) := by decide +kernel
theorem dX12_init_177 : decode cX12_init 177 = .ok (.bipush 6, 2) := by decide +kernel
theorem dX12_init_179 : decode cX12_init 179 = .ok (.newarray .int, 2) := by decide +kernel
theorem dX12_init_181 : decode cX12_init 181 = .ok (.putfield 75, 3) := by decide +kernel
theorem dX12_init_184 : decode cX12_init 184 = .ok (.aload_n 0, 1) := by decide +kernel
theorem dX12_init_185 : decode cX12_init 185 = .ok (.bipush 24, 2) := by decide +kernel
theorem dX12_init_187 : decode cX12_init 187 = .ok (.newarray .int, 2) := by decide +kernel
theorem dX12_init_189 : decode cX12_init 189 = .ok (.putfield 78, 3) := by decide +kernel
theorem dX12_init_192 : decode cX12_init 192 = .ok (.aload_n 0, 1) := by decide +kernel
theorem dX12_init_193 : decode cX12_init 193 = .ok (.bipush 24, 2) := by decide +kernel
theorem dX12_init_195 : decode cX12_init 195 = .ok (.newarray .int, 2) := by decide +kernel
theorem dX12_init_197 : decode cX12_init 197 = .ok (.putfield 81, 3) := by decide +kernel
theorem dX12_init_200 : decode cX12_init 200 = .ok (.aload_n 0, 1) := by decide +kernel
theorem dX12_init_201 : decode cX12_init 201 = .ok (.bipush 24, 2) := by decide +kernel
theorem dX12_init_203 : decode cX12_init 203 = .ok (.newarray .int, 2) := by decide +kernel
theorem dX12_init_205 : decode cX12_init 205 = .ok (.putfield 84, 3) := by decide +kernel
theorem dX12_init_208 : decode cX12_init 208 = .ok (.aload_n 0, 1) := by decide +kernel
theorem dX12_init_209 : decode cX12_init 209 = .ok (.bipush 24, 2) := by decide +kernel
theorem dX12_init_211 : decode cX12_init 211 = .ok (.newarray .int, 2) := by decide +kernel
theorem dX12_init_213 : decode cX12_init 213 = .ok (.putfield 87, 3) := by decide +kernel
theorem dX12_init_216 : decode cX12_init 216 = .ok (.aload_n 0, 1) := by decide +kernel
theorem dX12_init_217 : decode cX12_init 217 = .ok (.sipush 720, 3) := by decide +kernel
theorem dX12_init_220 : decode cX12_init 220 = .ok (.newarray .int, 2) := by decide +kernel
theorem dX12_init_222 : decode cX12_init 222 = .ok (.putfield 90, 3) := by decide +kernel
theorem dX12_init_225 : decode cX12_init 225 = .ok (.return_, 1) := by decide +kernel
theorem dX12_thrown_0 : decode cX12_thrown 0 = .ok (.aload_n 0, 1) := by decide +kernel
theorem dX12_thrown_1 : decode cX12_thrown 1 = .ok (.getfield 93, 3) := by decide +kernel
theorem dX12_thrown_4 : decode cX12_thrown 4 = .ok (.ireturn, 1) := by decide +kernel
theorem dX12_isIn_0 : decode cX12_isIn 0 = .ok (.iload_n 0, 1) := by decide +kernel
theorem dX12_isIn_1 : decode cX12_isIn 1 = .ok (.iload_n 1, 1) := by decide +kernel
theorem dX12_isIn_2 : decode cX12_isIn 2 = .ok (.if_icmp .lt 12, 3) := by decide +kernel
theorem dX12_isIn_5 : decode cX12_isIn 5 = .ok (.iload_n 0, 1) := by decide +kernel
theorem dX12_isIn_6 : decode cX12_isIn 6 = .ok (.iload_n 2, 1) := by decide +kernel
theorem dX12_isIn_7 : decode cX12_isIn 7 = .ok (.if_icmp .gt 7, 3) := by decide +kernel
theorem dX12_isIn_10 : decode cX12_isIn 10 = .ok (.iconst 1, 1) := by decide +kernel
theorem dX12_isIn_11 : decode cX12_isIn 11 = .ok (.goto 4, 3) := by decide +kernel
theorem dX12_isIn_14 : decode cX12_isIn 14 = .ok (.iconst 0, 1) := by decide +kernel
theorem dX12_isIn_15 : decode cX12_isIn 15 = .ok (.ireturn, 1) := by decide +kernel
theorem dX12_isLeap_0 : decode cX12_isLeap 0 = .ok (.iload_n 0, 1) := by decide +kernel
theorem dX12_isLeap_1 : decode cX12_isLeap 1 = .ok (.iconst 4, 1) := by decide +kernel
theorem dX12_isLeap_2 : decode cX12_isLeap 2 = .ok (.irem, 1) := by decide +kernel
theorem dX12_isLeap_3 : decode cX12_isLeap 3 = .ok (.ifCond .ne 22, 3) := by decide +kernel
theorem dX12_isLeap_6 : decode cX12_isLeap 6 = .ok (.iload_n 0, 1) := by decide +kernel
theorem dX12_isLeap_7 : decode cX12_isLeap 7 = .ok (.bipush 100, 2) := by decide +kernel
theorem dX12_isLeap_9 : decode cX12_isLeap 9 = .ok (.irem, 1) := by decide +kernel
theorem dX12_isLeap_10 : decode cX12_isLeap 10 = .ok (.ifCond .ne 11, 3) := by decide +kernel
theorem dX12_isLeap_13 : decode cX12_isLeap 13 = .ok (.iload_n 0, 1) := by decide +kernel
theorem dX12_isLeap_14 : decode cX12_isLeap 14 = .ok (.sipush 400, 3) := by decide +kernel
theorem dX12_isLeap_17 : decode cX12_isLeap 17 = .ok (.irem, 1) := by decide +kernel
theorem dX12_isLeap_18 : decode cX12_isLeap 18 = .ok (.ifCond .ne 7, 3) := by decide +kernel
theorem dX12_isLeap_21 : decode cX12_isLeap 21 = .ok (.iconst 1, 1) := by decide +kernel
theorem dX12_isLeap_22 : decode cX12_isLeap 22 = .ok (.goto 4, 3) := by decide +kernel
theorem dX12_isLeap_25 : decode cX12_isLeap 25 = .ok (.iconst 0, 1) := by decide +kernel
theorem dX12_isLeap_26 : decode cX12_isLeap 26 = .ok (.ireturn, 1) := by decide +kernel
theorem dX12_lengthOf_0 : decode cX12_lengthOf 0 = .ok (.iload_n 0, 1) := by decide +kernel
theorem dX12_lengthOf_1 : decode cX12_lengthOf 1 = .ok (.invokestatic 97, 3) := by decide +kernel
theorem dX12_lengthOf_4 : decode cX12_lengthOf 4 = .ok (.ifCond .eq 9, 3) := by decide +kernel
theorem dX12_lengthOf_7 : decode cX12_lengthOf 7 = .ok (.sipush 366, 3) := by decide +kernel
theorem dX12_lengthOf_10 : decode cX12_lengthOf 10 = .ok (.goto 6, 3) := by decide +kernel
theorem dX12_lengthOf_13 : decode cX12_lengthOf 13 = .ok (.sipush 365, 3) := by decide +kernel
theorem dX12_lengthOf_16 : decode cX12_lengthOf 16 = .ok (.ireturn, 1) := by decide +kernel
theorem dX12_beginOf_0 : decode cX12_beginOf 0 = .ok (.iload_n 0, 1) := by decide +kernel
theorem dX12_beginOf_1 : decode cX12_beginOf 1 = .ok (.iconst 1, 1) := by decide +kernel
theorem dX12_beginOf_2 : decode cX12_beginOf 2 = .ok (.isub, 1) := by decide +kernel
theorem dX12_beginOf_3 : decode cX12_beginOf 3 = .ok (.istore_n 1, 1) := by decide +kernel
theorem dX12_beginOf_4 : decode cX12_beginOf 4 = .ok (.iload_n 0, 1) := by decide +kernel
theorem dX12_beginOf_5 : decode cX12_beginOf 5 = .ok (.ifCond .ne 7, 3) := by decide +kernel
theorem dX12_beginOf_8 : decode cX12_beginOf 8 = .ok (.iconst 0, 1) := by decide +kernel
theorem dX12_beginOf_9 : decode cX12_beginOf 9 = .ok (.goto 25, 3) := by decide +kernel
theorem dX12_beginOf_12 : decode cX12_beginOf 12 = .ok (.sipush 365, 3) := by decide +kernel
theorem dX12_beginOf_15 : decode cX12_beginOf 15 = .ok (.iload_n 0, 1) := by decide +kernel
theorem dX12_beginOf_16 : decode cX12_beginOf 16 = .ok (.imul, 1) := by decide +kernel
theorem dX12_beginOf_17 : decode cX12_beginOf 17 = .ok (.iload_n 1, 1) := by decide +kernel
theorem dX12_beginOf_18 : decode cX12_beginOf 18 = .ok (.iconst 4, 1) := by decide +kernel
theorem dX12_beginOf_19 : decode cX12_beginOf 19 = .ok (.idiv, 1) := by decide +kernel
theorem dX12_beginOf_20 : decode cX12_beginOf 20 = .ok (.iadd, 1) := by decide +kernel
theorem dX12_beginOf_21 : decode cX12_beginOf 21 = .ok (.iload_n 1, 1) := by decide +kernel
theorem dX12_beginOf_22 : decode cX12_beginOf 22 = .ok (.bipush 100, 2) := by decide +kernel
theorem dX12_beginOf_24 : decode cX12_beginOf 24 = .ok (.idiv, 1) := by decide +kernel
theorem dX12_beginOf_25 : decode cX12_beginOf 25 = .ok (.isub, 1) := by decide +kernel
theorem dX12_beginOf_26 : decode cX12_beginOf 26 = .ok (.iload_n 1, 1) := by decide +kernel
theorem dX12_beginOf_27 : decode cX12_beginOf 27 = .ok (.sipush 400, 3) := by decide +kernel
theorem dX12_beginOf_30 : decode cX12_beginOf 30 = .ok (.idiv, 1) := by decide +kernel
theorem dX12_beginOf_31 : decode cX12_beginOf 31 = .ok (.iadd, 1) := by decide +kernel
theorem dX12_beginOf_32 : decode cX12_beginOf 32 = .ok (.iconst 1, 1) := by decide +kernel
theorem dX12_beginOf_33 : decode cX12_beginOf 33 = .ok (.iadd, 1) := by decide +kernel
theorem dX12_beginOf_34 : decode cX12_beginOf 34 = .ok (.ireturn, 1) := by decide +kernel
theorem dX12_lengthOfMonth_0 : decode cX12_lengthOfMonth 0 = .ok (.iload_n 0, 1) := by decide +kernel
theorem dX12_lengthOfMonth_1 : decode cX12_lengthOfMonth 1 = .ok (.iconst 2, 1) := by decide +kernel
theorem dX12_lengthOfMonth_2 : decode cX12_lengthOfMonth 2 = .ok (.if_icmp .ne 15, 3) := by decide +kernel
theorem dX12_lengthOfMonth_5 : decode cX12_lengthOfMonth 5 = .ok (.iload_n 1, 1) := by decide +kernel
theorem dX12_lengthOfMonth_6 : decode cX12_lengthOfMonth 6 = .ok (.ifCond .eq 8, 3) := by decide +kernel
theorem dX12_lengthOfMonth_9 : decode cX12_lengthOfMonth 9 = .ok (.bipush 29, 2) := by decide +kernel
theorem dX12_lengthOfMonth_11 : decode cX12_lengthOfMonth 11 = .ok (.goto 5, 3) := by decide +kernel
theorem dX12_lengthOfMonth_14 : decode cX12_lengthOfMonth 14 = .ok (.bipush 28, 2) := by decide +kernel
theorem dX12_lengthOfMonth_16 : decode cX12_lengthOfMonth 16 = .ok (.ireturn, 1) := by decide +kernel
theorem dX12_lengthOfMonth_17 : decode cX12_lengthOfMonth 17 = .ok (.iload_n 0, 1) := by decide +kernel
theorem dX12_lengthOfMonth_18 : decode cX12_lengthOfMonth 18 = .ok (.iconst 4, 1) := by decide +kernel
theorem dX12_lengthOfMonth_19 : decode cX12_lengthOfMonth 19 = .ok (.if_icmp .eq 21, 3) := by decide +kernel
theorem dX12_lengthOfMonth_22 : decode cX12_lengthOfMonth 22 = .ok (.iload_n 0, 1) := by decide +kernel
theorem dX12_lengthOfMonth_23 : decode cX12_lengthOfMonth 23 = .ok (.bipush 6, 2) := by decide +kernel
theorem dX12_lengthOfMonth_25 : decode cX12_lengthOfMonth 25 = .ok (.if_icmp .eq 15, 3) := by decide +kernel
theorem dX12_lengthOfMonth_28 : decode cX12_lengthOfMonth 28 = .ok (.iload_n 0, 1) := by decide +kernel
theorem dX12_lengthOfMonth_29 : decode cX12_lengthOfMonth 29 = .ok (.bipush 9, 2) := by decide +kernel
theorem dX12_lengthOfMonth_31 : decode cX12_lengthOfMonth 31 = .ok (.if_icmp .eq 9, 3) := by decide +kernel
theorem dX12_lengthOfMonth_34 : decode cX12_lengthOfMonth 34 = .ok (.iload_n 0, 1) := by decide +kernel
theorem dX12_lengthOfMonth_35 : decode cX12_lengthOfMonth 35 = .ok (.bipush 11, 2) := by decide +kernel
theorem dX12_lengthOfMonth_37 : decode cX12_lengthOfMonth 37 = .ok (.if_icmp .ne 8, 3) := by decide +kernel
theorem dX12_lengthOfMonth_40 : decode cX12_lengthOfMonth 40 = .ok (.bipush 30, 2) := by decide +kernel
theorem dX12_lengthOfMonth_42 : decode cX12_lengthOfMonth 42 = .ok (.goto 5, 3) := by decide +kernel
theorem dX12_lengthOfMonth_45 : decode cX12_lengthOfMonth 45 = .ok (.bipush 31, 2) := by decide +kernel
theorem dX12_lengthOfMonth_47 : decode cX12_lengthOfMonth 47 = .ok (.ireturn, 1) := by decide +kernel
theorem dX12_beginOfMonth_0 : decode cX12_beginOfMonth 0 = .ok (.iconst 0, 1) := by decide +kernel
theorem dX12_beginOfMonth_1 : decode cX12_beginOfMonth 1 = .ok (.istore_n 2, 1) := by decide +kernel
theorem dX12_beginOfMonth_2 : decode cX12_beginOfMonth 2 = .ok (.iconst 1, 1) := by decide +kernel
theorem dX12_beginOfMonth_3 : decode cX12_beginOfMonth 3 = .ok (.istore_n 3, 1) := by decide +kernel
theorem dX12_beginOfMonth_4 : decode cX12_beginOfMonth 4 = .ok (.iload_n 3, 1) := by decide +kernel
theorem dX12_beginOfMonth_5 : decode cX12_beginOfMonth 5 = .ok (.iload_n 1, 1) := by decide +kernel
theorem dX12_beginOfMonth_6 : decode cX12_beginOfMonth 6 = .ok (.if_icmp .ge 20, 3) := by decide +kernel
theorem dX12_beginOfMonth_9 : decode cX12_beginOfMonth 9 = .ok (.iload_n 2, 1) := by decide +kernel
theorem dX12_beginOfMonth_10 : decode cX12_beginOfMonth 10 = .ok (.iload_n 3, 1) := by decide +kernel
theorem dX12_beginOfMonth_11 : decode cX12_beginOfMonth 11 = .ok (.iload_n 0, 1) := by decide +kernel
theorem dX12_beginOfMonth_12 : decode cX12_beginOfMonth 12 = .ok (.invokestatic 97, 3) := by decide +kernel
theorem dX12_beginOfMonth_15 : decode cX12_beginOfMonth 15 = .ok (.invokestatic 101, 3) := by decide +kernel
theorem dX12_beginOfMonth_18 : decode cX12_beginOfMonth 18 = .ok (.iadd, 1) := by decide +kernel
theorem dX12_beginOfMonth_19 : decode cX12_beginOfMonth 19 = .ok (.istore_n 2, 1) := by decide +kernel
theorem dX12_beginOfMonth_20 : decode cX12_beginOfMonth 20 = .ok (.iinc 3 1, 3) := by decide +kernel
theorem dX12_beginOfMonth_23 : decode cX12_beginOfMonth 23 = .ok (.goto (-19), 3) := by decide +kernel
theorem dX12_beginOfMonth_26 : decode cX12_beginOfMonth 26 = .ok (.iload_n 2, 1) := by decide +kernel
theorem dX12_beginOfMonth_27 : decode cX12_beginOfMonth 27 = .ok (.ireturn, 1) := by decide +kernel
theorem dX12_dateOf_0 : decode cX12_dateOf 0 = .ok (.iconst 1, 1) := by decide +kernel
theorem dX12_dateOf_1 : decode cX12_dateOf 1 = .ok (.istore_n 2, 1) := by decide +kernel
theorem dX12_dateOf_2 : decode cX12_dateOf 2 = .ok (.iload_n 1, 1) := by decide +kernel
theorem dX12_dateOf_3 : decode cX12_dateOf 3 = .ok (.istore_n 3, 1) := by decide +kernel
theorem dX12_dateOf_4 : decode cX12_dateOf 4 = .ok (.iload_n 3, 1) := by decide +kernel
theorem dX12_dateOf_5 : decode cX12_dateOf 5 = .ok (.iload_n 2, 1) := by decide +kernel
theorem dX12_dateOf_6 : decode cX12_dateOf 6 = .ok (.iload_n 0, 1) := by decide +kernel
theorem dX12_dateOf_7 : decode cX12_dateOf 7 = .ok (.invokestatic 97, 3) := by decide +kernel
theorem dX12_dateOf_10 : decode cX12_dateOf 10 = .ok (.invokestatic 101, 3) := by decide +kernel
theorem dX12_dateOf_13 : decode cX12_dateOf 13 = .ok (.if_icmp .lt 20, 3) := by decide +kernel
theorem dX12_dateOf_16 : decode cX12_dateOf 16 = .ok (.iload_n 3, 1) := by decide +kernel
theorem dX12_dateOf_17 : decode cX12_dateOf 17 = .ok (.iload_n 2, 1) := by decide +kernel
theorem dX12_dateOf_18 : decode cX12_dateOf 18 = .ok (.iload_n 0, 1) := by decide +kernel
theorem dX12_dateOf_19 : decode cX12_dateOf 19 = .ok (.invokestatic 97, 3) := by decide +kernel
theorem dX12_dateOf_22 : decode cX12_dateOf 22 = .ok (.invokestatic 101, 3) := by decide +kernel
theorem dX12_dateOf_25 : decode cX12_dateOf 25 = .ok (.isub, 1) := by decide +kernel
theorem dX12_dateOf_26 : decode cX12_dateOf 26 = .ok (.istore_n 3, 1) := by decide +kernel
theorem dX12_dateOf_27 : decode cX12_dateOf 27 = .ok (.iinc 2 1, 3) := by decide +kernel
theorem dX12_dateOf_30 : decode cX12_dateOf 30 = .ok (.goto (-26), 3) := by decide +kernel
theorem dX12_dateOf_33 : decode cX12_dateOf 33 = .ok (.bipush 100, 2) := by decide +kernel
theorem dX12_dateOf_35 : decode cX12_dateOf 35 = .ok (.iload_n 2, 1) := by decide +kernel
theorem dX12_dateOf_36 : decode cX12_dateOf 36 = .ok (.imul, 1) := by decide +kernel
theorem dX12_dateOf_37 : decode cX12_dateOf 37 = .ok (.iload_n 3, 1) := by decide +kernel
theorem dX12_dateOf_38 : decode cX12_dateOf 38 = .ok (.iadd, 1) := by decide +kernel
theorem dX12_dateOf_39 : decode cX12_dateOf 39 = .ok (.iconst 1, 1) := by decide +kernel
theorem dX12_dateOf_40 : decode cX12_dateOf 40 = .ok (.iadd, 1) := by decide +kernel
theorem dX12_dateOf_41 : decode cX12_dateOf 41 = .ok (.ireturn, 1) := by decide +kernel
theorem dX12_weekday_0 : decode cX12_weekday 0 = .ok (.iload_n 0, 1) := by decide +kernel
theorem dX12_weekday_1 : decode cX12_weekday 1 = .ok (.bipush 6, 2) := by decide +kernel
theorem dX12_weekday_3 : decode cX12_weekday 3 = .ok (.iadd, 1) := by decide +kernel
theorem dX12_weekday_4 : decode cX12_weekday 4 = .ok (.bipush 7, 2) := by decide +kernel
theorem dX12_weekday_6 : decode cX12_weekday 6 = .ok (.irem, 1) := by decide +kernel
theorem dX12_weekday_7 : decode cX12_weekday 7 = .ok (.ireturn, 1) := by decide +kernel
theorem dX12_floor_0 : decode cX12_floor 0 = .ok (.iload_n 0, 1) := by decide +kernel
theorem dX12_floor_1 : decode cX12_floor 1 = .ok (.ifCond .lt 9, 3) := by decide +kernel
theorem dX12_floor_4 : decode cX12_floor 4 = .ok (.iload_n 0, 1) := by decide +kernel
theorem dX12_floor_5 : decode cX12_floor 5 = .ok (.iload_n 1, 1) := by decide +kernel
theorem dX12_floor_6 : decode cX12_floor 6 = .ok (.idiv, 1) := by decide +kernel
theorem dX12_floor_7 : decode cX12_floor 7 = .ok (.goto 11, 3) := by decide +kernel
theorem dX12_floor_10 : decode cX12_floor 10 = .ok (.iload_n 1, 1) := by decide +kernel
theorem dX12_floor_11 : decode cX12_floor 11 = .ok (.iconst 1, 1) := by decide +kernel
theorem dX12_floor_12 : decode cX12_floor 12 = .ok (.isub, 1) := by decide +kernel
theorem dX12_floor_13 : decode cX12_floor 13 = .ok (.iload_n 0, 1) := by decide +kernel
theorem dX12_floor_14 : decode cX12_floor 14 = .ok (.isub, 1) := by decide +kernel
theorem dX12_floor_15 : decode cX12_floor 15 = .ok (.iload_n 1, 1) := by decide +kernel
theorem dX12_floor_16 : decode cX12_floor 16 = .ok (.idiv, 1) := by decide +kernel
theorem dX12_floor_17 : decode cX12_floor 17 = .ok (.ineg, 1) := by decide +kernel
theorem dX12_floor_18 : decode cX12_floor 18 = .ok (.ireturn, 1) := by decide +kernel
theorem dX12_moonOf_0 : decode cX12_moonOf 0 = .ok (.iload_n 1, 1) := by decide +kernel
theorem dX12_moonOf_1 : decode cX12_moonOf 1 = .ok (.ifCond .ne 18, 3) := by decide +kernel
theorem dX12_moonOf_4 : decode cX12_moonOf 4 = .ok (.sipush 945, 3) := by decide +kernel
theorem dX12_moonOf_7 : decode cX12_moonOf 7 = .ok (.iload_n 0, 1) := by decide +kernel
theorem dX12_moonOf_8 : decode cX12_moonOf 8 = .ok (.imul, 1) := by decide +kernel
theorem dX12_moonOf_9 : decode cX12_moonOf 9 = .ok (.bipush 32, 2) := by decide +kernel
theorem dX12_moonOf_11 : decode cX12_moonOf 11 = .ok (.invokestatic 105, 3) := by decide +kernel
theorem dX12_moonOf_14 : decode cX12_moonOf 14 = .ok (.iconst 5, 1) := by decide +kernel
theorem dX12_moonOf_15 : decode cX12_moonOf 15 = .ok (.iadd, 1) := by decide +kernel
theorem dX12_moonOf_16 : decode cX12_moonOf 16 = .ok (.goto 17, 3) := by decide +kernel
theorem dX12_moonOf_19 : decode cX12_moonOf 19 = .ok (.sipush 6940, 3) := by decide +kernel
theorem dX12_moonOf_22 : decode cX12_moonOf 22 = .ok (.iload_n 0, 1) := by decide +kernel
theorem dX12_moonOf_23 : decode cX12_moonOf 23 = .ok (.imul, 1) := by decide +kernel
theorem dX12_moonOf_24 : decode cX12_moonOf 24 = .ok (.sipush 235, 3) := by decide +kernel
theorem dX12_moonOf_27 : decode cX12_moonOf 27 = .ok (.invokestatic 105, 3) := by decide +kernel
theorem dX12_moonOf_30 : decode cX12_moonOf 30 = .ok (.bipush 6, 2) := by decide +kernel
theorem dX12_moonOf_32 : decode cX12_moonOf 32 = .ok (.iadd, 1) := by decide +kernel
theorem dX12_moonOf_33 : decode cX12_moonOf 33 = .ok (.ireturn, 1) := by decide +kernel
theorem dX12_lastMoon_0 : decode cX12_lastMoon 0 = .ok (.iload_n 1, 1) := by decide +kernel
theorem dX12_lastMoon_1 : decode cX12_lastMoon 1 = .ok (.ifCond .ne 20, 3) := by decide +kernel
theorem dX12_lastMoon_4 : decode cX12_lastMoon 4 = .ok (.bipush 32, 2) := by decide +kernel
theorem dX12_lastMoon_6 : decode cX12_lastMoon 6 = .ok (.iload_n 0, 1) := by decide +kernel
theorem dX12_lastMoon_7 : decode cX12_lastMoon 7 = .ok (.iconst 4, 1) := by decide +kernel
theorem dX12_lastMoon_8 : decode cX12_lastMoon 8 = .ok (.isub, 1) := by decide +kernel
theorem dX12_lastMoon_9 : decode cX12_lastMoon 9 = .ok (.imul, 1) := by decide +kernel
theorem dX12_lastMoon_10 : decode cX12_lastMoon 10 = .ok (.iconst 1, 1) := by decide +kernel
theorem dX12_lastMoon_11 : decode cX12_lastMoon 11 = .ok (.isub, 1) := by decide +kernel
theorem dX12_lastMoon_12 : decode cX12_lastMoon 12 = .ok (.sipush 945, 3) := by decide +kernel
theorem dX12_lastMoon_15 : decode cX12_lastMoon 15 = .ok (.invokestatic 105, 3) := by decide +kernel
theorem dX12_lastMoon_18 : decode cX12_lastMoon 18 = .ok (.goto 18, 3) := by decide +kernel
theorem dX12_lastMoon_21 : decode cX12_lastMoon 21 = .ok (.sipush 235, 3) := by decide +kernel
theorem dX12_lastMoon_24 : decode cX12_lastMoon 24 = .ok (.iload_n 0, 1) := by decide +kernel
theorem dX12_lastMoon_25 : decode cX12_lastMoon 25 = .ok (.iconst 5, 1) := by decide +kernel
theorem dX12_lastMoon_26 : decode cX12_lastMoon 26 = .ok (.isub, 1) := by decide +kernel
theorem dX12_lastMoon_27 : decode cX12_lastMoon 27 = .ok (.imul, 1) := by decide +kernel
theorem dX12_lastMoon_28 : decode cX12_lastMoon 28 = .ok (.iconst 1, 1) := by decide +kernel
theorem dX12_lastMoon_29 : decode cX12_lastMoon 29 = .ok (.isub, 1) := by decide +kernel
theorem dX12_lastMoon_30 : decode cX12_lastMoon 30 = .ok (.sipush 6940, 3) := by decide +kernel
theorem dX12_lastMoon_33 : decode cX12_lastMoon 33 = .ok (.invokestatic 105, 3) := by decide +kernel
theorem dX12_lastMoon_36 : decode cX12_lastMoon 36 = .ok (.ireturn, 1) := by decide +kernel
theorem dX12_ageOf_0 : decode cX12_ageOf 0 = .ok (.iload_n 0, 1) := by decide +kernel
theorem dX12_ageOf_1 : decode cX12_ageOf 1 = .ok (.iload_n 0, 1) := by decide +kernel
theorem dX12_ageOf_2 : decode cX12_ageOf 2 = .ok (.iload_n 1, 1) := by decide +kernel
theorem dX12_ageOf_3 : decode cX12_ageOf 3 = .ok (.invokestatic 109, 3) := by decide +kernel
theorem dX12_ageOf_6 : decode cX12_ageOf 6 = .ok (.iload_n 1, 1) := by decide +kernel
theorem dX12_ageOf_7 : decode cX12_ageOf 7 = .ok (.invokestatic 112, 3) := by decide +kernel
theorem dX12_ageOf_10 : decode cX12_ageOf 10 = .ok (.isub, 1) := by decide +kernel
theorem dX12_ageOf_11 : decode cX12_ageOf 11 = .ok (.ireturn, 1) := by decide +kernel
theorem dX12_begin_0 : decode cX12_begin 0 = .ok (.aload_n 0, 1) := by decide +kernel
theorem dX12_begin_1 : decode cX12_begin 1 = .ok (.iload_n 1, 1) := by decide +kernel
theorem dX12_begin_2 : decode cX12_begin 2 = .ok (.iconst 0, 1) := by decide +kernel
theorem dX12_begin_3 : decode cX12_begin 3 = .ok (.sipush 399, 3) := by decide +kernel
theorem dX12_begin_6 : decode cX12_begin 6 = .ok (.invokestatic 115, 3) := by decide +kernel
theorem dX12_begin_9 : decode cX12_begin 9 = .ok (.ifCond .eq 7, 3) := by decide +kernel
theorem dX12_begin_12 : decode cX12_begin 12 = .ok (.iconst 0, 1) := by decide +kernel
theorem dX12_begin_13 : decode cX12_begin 13 = .ok (.goto 4, 3) := by decide +kernel
theorem dX12_begin_16 : decode cX12_begin 16 = .ok (.iconst 1, 1) := by decide +kernel
theorem dX12_begin_17 : decode cX12_begin 17 = .ok (.putfield 93, 3) := by decide +kernel
theorem dX12_begin_20 : decode cX12_begin 20 = .ok (.aload_n 0, 1) := by decide +kernel
theorem dX12_begin_21 : decode cX12_begin 21 = .ok (.getfield 93, 3) := by decide +kernel
theorem dX12_begin_24 : decode cX12_begin 24 = .ok (.ifCond .le 7, 3) := by decide +kernel
theorem dX12_begin_27 : decode cX12_begin 27 = .ok (.iconst 0, 1) := by decide +kernel
theorem dX12_begin_28 : decode cX12_begin 28 = .ok (.goto 7, 3) := by decide +kernel
theorem dX12_begin_31 : decode cX12_begin 31 = .ok (.iload_n 1, 1) := by decide +kernel
theorem dX12_begin_32 : decode cX12_begin 32 = .ok (.invokestatic 119, 3) := by decide +kernel
theorem dX12_begin_35 : decode cX12_begin 35 = .ok (.ireturn, 1) := by decide +kernel
theorem dX12_date_0 : decode cX12_date 0 = .ok (.aload_n 0, 1) := by decide +kernel
theorem dX12_date_1 : decode cX12_date 1 = .ok (.iload_n 1, 1) := by decide +kernel
theorem dX12_date_2 : decode cX12_date 2 = .ok (.iconst 0, 1) := by decide +kernel
theorem dX12_date_3 : decode cX12_date 3 = .ok (.sipush 399, 3) := by decide +kernel
theorem dX12_date_6 : decode cX12_date 6 = .ok (.invokestatic 115, 3) := by decide +kernel
theorem dX12_date_9 : decode cX12_date 9 = .ok (.ifCond .eq 18, 3) := by decide +kernel
theorem dX12_date_12 : decode cX12_date 12 = .ok (.iload_n 2, 1) := by decide +kernel
theorem dX12_date_13 : decode cX12_date 13 = .ok (.iconst 0, 1) := by decide +kernel
theorem dX12_date_14 : decode cX12_date 14 = .ok (.sipush 365, 3) := by decide +kernel
theorem dX12_date_17 : decode cX12_date 17 = .ok (.invokestatic 115, 3) := by decide +kernel
theorem dX12_date_20 : decode cX12_date 20 = .ok (.ifCond .eq 7, 3) := by decide +kernel
theorem dX12_date_23 : decode cX12_date 23 = .ok (.iconst 0, 1) := by decide +kernel
theorem dX12_date_24 : decode cX12_date 24 = .ok (.goto 4, 3) := by decide +kernel
theorem dX12_date_27 : decode cX12_date 27 = .ok (.iconst 1, 1) := by decide +kernel
theorem dX12_date_28 : decode cX12_date 28 = .ok (.putfield 93, 3) := by decide +kernel
theorem dX12_date_31 : decode cX12_date 31 = .ok (.aload_n 0, 1) := by decide +kernel
theorem dX12_date_32 : decode cX12_date 32 = .ok (.getfield 93, 3) := by decide +kernel
theorem dX12_date_35 : decode cX12_date 35 = .ok (.ifCond .le 5, 3) := by decide +kernel
theorem dX12_date_38 : decode cX12_date 38 = .ok (.iconst 0, 1) := by decide +kernel
theorem dX12_date_39 : decode cX12_date 39 = .ok (.ireturn, 1) := by decide +kernel
theorem dX12_date_40 : decode cX12_date 40 = .ok (.iload_n 2, 1) := by decide +kernel
theorem dX12_date_41 : decode cX12_date 41 = .ok (.iload_n 1, 1) := by decide +kernel
theorem dX12_date_42 : decode cX12_date 42 = .ok (.invokestatic 123, 3) := by decide +kernel
theorem dX12_date_45 : decode cX12_date 45 = .ok (.if_icmp .ge 11, 3) := by decide +kernel
theorem dX12_date_48 : decode cX12_date 48 = .ok (.iload_n 1, 1) := by decide +kernel
theorem dX12_date_49 : decode cX12_date 49 = .ok (.iload_n 2, 1) := by decide +kernel
theorem dX12_date_50 : decode cX12_date 50 = .ok (.invokestatic 126, 3) := by decide +kernel
theorem dX12_date_53 : decode cX12_date 53 = .ok (.goto 4, 3) := by decide +kernel
theorem dX12_date_56 : decode cX12_date 56 = .ok (.iconst (-1), 1) := by decide +kernel
theorem dX12_date_57 : decode cX12_date 57 = .ok (.ireturn, 1) := by decide +kernel
theorem dX12_age_0 : decode cX12_age 0 = .ok (.aload_n 0, 1) := by decide +kernel
theorem dX12_age_1 : decode cX12_age 1 = .ok (.iload_n 1, 1) := by decide +kernel
theorem dX12_age_2 : decode cX12_age 2 = .ok (.iconst 0, 1) := by decide +kernel
theorem dX12_age_3 : decode cX12_age 3 = .ok (.ldc 129, 2) := by decide +kernel
theorem dX12_age_5 : decode cX12_age 5 = .ok (.invokestatic 115, 3) := by decide +kernel
theorem dX12_age_8 : decode cX12_age 8 = .ok (.ifCond .eq 16, 3) := by decide +kernel
theorem dX12_age_11 : decode cX12_age 11 = .ok (.iload_n 2, 1) := by decide +kernel
theorem dX12_age_12 : decode cX12_age 12 = .ok (.iconst 0, 1) := by decide +kernel
theorem dX12_age_13 : decode cX12_age 13 = .ok (.iconst 1, 1) := by decide +kernel
theorem dX12_age_14 : decode cX12_age 14 = .ok (.invokestatic 115, 3) := by decide +kernel
theorem dX12_age_17 : decode cX12_age 17 = .ok (.ifCond .eq 7, 3) := by decide +kernel
theorem dX12_age_20 : decode cX12_age 20 = .ok (.iconst 0, 1) := by decide +kernel
theorem dX12_age_21 : decode cX12_age 21 = .ok (.goto 4, 3) := by decide +kernel
theorem dX12_age_24 : decode cX12_age 24 = .ok (.iconst 1, 1) := by decide +kernel
theorem dX12_age_25 : decode cX12_age 25 = .ok (.putfield 93, 3) := by decide +kernel
theorem dX12_age_28 : decode cX12_age 28 = .ok (.aload_n 0, 1) := by decide +kernel
theorem dX12_age_29 : decode cX12_age 29 = .ok (.getfield 93, 3) := by decide +kernel
theorem dX12_age_32 : decode cX12_age 32 = .ok (.ifCond .le 7, 3) := by decide +kernel
theorem dX12_age_35 : decode cX12_age 35 = .ok (.iconst 0, 1) := by decide +kernel
theorem dX12_age_36 : decode cX12_age 36 = .ok (.goto 8, 3) := by decide +kernel
theorem dX12_age_39 : decode cX12_age 39 = .ok (.iload_n 1, 1) := by decide +kernel
theorem dX12_age_40 : decode cX12_age 40 = .ok (.iload_n 2, 1) := by decide +kernel
theorem dX12_age_41 : decode cX12_age 41 = .ok (.invokestatic 130, 3) := by decide +kernel
theorem dX12_age_44 : decode cX12_age 44 = .ok (.ireturn, 1) := by decide +kernel
theorem dX12_table_0 : decode cX12_table 0 = .ok (.aload_n 0, 1) := by decide +kernel
theorem dX12_table_1 : decode cX12_table 1 = .ok (.iload_n 1, 1) := by decide +kernel
theorem dX12_table_2 : decode cX12_table 2 = .ok (.iconst 0, 1) := by decide +kernel
theorem dX12_table_3 : decode cX12_table 3 = .ok (.iconst 1, 1) := by decide +kernel
theorem dX12_table_4 : decode cX12_table 4 = .ok (.invokestatic 115, 3) := by decide +kernel
theorem dX12_table_7 : decode cX12_table 7 = .ok (.ifCond .eq 7, 3) := by decide +kernel
theorem dX12_table_10 : decode cX12_table 10 = .ok (.iconst 0, 1) := by decide +kernel
theorem dX12_table_11 : decode cX12_table 11 = .ok (.goto 4, 3) := by decide +kernel
theorem dX12_table_14 : decode cX12_table 14 = .ok (.iconst 1, 1) := by decide +kernel
theorem dX12_table_15 : decode cX12_table 15 = .ok (.putfield 93, 3) := by decide +kernel
theorem dX12_table_18 : decode cX12_table 18 = .ok (.aload_n 0, 1) := by decide +kernel
theorem dX12_table_19 : decode cX12_table 19 = .ok (.getfield 93, 3) := by decide +kernel
theorem dX12_table_22 : decode cX12_table 22 = .ok (.ifCond .le 5, 3) := by decide +kernel
theorem dX12_table_25 : decode cX12_table 25 = .ok (.iconst 0, 1) := by decide +kernel
theorem dX12_table_26 : decode cX12_table 26 = .ok (.ireturn, 1) := by decide +kernel
theorem dX12_table_27 : decode cX12_table 27 = .ok (.aload_n 0, 1) := by decide +kernel
theorem dX12_table_28 : decode cX12_table 28 = .ok (.getfield 133, 3) := by decide +kernel
theorem dX12_table_31 : decode cX12_table 31 = .ok (.istore_n 2, 1) := by decide +kernel
theorem dX12_table_32 : decode cX12_table 32 = .ok (.aload_n 0, 1) := by decide +kernel
theorem dX12_table_33 : decode cX12_table 33 = .ok (.iload_n 1, 1) := by decide +kernel
theorem dX12_table_34 : decode cX12_table 34 = .ok (.putfield 133, 3) := by decide +kernel
theorem dX12_table_37 : decode cX12_table 37 = .ok (.iload_n 2, 1) := by decide +kernel
theorem dX12_table_38 : decode cX12_table 38 = .ok (.ireturn, 1) := by decide +kernel
theorem dX12_type_0 : decode cX12_type 0 = .ok (.aload_n 0, 1) := by decide +kernel
theorem dX12_type_1 : decode cX12_type 1 = .ok (.iload_n 1, 1) := by decide +kernel
theorem dX12_type_2 : decode cX12_type 2 = .ok (.bipush 33, 2) := by decide +kernel
theorem dX12_type_4 : decode cX12_type 4 = .ok (.bipush 126, 2) := by decide +kernel
theorem dX12_type_6 : decode cX12_type 6 = .ok (.invokestatic 115, 3) := by decide +kernel
theorem dX12_type_9 : decode cX12_type 9 = .ok (.ifCond .ne 7, 3) := by decide +kernel
theorem dX12_type_12 : decode cX12_type 12 = .ok (.iconst 1, 1) := by decide +kernel
theorem dX12_type_13 : decode cX12_type 13 = .ok (.goto 17, 3) := by decide +kernel
theorem dX12_type_16 : decode cX12_type 16 = .ok (.aload_n 0, 1) := by decide +kernel
theorem dX12_type_17 : decode cX12_type 17 = .ok (.getfield 136, 3) := by decide +kernel
theorem dX12_type_20 : decode cX12_type 20 = .ok (.bipush 40, 2) := by decide +kernel
theorem dX12_type_22 : decode cX12_type 22 = .ok (.if_icmp .ne 7, 3) := by decide +kernel
theorem dX12_type_25 : decode cX12_type 25 = .ok (.iconst 2, 1) := by decide +kernel
theorem dX12_type_26 : decode cX12_type 26 = .ok (.goto 4, 3) := by decide +kernel
theorem dX12_type_29 : decode cX12_type 29 = .ok (.iconst 0, 1) := by decide +kernel
theorem dX12_type_30 : decode cX12_type 30 = .ok (.putfield 93, 3) := by decide +kernel
theorem dX12_type_33 : decode cX12_type 33 = .ok (.aload_n 0, 1) := by decide +kernel
theorem dX12_type_34 : decode cX12_type 34 = .ok (.getfield 93, 3) := by decide +kernel
theorem dX12_type_37 : decode cX12_type 37 = .ok (.ifCond .le 5, 3) := by decide +kernel
theorem dX12_type_40 : decode cX12_type 40 = .ok (.iconst 0, 1) := by decide +kernel
theorem dX12_type_41 : decode cX12_type 41 = .ok (.ireturn, 1) := by decide +kernel
theorem dX12_type_42 : decode cX12_type 42 = .ok (.aload_n 0, 1) := by decide +kernel
theorem dX12_type_43 : decode cX12_type 43 = .ok (.getfield 7, 3) := by decide +kernel
theorem dX12_type_46 : decode cX12_type 46 = .ok (.aload_n 0, 1) := by decide +kernel
theorem dX12_type_47 : decode cX12_type 47 = .ok (.getfield 136, 3) := by decide +kernel
theorem dX12_type_50 : decode cX12_type 50 = .ok (.iload_n 1, 1) := by decide +kernel
theorem dX12_type_51 : decode cX12_type 51 = .ok (.castore, 1) := by decide +kernel
theorem dX12_type_52 : decode cX12_type 52 = .ok (.aload_n 0, 1) := by decide +kernel
theorem dX12_type_53 : decode cX12_type 53 = .ok (.dup, 1) := by decide +kernel
theorem dX12_type_54 : decode cX12_type 54 = .ok (.getfield 136, 3) := by decide +kernel
theorem dX12_type_57 : decode cX12_type 57 = .ok (.iconst 1, 1) := by decide +kernel
theorem dX12_type_58 : decode cX12_type 58 = .ok (.iadd, 1) := by decide +kernel
theorem dX12_type_59 : decode cX12_type 59 = .ok (.putfield 136, 3) := by decide +kernel
theorem dX12_type_62 : decode cX12_type 62 = .ok (.aload_n 0, 1) := by decide +kernel
theorem dX12_type_63 : decode cX12_type 63 = .ok (.getfield 136, 3) := by decide +kernel
theorem dX12_type_66 : decode cX12_type 66 = .ok (.ireturn, 1) := by decide +kernel
theorem dX12_wipe_0 : decode cX12_wipe 0 = .ok (.aload_n 0, 1) := by decide +kernel
theorem dX12_wipe_1 : decode cX12_wipe 1 = .ok (.iconst 0, 1) := by decide +kernel
theorem dX12_wipe_2 : decode cX12_wipe 2 = .ok (.putfield 93, 3) := by decide +kernel
theorem dX12_wipe_5 : decode cX12_wipe 5 = .ok (.aload_n 0, 1) := by decide +kernel
theorem dX12_wipe_6 : decode cX12_wipe 6 = .ok (.getfield 136, 3) := by decide +kernel
theorem dX12_wipe_9 : decode cX12_wipe 9 = .ok (.istore_n 1, 1) := by decide +kernel
theorem dX12_wipe_10 : decode cX12_wipe 10 = .ok (.aload_n 0, 1) := by decide +kernel
theorem dX12_wipe_11 : decode cX12_wipe 11 = .ok (.iconst 0, 1) := by decide +kernel
theorem dX12_wipe_12 : decode cX12_wipe 12 = .ok (.putfield 136, 3) := by decide +kernel
theorem dX12_wipe_15 : decode cX12_wipe 15 = .ok (.iload_n 1, 1) := by decide +kernel
theorem dX12_wipe_16 : decode cX12_wipe 16 = .ok (.ireturn, 1) := by decide +kernel
theorem dX12_push_0 : decode cX12_push 0 = .ok (.aload_n 0, 1) := by decide +kernel
theorem dX12_push_1 : decode cX12_push 1 = .ok (.getfield 13, 3) := by decide +kernel
theorem dX12_push_4 : decode cX12_push 4 = .ok (.aload_n 0, 1) := by decide +kernel
theorem dX12_push_5 : decode cX12_push 5 = .ok (.getfield 139, 3) := by decide +kernel
theorem dX12_push_8 : decode cX12_push 8 = .ok (.iload_n 1, 1) := by decide +kernel
theorem dX12_push_9 : decode cX12_push 9 = .ok (.iastore, 1) := by decide +kernel
theorem dX12_push_10 : decode cX12_push 10 = .ok (.aload_n 0, 1) := by decide +kernel
theorem dX12_push_11 : decode cX12_push 11 = .ok (.getfield 17, 3) := by decide +kernel
theorem dX12_push_14 : decode cX12_push 14 = .ok (.aload_n 0, 1) := by decide +kernel
theorem dX12_push_15 : decode cX12_push 15 = .ok (.getfield 139, 3) := by decide +kernel
theorem dX12_push_18 : decode cX12_push 18 = .ok (.iload_n 2, 1) := by decide +kernel
theorem dX12_push_19 : decode cX12_push 19 = .ok (.iastore, 1) := by decide +kernel
theorem dX12_push_20 : decode cX12_push 20 = .ok (.aload_n 0, 1) := by decide +kernel
theorem dX12_push_21 : decode cX12_push 21 = .ok (.dup, 1) := by decide +kernel
theorem dX12_push_22 : decode cX12_push 22 = .ok (.getfield 139, 3) := by decide +kernel
theorem dX12_push_25 : decode cX12_push 25 = .ok (.iconst 1, 1) := by decide +kernel
theorem dX12_push_26 : decode cX12_push 26 = .ok (.iadd, 1) := by decide +kernel
theorem dX12_push_27 : decode cX12_push 27 = .ok (.putfield 139, 3) := by decide +kernel
theorem dX12_push_30 : decode cX12_push 30 = .ok (.return_, 1) := by decide +kernel
theorem dX12_emits_0 : decode cX12_emits 0 = .ok (.aload_n 0, 1) := by decide +kernel
theorem dX12_emits_1 : decode cX12_emits 1 = .ok (.getfield 23, 3) := by decide +kernel
theorem dX12_emits_4 : decode cX12_emits 4 = .ok (.aload_n 0, 1) := by decide +kernel
theorem dX12_emits_5 : decode cX12_emits 5 = .ok (.getfield 142, 3) := by decide +kernel
theorem dX12_emits_8 : decode cX12_emits 8 = .ok (.iload_n 1, 1) := by decide +kernel
theorem dX12_emits_9 : decode cX12_emits 9 = .ok (.iastore, 1) := by decide +kernel
theorem dX12_emits_10 : decode cX12_emits 10 = .ok (.aload_n 0, 1) := by decide +kernel
theorem dX12_emits_11 : decode cX12_emits 11 = .ok (.getfield 26, 3) := by decide +kernel
theorem dX12_emits_14 : decode cX12_emits 14 = .ok (.aload_n 0, 1) := by decide +kernel
theorem dX12_emits_15 : decode cX12_emits 15 = .ok (.getfield 142, 3) := by decide +kernel
theorem dX12_emits_18 : decode cX12_emits 18 = .ok (.iload_n 2, 1) := by decide +kernel
theorem dX12_emits_19 : decode cX12_emits 19 = .ok (.iastore, 1) := by decide +kernel
theorem dX12_emits_20 : decode cX12_emits 20 = .ok (.aload_n 0, 1) := by decide +kernel
theorem dX12_emits_21 : decode cX12_emits 21 = .ok (.dup, 1) := by decide +kernel
theorem dX12_emits_22 : decode cX12_emits 22 = .ok (.getfield 142, 3) := by decide +kernel
theorem dX12_emits_25 : decode cX12_emits 25 = .ok (.iconst 1, 1) := by decide +kernel
theorem dX12_emits_26 : decode cX12_emits 26 = .ok (.iadd, 1) := by decide +kernel
theorem dX12_emits_27 : decode cX12_emits 27 = .ok (.putfield 142, 3) := by decide +kernel
theorem dX12_emits_30 : decode cX12_emits 30 = .ok (.return_, 1) := by decide +kernel
theorem dX12_jumps_0 : decode cX12_jumps 0 = .ok (.aload_n 0, 1) := by decide +kernel
theorem dX12_jumps_1 : decode cX12_jumps 1 = .ok (.getfield 20, 3) := by decide +kernel
theorem dX12_jumps_4 : decode cX12_jumps 4 = .ok (.aload_n 0, 1) := by decide +kernel
theorem dX12_jumps_5 : decode cX12_jumps 5 = .ok (.getfield 145, 3) := by decide +kernel
theorem dX12_jumps_8 : decode cX12_jumps 8 = .ok (.aload_n 0, 1) := by decide +kernel
theorem dX12_jumps_9 : decode cX12_jumps 9 = .ok (.getfield 142, 3) := by decide +kernel
theorem dX12_jumps_12 : decode cX12_jumps 12 = .ok (.iastore, 1) := by decide +kernel
theorem dX12_jumps_13 : decode cX12_jumps 13 = .ok (.aload_n 0, 1) := by decide +kernel
theorem dX12_jumps_14 : decode cX12_jumps 14 = .ok (.dup, 1) := by decide +kernel
theorem dX12_jumps_15 : decode cX12_jumps 15 = .ok (.getfield 145, 3) := by decide +kernel
theorem dX12_jumps_18 : decode cX12_jumps 18 = .ok (.iconst 1, 1) := by decide +kernel
theorem dX12_jumps_19 : decode cX12_jumps 19 = .ok (.iadd, 1) := by decide +kernel
theorem dX12_jumps_20 : decode cX12_jumps 20 = .ok (.putfield 145, 3) := by decide +kernel
theorem dX12_jumps_23 : decode cX12_jumps 23 = .ok (.aload_n 0, 1) := by decide +kernel
theorem dX12_jumps_24 : decode cX12_jumps 24 = .ok (.iload_n 1, 1) := by decide +kernel
theorem dX12_jumps_25 : decode cX12_jumps 25 = .ok (.iconst 0, 1) := by decide +kernel
theorem dX12_jumps_26 : decode cX12_jumps 26 = .ok (.invokevirtual 148, 3) := by decide +kernel
theorem dX12_jumps_29 : decode cX12_jumps 29 = .ok (.return_, 1) := by decide +kernel
theorem dX12_lands_0 : decode cX12_lands 0 = .ok (.aload_n 0, 1) := by decide +kernel
theorem dX12_lands_1 : decode cX12_lands 1 = .ok (.dup, 1) := by decide +kernel
theorem dX12_lands_2 : decode cX12_lands 2 = .ok (.getfield 145, 3) := by decide +kernel
theorem dX12_lands_5 : decode cX12_lands 5 = .ok (.iconst 1, 1) := by decide +kernel
theorem dX12_lands_6 : decode cX12_lands 6 = .ok (.isub, 1) := by decide +kernel
theorem dX12_lands_7 : decode cX12_lands 7 = .ok (.putfield 145, 3) := by decide +kernel
theorem dX12_lands_10 : decode cX12_lands 10 = .ok (.aload_n 0, 1) := by decide +kernel
theorem dX12_lands_11 : decode cX12_lands 11 = .ok (.getfield 26, 3) := by decide +kernel
theorem dX12_lands_14 : decode cX12_lands 14 = .ok (.aload_n 0, 1) := by decide +kernel
theorem dX12_lands_15 : decode cX12_lands 15 = .ok (.getfield 20, 3) := by decide +kernel
theorem dX12_lands_18 : decode cX12_lands 18 = .ok (.aload_n 0, 1) := by decide +kernel
theorem dX12_lands_19 : decode cX12_lands 19 = .ok (.getfield 145, 3) := by decide +kernel
theorem dX12_lands_22 : decode cX12_lands 22 = .ok (.iaload, 1) := by decide +kernel
theorem dX12_lands_23 : decode cX12_lands 23 = .ok (.aload_n 0, 1) := by decide +kernel
theorem dX12_lands_24 : decode cX12_lands 24 = .ok (.getfield 142, 3) := by decide +kernel
theorem dX12_lands_27 : decode cX12_lands 27 = .ok (.iastore, 1) := by decide +kernel
theorem dX12_lands_28 : decode cX12_lands 28 = .ok (.return_, 1) := by decide +kernel
theorem dX12_endsDays_0 : decode cX12_endsDays 0 = .ok (.aload_n 0, 1) := by decide +kernel
theorem dX12_endsDays_1 : decode cX12_endsDays 1 = .ok (.getfield 152, 3) := by decide +kernel
theorem dX12_endsDays_4 : decode cX12_endsDays 4 = .ok (.ifCond .eq 23, 3) := by decide +kernel
theorem dX12_endsDays_7 : decode cX12_endsDays 7 = .ok (.aload_n 0, 1) := by decide +kernel
theorem dX12_endsDays_8 : decode cX12_endsDays 8 = .ok (.getfield 156, 3) := by decide +kernel
theorem dX12_endsDays_11 : decode cX12_endsDays 11 = .ok (.ifCond .eq 16, 3) := by decide +kernel
theorem dX12_endsDays_14 : decode cX12_endsDays 14 = .ok (.aload_n 0, 1) := by decide +kernel
theorem dX12_endsDays_15 : decode cX12_endsDays 15 = .ok (.iconst 5, 1) := by decide +kernel
theorem dX12_endsDays_16 : decode cX12_endsDays 16 = .ok (.sipush 5000, 3) := by decide +kernel
theorem dX12_endsDays_19 : decode cX12_endsDays 19 = .ok (.aload_n 0, 1) := by decide +kernel
theorem dX12_endsDays_20 : decode cX12_endsDays 20 = .ok (.getfield 156, 3) := by decide +kernel
theorem dX12_endsDays_23 : decode cX12_endsDays 23 = .ok (.iadd, 1) := by decide +kernel
theorem dX12_endsDays_24 : decode cX12_endsDays 24 = .ok (.invokevirtual 148, 3) := by decide +kernel
theorem dX12_endsDays_27 : decode cX12_endsDays 27 = .ok (.aload_n 0, 1) := by decide +kernel
theorem dX12_endsDays_28 : decode cX12_endsDays 28 = .ok (.iconst 0, 1) := by decide +kernel
theorem dX12_endsDays_29 : decode cX12_endsDays 29 = .ok (.putfield 152, 3) := by decide +kernel
theorem dX12_endsDays_32 : decode cX12_endsDays 32 = .ok (.aload_n 0, 1) := by decide +kernel
theorem dX12_endsDays_33 : decode cX12_endsDays 33 = .ok (.iconst 0, 1) := by decide +kernel
theorem dX12_endsDays_34 : decode cX12_endsDays 34 = .ok (.putfield 156, 3) := by decide +kernel
theorem dX12_endsDays_37 : decode cX12_endsDays 37 = .ok (.return_, 1) := by decide +kernel
theorem dX12_pushFeast_0 : decode cX12_pushFeast 0 = .ok (.aload_n 0, 1) := by decide +kernel
theorem dX12_pushFeast_1 : decode cX12_pushFeast 1 = .ok (.bipush 19, 2) := by decide +kernel
theorem dX12_pushFeast_3 : decode cX12_pushFeast 3 = .ok (.iconst 0, 1) := by decide +kernel
theorem dX12_pushFeast_4 : decode cX12_pushFeast 4 = .ok (.invokevirtual 159, 3) := by decide +kernel
theorem dX12_pushFeast_7 : decode cX12_pushFeast 7 = .ok (.aload_n 0, 1) := by decide +kernel
theorem dX12_pushFeast_8 : decode cX12_pushFeast 8 = .ok (.bipush 18, 2) := by decide +kernel
theorem dX12_pushFeast_10 : decode cX12_pushFeast 10 = .ok (.iconst 0, 1) := by decide +kernel
theorem dX12_pushFeast_11 : decode cX12_pushFeast 11 = .ok (.invokevirtual 159, 3) := by decide +kernel
theorem dX12_pushFeast_14 : decode cX12_pushFeast 14 = .ok (.return_, 1) := by decide +kernel
theorem dX12_pushMonth_0 : decode cX12_pushMonth 0 = .ok (.aload_n 0, 1) := by decide +kernel
theorem dX12_pushMonth_1 : decode cX12_pushMonth 1 = .ok (.bipush 13, 2) := by decide +kernel
theorem dX12_pushMonth_3 : decode cX12_pushMonth 3 = .ok (.iconst 0, 1) := by decide +kernel
theorem dX12_pushMonth_4 : decode cX12_pushMonth 4 = .ok (.invokevirtual 159, 3) := by decide +kernel
theorem dX12_pushMonth_7 : decode cX12_pushMonth 7 = .ok (.aload_n 0, 1) := by decide +kernel
theorem dX12_pushMonth_8 : decode cX12_pushMonth 8 = .ok (.bipush 12, 2) := by decide +kernel
theorem dX12_pushMonth_10 : decode cX12_pushMonth 10 = .ok (.iconst 0, 1) := by decide +kernel
theorem dX12_pushMonth_11 : decode cX12_pushMonth 11 = .ok (.invokevirtual 159, 3) := by decide +kernel
theorem dX12_pushMonth_14 : decode cX12_pushMonth 14 = .ok (.return_, 1) := by decide +kernel
theorem dX12_pushDate_0 : decode cX12_pushDate 0 = .ok (.aload_n 0, 1) := by decide +kernel
theorem dX12_pushDate_1 : decode cX12_pushDate 1 = .ok (.bipush 15, 2) := by decide +kernel
theorem dX12_pushDate_3 : decode cX12_pushDate 3 = .ok (.iconst 0, 1) := by decide +kernel
theorem dX12_pushDate_4 : decode cX12_pushDate 4 = .ok (.invokevirtual 159, 3) := by decide +kernel
theorem dX12_pushDate_7 : decode cX12_pushDate 7 = .ok (.aload_n 0, 1) := by decide +kernel
theorem dX12_pushDate_8 : decode cX12_pushDate 8 = .ok (.bipush 14, 2) := by decide +kernel
theorem dX12_pushDate_10 : decode cX12_pushDate 10 = .ok (.iconst 0, 1) := by decide +kernel
theorem dX12_pushDate_11 : decode cX12_pushDate 11 = .ok (.invokevirtual 159, 3) := by decide +kernel
theorem dX12_pushDate_14 : decode cX12_pushDate 14 = .ok (.aload_n 0, 1) := by decide +kernel
theorem dX12_pushDate_15 : decode cX12_pushDate 15 = .ok (.invokevirtual 162, 3) := by decide +kernel
theorem dX12_pushDate_18 : decode cX12_pushDate 18 = .ok (.return_, 1) := by decide +kernel
theorem dX12_acts_0 : decode cX12_acts 0 = .ok (.aload_n 0, 1) := by decide +kernel
theorem dX12_acts_1 : decode cX12_acts 1 = .ok (.getfield 139, 3) := by decide +kernel
theorem dX12_acts_4 : decode cX12_acts 4 = .ok (.ifCond .le 54, 3) := by decide +kernel
theorem dX12_acts_7 : decode cX12_acts 7 = .ok (.aload_n 0, 1) := by decide +kernel
theorem dX12_acts_8 : decode cX12_acts 8 = .ok (.getfield 13, 3) := by decide +kernel
theorem dX12_acts_11 : decode cX12_acts 11 = .ok (.aload_n 0, 1) := by decide +kernel
theorem dX12_acts_12 : decode cX12_acts 12 = .ok (.getfield 139, 3) := by decide +kernel
theorem dX12_acts_15 : decode cX12_acts 15 = .ok (.iconst 1, 1) := by decide +kernel
theorem dX12_acts_16 : decode cX12_acts 16 = .ok (.isub, 1) := by decide +kernel
theorem dX12_acts_17 : decode cX12_acts 17 = .ok (.iaload, 1) := by decide +kernel
theorem dX12_acts_18 : decode cX12_acts 18 = .ok (.bipush 10, 2) := by decide +kernel
theorem dX12_acts_20 : decode cX12_acts 20 = .ok (.if_icmp .ne 38, 3) := by decide +kernel
theorem dX12_acts_23 : decode cX12_acts 23 = .ok (.aload_n 0, 1) := by decide +kernel
theorem dX12_acts_24 : decode cX12_acts 24 = .ok (.dup, 1) := by decide +kernel
theorem dX12_acts_25 : decode cX12_acts 25 = .ok (.getfield 139, 3) := by decide +kernel
theorem dX12_acts_28 : decode cX12_acts 28 = .ok (.iconst 1, 1) := by decide +kernel
theorem dX12_acts_29 : decode cX12_acts 29 = .ok (.isub, 1) := by decide +kernel
theorem dX12_acts_30 : decode cX12_acts 30 = .ok (.putfield 139, 3) := by decide +kernel
theorem dX12_acts_33 : decode cX12_acts 33 = .ok (.aload_n 0, 1) := by decide +kernel
theorem dX12_acts_34 : decode cX12_acts 34 = .ok (.aload_n 0, 1) := by decide +kernel
theorem dX12_acts_35 : decode cX12_acts 35 = .ok (.getfield 17, 3) := by decide +kernel
theorem dX12_acts_38 : decode cX12_acts 38 = .ok (.aload_n 0, 1) := by decide +kernel
theorem dX12_acts_39 : decode cX12_acts 39 = .ok (.getfield 139, 3) := by decide +kernel
theorem dX12_acts_42 : decode cX12_acts 42 = .ok (.iaload, 1) := by decide +kernel
theorem dX12_acts_43 : decode cX12_acts 43 = .ok (.aload_n 0, 1) := by decide +kernel
theorem dX12_acts_44 : decode cX12_acts 44 = .ok (.getfield 165, 3) := by decide +kernel
theorem dX12_acts_47 : decode cX12_acts 47 = .ok (.invokevirtual 148, 3) := by decide +kernel
theorem dX12_acts_50 : decode cX12_acts 50 = .ok (.aload_n 0, 1) := by decide +kernel
theorem dX12_acts_51 : decode cX12_acts 51 = .ok (.iconst 0, 1) := by decide +kernel
theorem dX12_acts_52 : decode cX12_acts 52 = .ok (.putfield 165, 3) := by decide +kernel
theorem dX12_acts_55 : decode cX12_acts 55 = .ok (.goto (-55), 3) := by decide +kernel
theorem dX12_acts_58 : decode cX12_acts 58 = .ok (.return_, 1) := by decide +kernel
theorem dX12_takesDigit_0 : decode cX12_takesDigit 0 = .ok (.iload_n 2, 1) := by decide +kernel
theorem dX12_takesDigit_1 : decode cX12_takesDigit 1 = .ok (.bipush 48, 2) := by decide +kernel
theorem dX12_takesDigit_3 : decode cX12_takesDigit 3 = .ok (.isub, 1) := by decide +kernel
theorem dX12_takesDigit_4 : decode cX12_takesDigit 4 = .ok (.istore_n 3, 1) := by decide +kernel
theorem dX12_takesDigit_5 : decode cX12_takesDigit 5 = .ok (.aload_n 0, 1) := by decide +kernel
theorem dX12_takesDigit_6 : decode cX12_takesDigit 6 = .ok (.getfield 168, 3) := by decide +kernel
theorem dX12_takesDigit_9 : decode cX12_takesDigit 9 = .ok (.ifCond .ne 7, 3) := by decide +kernel
theorem dX12_takesDigit_12 : decode cX12_takesDigit 12 = .ok (.iconst 1, 1) := by decide +kernel
theorem dX12_takesDigit_13 : decode cX12_takesDigit 13 = .ok (.goto 7, 3) := by decide +kernel
theorem dX12_takesDigit_16 : decode cX12_takesDigit 16 = .ok (.aload_n 0, 1) := by decide +kernel
theorem dX12_takesDigit_17 : decode cX12_takesDigit 17 = .ok (.getfield 168, 3) := by decide +kernel
theorem dX12_takesDigit_20 : decode cX12_takesDigit 20 = .ok (.iconst 1, 1) := by decide +kernel
theorem dX12_takesDigit_21 : decode cX12_takesDigit 21 = .ok (.invokestatic 101, 3) := by decide +kernel
theorem dX12_takesDigit_24 : decode cX12_takesDigit 24 = .ok (.istore 4, 2) := by decide +kernel
theorem dX12_takesDigit_26 : decode cX12_takesDigit 26 = .ok (.iload_n 3, 1) := by decide +kernel
theorem dX12_takesDigit_27 : decode cX12_takesDigit 27 = .ok (.iconst 0, 1) := by decide +kernel
theorem dX12_takesDigit_28 : decode cX12_takesDigit 28 = .ok (.bipush 9, 2) := by decide +kernel
theorem dX12_takesDigit_30 : decode cX12_takesDigit 30 = .ok (.invokestatic 115, 3) := by decide +kernel
theorem dX12_takesDigit_33 : decode cX12_takesDigit 33 = .ok (.istore 5, 2) := by decide +kernel
theorem dX12_takesDigit_35 : decode cX12_takesDigit 35 = .ok (.iload_n 1, 1) := by decide +kernel
theorem dX12_takesDigit_36 : decode cX12_takesDigit 36 = .ok (.bipush 12, 2) := by decide +kernel
theorem dX12_takesDigit_38 : decode cX12_takesDigit 38 = .ok (.if_icmp .ne 23, 3) := by decide +kernel
theorem dX12_takesDigit_41 : decode cX12_takesDigit 41 = .ok (.iload 5, 2) := by decide +kernel
theorem dX12_takesDigit_43 : decode cX12_takesDigit 43 = .ok (.ifCond .eq 12, 3) := by decide +kernel
theorem dX12_takesDigit_46 : decode cX12_takesDigit 46 = .ok (.iload_n 3, 1) := by decide +kernel
theorem dX12_takesDigit_47 : decode cX12_takesDigit 47 = .ok (.iconst 1, 1) := by decide +kernel
theorem dX12_takesDigit_48 : decode cX12_takesDigit 48 = .ok (.if_icmp .gt 7, 3) := by decide +kernel
theorem dX12_takesDigit_51 : decode cX12_takesDigit 51 = .ok (.iconst 1, 1) := by decide +kernel
theorem dX12_takesDigit_52 : decode cX12_takesDigit 52 = .ok (.goto 4, 3) := by decide +kernel
theorem dX12_takesDigit_55 : decode cX12_takesDigit 55 = .ok (.iconst 0, 1) := by decide +kernel
theorem dX12_takesDigit_56 : decode cX12_takesDigit 56 = .ok (.istore 5, 2) := by decide +kernel
theorem dX12_takesDigit_58 : decode cX12_takesDigit 58 = .ok (.goto 201, 3) := by decide +kernel
theorem dX12_takesDigit_61 : decode cX12_takesDigit 61 = .ok (.iload_n 1, 1) := by decide +kernel
theorem dX12_takesDigit_62 : decode cX12_takesDigit 62 = .ok (.bipush 13, 2) := by decide +kernel
theorem dX12_takesDigit_64 : decode cX12_takesDigit 64 = .ok (.if_icmp .ne 37, 3) := by decide +kernel
theorem dX12_takesDigit_67 : decode cX12_takesDigit 67 = .ok (.iload 5, 2) := by decide +kernel
theorem dX12_takesDigit_69 : decode cX12_takesDigit 69 = .ok (.ifCond .eq 26, 3) := by decide +kernel
theorem dX12_takesDigit_72 : decode cX12_takesDigit 72 = .ok (.aload_n 0, 1) := by decide +kernel
theorem dX12_takesDigit_73 : decode cX12_takesDigit 73 = .ok (.getfield 171, 3) := by decide +kernel
theorem dX12_takesDigit_76 : decode cX12_takesDigit 76 = .ok (.ifCond .ne 10, 3) := by decide +kernel
theorem dX12_takesDigit_79 : decode cX12_takesDigit 79 = .ok (.iload_n 3, 1) := by decide +kernel
theorem dX12_takesDigit_80 : decode cX12_takesDigit 80 = .ok (.ifCond .le 15, 3) := by decide +kernel
theorem dX12_takesDigit_83 : decode cX12_takesDigit 83 = .ok (.goto 8, 3) := by decide +kernel
theorem dX12_takesDigit_86 : decode cX12_takesDigit 86 = .ok (.iload_n 3, 1) := by decide +kernel
theorem dX12_takesDigit_87 : decode cX12_takesDigit 87 = .ok (.iconst 2, 1) := by decide +kernel
theorem dX12_takesDigit_88 : decode cX12_takesDigit 88 = .ok (.if_icmp .gt 7, 3) := by decide +kernel
theorem dX12_takesDigit_91 : decode cX12_takesDigit 91 = .ok (.iconst 1, 1) := by decide +kernel
theorem dX12_takesDigit_92 : decode cX12_takesDigit 92 = .ok (.goto 4, 3) := by decide +kernel
theorem dX12_takesDigit_95 : decode cX12_takesDigit 95 = .ok (.iconst 0, 1) := by decide +kernel
theorem dX12_takesDigit_96 : decode cX12_takesDigit 96 = .ok (.istore 5, 2) := by decide +kernel
theorem dX12_takesDigit_98 : decode cX12_takesDigit 98 = .ok (.goto 161, 3) := by decide +kernel
theorem dX12_takesDigit_101 : decode cX12_takesDigit 101 = .ok (.iload_n 1, 1) := by decide +kernel
theorem dX12_takesDigit_102 : decode cX12_takesDigit 102 = .ok (.bipush 14, 2) := by decide +kernel
theorem dX12_takesDigit_104 : decode cX12_takesDigit 104 = .ok (.if_icmp .ne 27, 3) := by decide +kernel
theorem dX12_takesDigit_107 : decode cX12_takesDigit 107 = .ok (.iload 5, 2) := by decide +kernel
theorem dX12_takesDigit_109 : decode cX12_takesDigit 109 = .ok (.ifCond .eq 16, 3) := by decide +kernel
theorem dX12_takesDigit_112 : decode cX12_takesDigit 112 = .ok (.iload_n 3, 1) := by decide +kernel
theorem dX12_takesDigit_113 : decode cX12_takesDigit 113 = .ok (.iload 4, 2) := by decide +kernel
theorem dX12_takesDigit_115 : decode cX12_takesDigit 115 = .ok (.bipush 10, 2) := by decide +kernel
theorem dX12_takesDigit_117 : decode cX12_takesDigit 117 = .ok (.idiv, 1) := by decide +kernel
theorem dX12_takesDigit_118 : decode cX12_takesDigit 118 = .ok (.if_icmp .gt 7, 3) := by decide +kernel
theorem dX12_takesDigit_121 : decode cX12_takesDigit 121 = .ok (.iconst 1, 1) := by decide +kernel
theorem dX12_takesDigit_122 : decode cX12_takesDigit 122 = .ok (.goto 4, 3) := by decide +kernel
theorem dX12_takesDigit_125 : decode cX12_takesDigit 125 = .ok (.iconst 0, 1) := by decide +kernel
theorem dX12_takesDigit_126 : decode cX12_takesDigit 126 = .ok (.istore 5, 2) := by decide +kernel
theorem dX12_takesDigit_128 : decode cX12_takesDigit 128 = .ok (.goto 131, 3) := by decide +kernel
theorem dX12_takesDigit_131 : decode cX12_takesDigit 131 = .ok (.iload_n 1, 1) := by decide +kernel
theorem dX12_takesDigit_132 : decode cX12_takesDigit 132 = .ok (.bipush 15, 2) := by decide +kernel
theorem dX12_takesDigit_134 : decode cX12_takesDigit 134 = .ok (.if_icmp .ne 45, 3) := by decide +kernel
theorem dX12_takesDigit_137 : decode cX12_takesDigit 137 = .ok (.iload 5, 2) := by decide +kernel
theorem dX12_takesDigit_139 : decode cX12_takesDigit 139 = .ok (.ifCond .eq 34, 3) := by decide +kernel
theorem dX12_takesDigit_142 : decode cX12_takesDigit 142 = .ok (.bipush 10, 2) := by decide +kernel
theorem dX12_takesDigit_144 : decode cX12_takesDigit 144 = .ok (.aload_n 0, 1) := by decide +kernel
theorem dX12_takesDigit_145 : decode cX12_takesDigit 145 = .ok (.getfield 171, 3) := by decide +kernel
theorem dX12_takesDigit_148 : decode cX12_takesDigit 148 = .ok (.imul, 1) := by decide +kernel
theorem dX12_takesDigit_149 : decode cX12_takesDigit 149 = .ok (.iload_n 3, 1) := by decide +kernel
theorem dX12_takesDigit_150 : decode cX12_takesDigit 150 = .ok (.iadd, 1) := by decide +kernel
theorem dX12_takesDigit_151 : decode cX12_takesDigit 151 = .ok (.iconst 1, 1) := by decide +kernel
theorem dX12_takesDigit_152 : decode cX12_takesDigit 152 = .ok (.if_icmp .lt 21, 3) := by decide +kernel
theorem dX12_takesDigit_155 : decode cX12_takesDigit 155 = .ok (.bipush 10, 2) := by decide +kernel
theorem dX12_takesDigit_157 : decode cX12_takesDigit 157 = .ok (.aload_n 0, 1) := by decide +kernel
theorem dX12_takesDigit_158 : decode cX12_takesDigit 158 = .ok (.getfield 171, 3) := by decide +kernel
theorem dX12_takesDigit_161 : decode cX12_takesDigit 161 = .ok (.imul, 1) := by decide +kernel
theorem dX12_takesDigit_162 : decode cX12_takesDigit 162 = .ok (.iload_n 3, 1) := by decide +kernel
theorem dX12_takesDigit_163 : decode cX12_takesDigit 163 = .ok (.iadd, 1) := by decide +kernel
theorem dX12_takesDigit_164 : decode cX12_takesDigit 164 = .ok (.iload 4, 2) := by decide +kernel
theorem dX12_takesDigit_166 : decode cX12_takesDigit 166 = .ok (.if_icmp .gt 7, 3) := by decide +kernel
theorem dX12_takesDigit_169 : decode cX12_takesDigit 169 = .ok (.iconst 1, 1) := by decide +kernel
theorem dX12_takesDigit_170 : decode cX12_takesDigit 170 = .ok (.goto 4, 3) := by decide +kernel
theorem dX12_takesDigit_173 : decode cX12_takesDigit 173 = .ok (.iconst 0, 1) := by decide +kernel
theorem dX12_takesDigit_174 : decode cX12_takesDigit 174 = .ok (.istore 5, 2) := by decide +kernel
theorem dX12_takesDigit_176 : decode cX12_takesDigit 176 = .ok (.goto 83, 3) := by decide +kernel
theorem dX12_takesDigit_179 : decode cX12_takesDigit 179 = .ok (.iload_n 1, 1) := by decide +kernel
theorem dX12_takesDigit_180 : decode cX12_takesDigit 180 = .ok (.bipush 16, 2) := by decide +kernel
theorem dX12_takesDigit_182 : decode cX12_takesDigit 182 = .ok (.if_icmp .ne 27, 3) := by decide +kernel
theorem dX12_takesDigit_185 : decode cX12_takesDigit 185 = .ok (.iload 5, 2) := by decide +kernel
theorem dX12_takesDigit_187 : decode cX12_takesDigit 187 = .ok (.ifCond .eq 16, 3) := by decide +kernel
theorem dX12_takesDigit_190 : decode cX12_takesDigit 190 = .ok (.iload_n 3, 1) := by decide +kernel
theorem dX12_takesDigit_191 : decode cX12_takesDigit 191 = .ok (.iconst 1, 1) := by decide +kernel
theorem dX12_takesDigit_192 : decode cX12_takesDigit 192 = .ok (.iconst 5, 1) := by decide +kernel
theorem dX12_takesDigit_193 : decode cX12_takesDigit 193 = .ok (.invokestatic 115, 3) := by decide +kernel
theorem dX12_takesDigit_196 : decode cX12_takesDigit 196 = .ok (.ifCond .eq 7, 3) := by decide +kernel
theorem dX12_takesDigit_199 : decode cX12_takesDigit 199 = .ok (.iconst 1, 1) := by decide +kernel
theorem dX12_takesDigit_200 : decode cX12_takesDigit 200 = .ok (.goto 4, 3) := by decide +kernel
theorem dX12_takesDigit_203 : decode cX12_takesDigit 203 = .ok (.iconst 0, 1) := by decide +kernel
theorem dX12_takesDigit_204 : decode cX12_takesDigit 204 = .ok (.istore 5, 2) := by decide +kernel
theorem dX12_takesDigit_206 : decode cX12_takesDigit 206 = .ok (.goto 53, 3) := by decide +kernel
theorem dX12_takesDigit_209 : decode cX12_takesDigit 209 = .ok (.iload_n 1, 1) := by decide +kernel
theorem dX12_takesDigit_210 : decode cX12_takesDigit 210 = .ok (.bipush 17, 2) := by decide +kernel
theorem dX12_takesDigit_212 : decode cX12_takesDigit 212 = .ok (.if_icmp .ne 24, 3) := by decide +kernel
theorem dX12_takesDigit_215 : decode cX12_takesDigit 215 = .ok (.iload 5, 2) := by decide +kernel
theorem dX12_takesDigit_217 : decode cX12_takesDigit 217 = .ok (.ifCond .eq 13, 3) := by decide +kernel
theorem dX12_takesDigit_220 : decode cX12_takesDigit 220 = .ok (.iload_n 3, 1) := by decide +kernel
theorem dX12_takesDigit_221 : decode cX12_takesDigit 221 = .ok (.bipush 6, 2) := by decide +kernel
theorem dX12_takesDigit_223 : decode cX12_takesDigit 223 = .ok (.if_icmp .gt 7, 3) := by decide +kernel
theorem dX12_takesDigit_226 : decode cX12_takesDigit 226 = .ok (.iconst 1, 1) := by decide +kernel
theorem dX12_takesDigit_227 : decode cX12_takesDigit 227 = .ok (.goto 4, 3) := by decide +kernel
theorem dX12_takesDigit_230 : decode cX12_takesDigit 230 = .ok (.iconst 0, 1) := by decide +kernel
theorem dX12_takesDigit_231 : decode cX12_takesDigit 231 = .ok (.istore 5, 2) := by decide +kernel
theorem dX12_takesDigit_233 : decode cX12_takesDigit 233 = .ok (.goto 26, 3) := by decide +kernel
theorem dX12_takesDigit_236 : decode cX12_takesDigit 236 = .ok (.iload_n 1, 1) := by decide +kernel
theorem dX12_takesDigit_237 : decode cX12_takesDigit 237 = .ok (.bipush 18, 2) := by decide +kernel
theorem dX12_takesDigit_239 : decode cX12_takesDigit 239 = .ok (.if_icmp .ne 20, 3) := by decide +kernel
theorem dX12_takesDigit_242 : decode cX12_takesDigit 242 = .ok (.iload 5, 2) := by decide +kernel
theorem dX12_takesDigit_244 : decode cX12_takesDigit 244 = .ok (.ifCond .eq 12, 3) := by decide +kernel
theorem dX12_takesDigit_247 : decode cX12_takesDigit 247 = .ok (.iload_n 3, 1) := by decide +kernel
theorem dX12_takesDigit_248 : decode cX12_takesDigit 248 = .ok (.iconst 1, 1) := by decide +kernel
theorem dX12_takesDigit_249 : decode cX12_takesDigit 249 = .ok (.if_icmp .gt 7, 3) := by decide +kernel
theorem dX12_takesDigit_252 : decode cX12_takesDigit 252 = .ok (.iconst 1, 1) := by decide +kernel
theorem dX12_takesDigit_253 : decode cX12_takesDigit 253 = .ok (.goto 4, 3) := by decide +kernel
theorem dX12_takesDigit_256 : decode cX12_takesDigit 256 = .ok (.iconst 0, 1) := by decide +kernel
theorem dX12_takesDigit_257 : decode cX12_takesDigit 257 = .ok (.istore 5, 2) := by decide +kernel
theorem dX12_takesDigit_259 : decode cX12_takesDigit 259 = .ok (.iload 5, 2) := by decide +kernel
theorem dX12_takesDigit_261 : decode cX12_takesDigit 261 = .ok (.ifCond .eq 57, 3) := by decide +kernel
theorem dX12_takesDigit_264 : decode cX12_takesDigit 264 = .ok (.aload_n 0, 1) := by decide +kernel
theorem dX12_takesDigit_265 : decode cX12_takesDigit 265 = .ok (.iload_n 1, 1) := by decide +kernel
theorem dX12_takesDigit_266 : decode cX12_takesDigit 266 = .ok (.bipush 13, 2) := by decide +kernel
theorem dX12_takesDigit_268 : decode cX12_takesDigit 268 = .ok (.if_icmp .ne 15, 3) := by decide +kernel
theorem dX12_takesDigit_271 : decode cX12_takesDigit 271 = .ok (.bipush 10, 2) := by decide +kernel
theorem dX12_takesDigit_273 : decode cX12_takesDigit 273 = .ok (.aload_n 0, 1) := by decide +kernel
theorem dX12_takesDigit_274 : decode cX12_takesDigit 274 = .ok (.getfield 171, 3) := by decide +kernel
theorem dX12_takesDigit_277 : decode cX12_takesDigit 277 = .ok (.imul, 1) := by decide +kernel
theorem dX12_takesDigit_278 : decode cX12_takesDigit 278 = .ok (.iload_n 3, 1) := by decide +kernel
theorem dX12_takesDigit_279 : decode cX12_takesDigit 279 = .ok (.iadd, 1) := by decide +kernel
theorem dX12_takesDigit_280 : decode cX12_takesDigit 280 = .ok (.goto 7, 3) := by decide +kernel
theorem dX12_takesDigit_283 : decode cX12_takesDigit 283 = .ok (.aload_n 0, 1) := by decide +kernel
theorem dX12_takesDigit_284 : decode cX12_takesDigit 284 = .ok (.getfield 168, 3) := by decide +kernel
theorem dX12_takesDigit_287 : decode cX12_takesDigit 287 = .ok (.putfield 168, 3) := by decide +kernel
theorem dX12_takesDigit_290 : decode cX12_takesDigit 290 = .ok (.aload_n 0, 1) := by decide +kernel
theorem dX12_takesDigit_291 : decode cX12_takesDigit 291 = .ok (.iload_n 3, 1) := by decide +kernel
theorem dX12_takesDigit_292 : decode cX12_takesDigit 292 = .ok (.putfield 171, 3) := by decide +kernel
theorem dX12_takesDigit_295 : decode cX12_takesDigit 295 = .ok (.aload_n 0, 1) := by decide +kernel
theorem dX12_takesDigit_296 : decode cX12_takesDigit 296 = .ok (.bipush 10, 2) := by decide +kernel
theorem dX12_takesDigit_298 : decode cX12_takesDigit 298 = .ok (.aload_n 0, 1) := by decide +kernel
theorem dX12_takesDigit_299 : decode cX12_takesDigit 299 = .ok (.getfield 165, 3) := by decide +kernel
theorem dX12_takesDigit_302 : decode cX12_takesDigit 302 = .ok (.imul, 1) := by decide +kernel
theorem dX12_takesDigit_303 : decode cX12_takesDigit 303 = .ok (.iload_n 3, 1) := by decide +kernel
theorem dX12_takesDigit_304 : decode cX12_takesDigit 304 = .ok (.iadd, 1) := by decide +kernel
theorem dX12_takesDigit_305 : decode cX12_takesDigit 305 = .ok (.putfield 165, 3) := by decide +kernel
theorem dX12_takesDigit_308 : decode cX12_takesDigit 308 = .ok (.aload_n 0, 1) := by decide +kernel
theorem dX12_takesDigit_309 : decode cX12_takesDigit 309 = .ok (.dup, 1) := by decide +kernel
theorem dX12_takesDigit_310 : decode cX12_takesDigit 310 = .ok (.getfield 139, 3) := by decide +kernel
theorem dX12_takesDigit_313 : decode cX12_takesDigit 313 = .ok (.iconst 1, 1) := by decide +kernel
theorem dX12_takesDigit_314 : decode cX12_takesDigit 314 = .ok (.isub, 1) := by decide +kernel
theorem dX12_takesDigit_315 : decode cX12_takesDigit 315 = .ok (.putfield 139, 3) := by decide +kernel
theorem dX12_takesDigit_318 : decode cX12_takesDigit 318 = .ok (.iload 5, 2) := by decide +kernel
theorem dX12_takesDigit_320 : decode cX12_takesDigit 320 = .ok (.ireturn, 1) := by decide +kernel
theorem dX12_takesStart_0 : decode cX12_takesStart 0 = .ok (.aload_n 0, 1) := by decide +kernel
theorem dX12_takesStart_1 : decode cX12_takesStart 1 = .ok (.dup, 1) := by decide +kernel
theorem dX12_takesStart_2 : decode cX12_takesStart 2 = .ok (.getfield 139, 3) := by decide +kernel
theorem dX12_takesStart_5 : decode cX12_takesStart 5 = .ok (.iconst 1, 1) := by decide +kernel
theorem dX12_takesStart_6 : decode cX12_takesStart 6 = .ok (.isub, 1) := by decide +kernel
theorem dX12_takesStart_7 : decode cX12_takesStart 7 = .ok (.putfield 139, 3) := by decide +kernel
theorem dX12_takesStart_10 : decode cX12_takesStart 10 = .ok (.aload_n 0, 1) := by decide +kernel
theorem dX12_takesStart_11 : decode cX12_takesStart 11 = .ok (.iconst 1, 1) := by decide +kernel
theorem dX12_takesStart_12 : decode cX12_takesStart 12 = .ok (.iconst 0, 1) := by decide +kernel
theorem dX12_takesStart_13 : decode cX12_takesStart 13 = .ok (.invokevirtual 159, 3) := by decide +kernel
theorem dX12_takesStart_16 : decode cX12_takesStart 16 = .ok (.iload_n 1, 1) := by decide +kernel
theorem dX12_takesStart_17 : decode cX12_takesStart 17 = .ok (.bipush 68, 2) := by decide +kernel
theorem dX12_takesStart_19 : decode cX12_takesStart 19 = .ok (.if_icmp .ne 17, 3) := by decide +kernel
theorem dX12_takesStart_22 : decode cX12_takesStart 22 = .ok (.aload_n 0, 1) := by decide +kernel
theorem dX12_takesStart_23 : decode cX12_takesStart 23 = .ok (.bipush 10, 2) := by decide +kernel
theorem dX12_takesStart_25 : decode cX12_takesStart 25 = .ok (.iconst 1, 1) := by decide +kernel
theorem dX12_takesStart_26 : decode cX12_takesStart 26 = .ok (.invokevirtual 159, 3) := by decide +kernel
theorem dX12_takesStart_29 : decode cX12_takesStart 29 = .ok (.aload_n 0, 1) := by decide +kernel
theorem dX12_takesStart_30 : decode cX12_takesStart 30 = .ok (.invokevirtual 174, 3) := by decide +kernel
theorem dX12_takesStart_33 : decode cX12_takesStart 33 = .ok (.goto 86, 3) := by decide +kernel
theorem dX12_takesStart_36 : decode cX12_takesStart 36 = .ok (.iload_n 1, 1) := by decide +kernel
theorem dX12_takesStart_37 : decode cX12_takesStart 37 = .ok (.bipush 78, 2) := by decide +kernel
theorem dX12_takesStart_39 : decode cX12_takesStart 39 = .ok (.if_icmp .ne 31, 3) := by decide +kernel
theorem dX12_takesStart_42 : decode cX12_takesStart 42 = .ok (.aload_n 0, 1) := by decide +kernel
theorem dX12_takesStart_43 : decode cX12_takesStart 43 = .ok (.bipush 10, 2) := by decide +kernel
theorem dX12_takesStart_45 : decode cX12_takesStart 45 = .ok (.iconst 2, 1) := by decide +kernel
theorem dX12_takesStart_46 : decode cX12_takesStart 46 = .ok (.invokevirtual 159, 3) := by decide +kernel
theorem dX12_takesStart_49 : decode cX12_takesStart 49 = .ok (.aload_n 0, 1) := by decide +kernel
theorem dX12_takesStart_50 : decode cX12_takesStart 50 = .ok (.invokevirtual 162, 3) := by decide +kernel
theorem dX12_takesStart_53 : decode cX12_takesStart 53 = .ok (.aload_n 0, 1) := by decide +kernel
theorem dX12_takesStart_54 : decode cX12_takesStart 54 = .ok (.bipush 17, 2) := by decide +kernel
theorem dX12_takesStart_56 : decode cX12_takesStart 56 = .ok (.iconst 0, 1) := by decide +kernel
theorem dX12_takesStart_57 : decode cX12_takesStart 57 = .ok (.invokevirtual 159, 3) := by decide +kernel
theorem dX12_takesStart_60 : decode cX12_takesStart 60 = .ok (.aload_n 0, 1) := by decide +kernel
theorem dX12_takesStart_61 : decode cX12_takesStart 61 = .ok (.bipush 16, 2) := by decide +kernel
theorem dX12_takesStart_63 : decode cX12_takesStart 63 = .ok (.iconst 0, 1) := by decide +kernel
theorem dX12_takesStart_64 : decode cX12_takesStart 64 = .ok (.invokevirtual 159, 3) := by decide +kernel
theorem dX12_takesStart_67 : decode cX12_takesStart 67 = .ok (.goto 52, 3) := by decide +kernel
theorem dX12_takesStart_70 : decode cX12_takesStart 70 = .ok (.iload_n 1, 1) := by decide +kernel
theorem dX12_takesStart_71 : decode cX12_takesStart 71 = .ok (.bipush 76, 2) := by decide +kernel
theorem dX12_takesStart_73 : decode cX12_takesStart 73 = .ok (.if_icmp .ne 24, 3) := by decide +kernel
theorem dX12_takesStart_76 : decode cX12_takesStart 76 = .ok (.aload_n 0, 1) := by decide +kernel
theorem dX12_takesStart_77 : decode cX12_takesStart 77 = .ok (.bipush 10, 2) := by decide +kernel
theorem dX12_takesStart_79 : decode cX12_takesStart 79 = .ok (.iconst 3, 1) := by decide +kernel
theorem dX12_takesStart_80 : decode cX12_takesStart 80 = .ok (.invokevirtual 159, 3) := by decide +kernel
theorem dX12_takesStart_83 : decode cX12_takesStart 83 = .ok (.aload_n 0, 1) := by decide +kernel
theorem dX12_takesStart_84 : decode cX12_takesStart 84 = .ok (.invokevirtual 162, 3) := by decide +kernel
theorem dX12_takesStart_87 : decode cX12_takesStart 87 = .ok (.aload_n 0, 1) := by decide +kernel
theorem dX12_takesStart_88 : decode cX12_takesStart 88 = .ok (.bipush 17, 2) := by decide +kernel
theorem dX12_takesStart_90 : decode cX12_takesStart 90 = .ok (.iconst 0, 1) := by decide +kernel
theorem dX12_takesStart_91 : decode cX12_takesStart 91 = .ok (.invokevirtual 159, 3) := by decide +kernel
theorem dX12_takesStart_94 : decode cX12_takesStart 94 = .ok (.goto 25, 3) := by decide +kernel
theorem dX12_takesStart_97 : decode cX12_takesStart 97 = .ok (.iload_n 1, 1) := by decide +kernel
theorem dX12_takesStart_98 : decode cX12_takesStart 98 = .ok (.bipush 70, 2) := by decide +kernel
theorem dX12_takesStart_100 : decode cX12_takesStart 100 = .ok (.if_icmp .ne 17, 3) := by decide +kernel
theorem dX12_takesStart_103 : decode cX12_takesStart 103 = .ok (.aload_n 0, 1) := by decide +kernel
theorem dX12_takesStart_104 : decode cX12_takesStart 104 = .ok (.bipush 10, 2) := by decide +kernel
theorem dX12_takesStart_106 : decode cX12_takesStart 106 = .ok (.iconst 4, 1) := by decide +kernel
theorem dX12_takesStart_107 : decode cX12_takesStart 107 = .ok (.invokevirtual 159, 3) := by decide +kernel
theorem dX12_takesStart_110 : decode cX12_takesStart 110 = .ok (.aload_n 0, 1) := by decide +kernel
theorem dX12_takesStart_111 : decode cX12_takesStart 111 = .ok (.invokevirtual 177, 3) := by decide +kernel
theorem dX12_takesStart_114 : decode cX12_takesStart 114 = .ok (.goto 5, 3) := by decide +kernel
theorem dX12_takesStart_117 : decode cX12_takesStart 117 = .ok (.iconst 0, 1) := by decide +kernel
theorem dX12_takesStart_118 : decode cX12_takesStart 118 = .ok (.ireturn, 1) := by decide +kernel
theorem dX12_takesStart_119 : decode cX12_takesStart 119 = .ok (.iconst 1, 1) := by decide +kernel
theorem dX12_takesStart_120 : decode cX12_takesStart 120 = .ok (.ireturn, 1) := by decide +kernel
theorem dX12_takesStep_0 : decode cX12_takesStep 0 = .ok (.iload_n 1, 1) := by decide +kernel
theorem dX12_takesStep_1 : decode cX12_takesStep 1 = .ok (.bipush 43, 2) := by decide +kernel
theorem dX12_takesStep_3 : decode cX12_takesStep 3 = .ok (.if_icmp .eq 9, 3) := by decide +kernel
theorem dX12_takesStep_6 : decode cX12_takesStep 6 = .ok (.iload_n 1, 1) := by decide +kernel
theorem dX12_takesStep_7 : decode cX12_takesStep 7 = .ok (.bipush 45, 2) := by decide +kernel
theorem dX12_takesStep_9 : decode cX12_takesStep 9 = .ok (.if_icmp .ne 37, 3) := by decide +kernel
theorem dX12_takesStep_12 : decode cX12_takesStep 12 = .ok (.aload_n 0, 1) := by decide +kernel
theorem dX12_takesStep_13 : decode cX12_takesStep 13 = .ok (.iconst 1, 1) := by decide +kernel
theorem dX12_takesStep_14 : decode cX12_takesStep 14 = .ok (.putfield 152, 3) := by decide +kernel
theorem dX12_takesStep_17 : decode cX12_takesStep 17 = .ok (.aload_n 0, 1) := by decide +kernel
theorem dX12_takesStep_18 : decode cX12_takesStep 18 = .ok (.iconst 0, 1) := by decide +kernel
theorem dX12_takesStep_19 : decode cX12_takesStep 19 = .ok (.putfield 180, 3) := by decide +kernel
theorem dX12_takesStep_22 : decode cX12_takesStep 22 = .ok (.aload_n 0, 1) := by decide +kernel
theorem dX12_takesStep_23 : decode cX12_takesStep 23 = .ok (.iconst 0, 1) := by decide +kernel
theorem dX12_takesStep_24 : decode cX12_takesStep 24 = .ok (.putfield 183, 3) := by decide +kernel
theorem dX12_takesStep_27 : decode cX12_takesStep 27 = .ok (.aload_n 0, 1) := by decide +kernel
theorem dX12_takesStep_28 : decode cX12_takesStep 28 = .ok (.bipush 11, 2) := by decide +kernel
theorem dX12_takesStep_30 : decode cX12_takesStep 30 = .ok (.iload_n 1, 1) := by decide +kernel
theorem dX12_takesStep_31 : decode cX12_takesStep 31 = .ok (.bipush 43, 2) := by decide +kernel
theorem dX12_takesStep_33 : decode cX12_takesStep 33 = .ok (.if_icmp .ne 7, 3) := by decide +kernel
theorem dX12_takesStep_36 : decode cX12_takesStep 36 = .ok (.iconst 1, 1) := by decide +kernel
theorem dX12_takesStep_37 : decode cX12_takesStep 37 = .ok (.goto 4, 3) := by decide +kernel
theorem dX12_takesStep_40 : decode cX12_takesStep 40 = .ok (.iconst (-1), 1) := by decide +kernel
theorem dX12_takesStep_41 : decode cX12_takesStep 41 = .ok (.invokevirtual 159, 3) := by decide +kernel
theorem dX12_takesStep_44 : decode cX12_takesStep 44 = .ok (.iconst 1, 1) := by decide +kernel
theorem dX12_takesStep_45 : decode cX12_takesStep 45 = .ok (.ireturn, 1) := by decide +kernel
theorem dX12_takesStep_46 : decode cX12_takesStep 46 = .ok (.aload_n 0, 1) := by decide +kernel
theorem dX12_takesStep_47 : decode cX12_takesStep 47 = .ok (.invokevirtual 186, 3) := by decide +kernel
theorem dX12_takesStep_50 : decode cX12_takesStep 50 = .ok (.iload_n 1, 1) := by decide +kernel
theorem dX12_takesStep_51 : decode cX12_takesStep 51 = .ok (.bipush 62, 2) := by decide +kernel
theorem dX12_takesStep_53 : decode cX12_takesStep 53 = .ok (.if_icmp .ne 8, 3) := by decide +kernel
theorem dX12_takesStep_56 : decode cX12_takesStep 56 = .ok (.bipush 6, 2) := by decide +kernel
theorem dX12_takesStep_58 : decode cX12_takesStep 58 = .ok (.goto 70, 3) := by decide +kernel
theorem dX12_takesStep_61 : decode cX12_takesStep 61 = .ok (.iload_n 1, 1) := by decide +kernel
theorem dX12_takesStep_62 : decode cX12_takesStep 62 = .ok (.bipush 60, 2) := by decide +kernel
theorem dX12_takesStep_64 : decode cX12_takesStep 64 = .ok (.if_icmp .ne 8, 3) := by decide +kernel
theorem dX12_takesStep_67 : decode cX12_takesStep 67 = .ok (.bipush 7, 2) := by decide +kernel
theorem dX12_takesStep_69 : decode cX12_takesStep 69 = .ok (.goto 59, 3) := by decide +kernel
theorem dX12_takesStep_72 : decode cX12_takesStep 72 = .ok (.iload_n 1, 1) := by decide +kernel
theorem dX12_takesStep_73 : decode cX12_takesStep 73 = .ok (.bipush 93, 2) := by decide +kernel
theorem dX12_takesStep_75 : decode cX12_takesStep 75 = .ok (.if_icmp .ne 8, 3) := by decide +kernel
theorem dX12_takesStep_78 : decode cX12_takesStep 78 = .ok (.bipush 8, 2) := by decide +kernel
theorem dX12_takesStep_80 : decode cX12_takesStep 80 = .ok (.goto 48, 3) := by decide +kernel
theorem dX12_takesStep_83 : decode cX12_takesStep 83 = .ok (.iload_n 1, 1) := by decide +kernel
theorem dX12_takesStep_84 : decode cX12_takesStep 84 = .ok (.bipush 91, 2) := by decide +kernel
theorem dX12_takesStep_86 : decode cX12_takesStep 86 = .ok (.if_icmp .ne 8, 3) := by decide +kernel
theorem dX12_takesStep_89 : decode cX12_takesStep 89 = .ok (.bipush 9, 2) := by decide +kernel
theorem dX12_takesStep_91 : decode cX12_takesStep 91 = .ok (.goto 37, 3) := by decide +kernel
theorem dX12_takesStep_94 : decode cX12_takesStep 94 = .ok (.iload_n 1, 1) := by decide +kernel
theorem dX12_takesStep_95 : decode cX12_takesStep 95 = .ok (.bipush 79, 2) := by decide +kernel
theorem dX12_takesStep_97 : decode cX12_takesStep 97 = .ok (.if_icmp .ne 8, 3) := by decide +kernel
theorem dX12_takesStep_100 : decode cX12_takesStep 100 = .ok (.bipush 10, 2) := by decide +kernel
theorem dX12_takesStep_102 : decode cX12_takesStep 102 = .ok (.goto 26, 3) := by decide +kernel
theorem dX12_takesStep_105 : decode cX12_takesStep 105 = .ok (.iload_n 1, 1) := by decide +kernel
theorem dX12_takesStep_106 : decode cX12_takesStep 106 = .ok (.bipush 81, 2) := by decide +kernel
theorem dX12_takesStep_108 : decode cX12_takesStep 108 = .ok (.if_icmp .ne 8, 3) := by decide +kernel
theorem dX12_takesStep_111 : decode cX12_takesStep 111 = .ok (.bipush 11, 2) := by decide +kernel
theorem dX12_takesStep_113 : decode cX12_takesStep 113 = .ok (.goto 15, 3) := by decide +kernel
theorem dX12_takesStep_116 : decode cX12_takesStep 116 = .ok (.iload_n 1, 1) := by decide +kernel
theorem dX12_takesStep_117 : decode cX12_takesStep 117 = .ok (.bipush 88, 2) := by decide +kernel
theorem dX12_takesStep_119 : decode cX12_takesStep 119 = .ok (.if_icmp .ne 8, 3) := by decide +kernel
theorem dX12_takesStep_122 : decode cX12_takesStep 122 = .ok (.bipush 12, 2) := by decide +kernel
theorem dX12_takesStep_124 : decode cX12_takesStep 124 = .ok (.goto 4, 3) := by decide +kernel
theorem dX12_takesStep_127 : decode cX12_takesStep 127 = .ok (.iconst 0, 1) := by decide +kernel
theorem dX12_takesStep_128 : decode cX12_takesStep 128 = .ok (.istore_n 2, 1) := by decide +kernel
theorem dX12_takesStep_129 : decode cX12_takesStep 129 = .ok (.iload_n 2, 1) := by decide +kernel
theorem dX12_takesStep_130 : decode cX12_takesStep 130 = .ok (.bipush 10, 2) := by decide +kernel
theorem dX12_takesStep_132 : decode cX12_takesStep 132 = .ok (.if_icmp .lt 12, 3) := by decide +kernel
theorem dX12_takesStep_135 : decode cX12_takesStep 135 = .ok (.aload_n 0, 1) := by decide +kernel
theorem dX12_takesStep_136 : decode cX12_takesStep 136 = .ok (.iload_n 2, 1) := by decide +kernel
theorem dX12_takesStep_137 : decode cX12_takesStep 137 = .ok (.iconst 0, 1) := by decide +kernel
theorem dX12_takesStep_138 : decode cX12_takesStep 138 = .ok (.invokevirtual 148, 3) := by decide +kernel
theorem dX12_takesStep_141 : decode cX12_takesStep 141 = .ok (.goto 61, 3) := by decide +kernel
theorem dX12_takesStep_144 : decode cX12_takesStep 144 = .ok (.iload_n 2, 1) := by decide +kernel
theorem dX12_takesStep_145 : decode cX12_takesStep 145 = .ok (.ifCond .le 20, 3) := by decide +kernel
theorem dX12_takesStep_148 : decode cX12_takesStep 148 = .ok (.aload_n 0, 1) := by decide +kernel
theorem dX12_takesStep_149 : decode cX12_takesStep 149 = .ok (.bipush 10, 2) := by decide +kernel
theorem dX12_takesStep_151 : decode cX12_takesStep 151 = .ok (.iload_n 2, 1) := by decide +kernel
theorem dX12_takesStep_152 : decode cX12_takesStep 152 = .ok (.invokevirtual 159, 3) := by decide +kernel
theorem dX12_takesStep_155 : decode cX12_takesStep 155 = .ok (.aload_n 0, 1) := by decide +kernel
theorem dX12_takesStep_156 : decode cX12_takesStep 156 = .ok (.bipush 17, 2) := by decide +kernel
theorem dX12_takesStep_158 : decode cX12_takesStep 158 = .ok (.iconst 0, 1) := by decide +kernel
theorem dX12_takesStep_159 : decode cX12_takesStep 159 = .ok (.invokevirtual 159, 3) := by decide +kernel
theorem dX12_takesStep_162 : decode cX12_takesStep 162 = .ok (.goto 40, 3) := by decide +kernel
theorem dX12_takesStep_165 : decode cX12_takesStep 165 = .ok (.iload_n 1, 1) := by decide +kernel
theorem dX12_takesStep_166 : decode cX12_takesStep 166 = .ok (.bipush 63, 2) := by decide +kernel
theorem dX12_takesStep_168 : decode cX12_takesStep 168 = .ok (.if_icmp .ne 34, 3) := by decide +kernel
theorem dX12_takesStep_171 : decode cX12_takesStep 171 = .ok (.aload_n 0, 1) := by decide +kernel
theorem dX12_takesStep_172 : decode cX12_takesStep 172 = .ok (.bipush 6, 2) := by decide +kernel
theorem dX12_takesStep_174 : decode cX12_takesStep 174 = .ok (.iconst 0, 1) := by decide +kernel
theorem dX12_takesStep_175 : decode cX12_takesStep 175 = .ok (.invokevirtual 159, 3) := by decide +kernel
theorem dX12_takesStep_178 : decode cX12_takesStep 178 = .ok (.aload_n 0, 1) := by decide +kernel
theorem dX12_takesStep_179 : decode cX12_takesStep 179 = .ok (.iconst 5, 1) := by decide +kernel
theorem dX12_takesStep_180 : decode cX12_takesStep 180 = .ok (.iconst 0, 1) := by decide +kernel
theorem dX12_takesStep_181 : decode cX12_takesStep 181 = .ok (.invokevirtual 159, 3) := by decide +kernel
theorem dX12_takesStep_184 : decode cX12_takesStep 184 = .ok (.aload_n 0, 1) := by decide +kernel
theorem dX12_takesStep_185 : decode cX12_takesStep 185 = .ok (.iconst 2, 1) := by decide +kernel
theorem dX12_takesStep_186 : decode cX12_takesStep 186 = .ok (.iconst 0, 1) := by decide +kernel
theorem dX12_takesStep_187 : decode cX12_takesStep 187 = .ok (.invokevirtual 159, 3) := by decide +kernel
theorem dX12_takesStep_190 : decode cX12_takesStep 190 = .ok (.aload_n 0, 1) := by decide +kernel
theorem dX12_takesStep_191 : decode cX12_takesStep 191 = .ok (.iconst 4, 1) := by decide +kernel
theorem dX12_takesStep_192 : decode cX12_takesStep 192 = .ok (.iconst 0, 1) := by decide +kernel
theorem dX12_takesStep_193 : decode cX12_takesStep 193 = .ok (.invokevirtual 159, 3) := by decide +kernel
theorem dX12_takesStep_196 : decode cX12_takesStep 196 = .ok (.aload_n 0, 1) := by decide +kernel
theorem dX12_takesStep_197 : decode cX12_takesStep 197 = .ok (.iconst 3, 1) := by decide +kernel
theorem dX12_takesStep_198 : decode cX12_takesStep 198 = .ok (.iconst 0, 1) := by decide +kernel
theorem dX12_takesStep_199 : decode cX12_takesStep 199 = .ok (.invokevirtual 159, 3) := by decide +kernel
theorem dX12_takesStep_202 : decode cX12_takesStep 202 = .ok (.iload_n 2, 1) := by decide +kernel
theorem dX12_takesStep_203 : decode cX12_takesStep 203 = .ok (.ifCond .gt 9, 3) := by decide +kernel
theorem dX12_takesStep_206 : decode cX12_takesStep 206 = .ok (.iload_n 1, 1) := by decide +kernel
theorem dX12_takesStep_207 : decode cX12_takesStep 207 = .ok (.bipush 63, 2) := by decide +kernel
theorem dX12_takesStep_209 : decode cX12_takesStep 209 = .ok (.if_icmp .ne 7, 3) := by decide +kernel
theorem dX12_takesStep_212 : decode cX12_takesStep 212 = .ok (.iconst 1, 1) := by decide +kernel
theorem dX12_takesStep_213 : decode cX12_takesStep 213 = .ok (.goto 4, 3) := by decide +kernel
theorem dX12_takesStep_216 : decode cX12_takesStep 216 = .ok (.iconst 0, 1) := by decide +kernel
theorem dX12_takesStep_217 : decode cX12_takesStep 217 = .ok (.ireturn, 1) := by decide +kernel
theorem dX12_takesCondition_0 : decode cX12_takesCondition 0 = .ok (.aload_n 0, 1) := by decide +kernel
theorem dX12_takesCondition_1 : decode cX12_takesCondition 1 = .ok (.dup, 1) := by decide +kernel
theorem dX12_takesCondition_2 : decode cX12_takesCondition 2 = .ok (.getfield 139, 3) := by decide +kernel
theorem dX12_takesCondition_5 : decode cX12_takesCondition 5 = .ok (.iconst 1, 1) := by decide +kernel
theorem dX12_takesCondition_6 : decode cX12_takesCondition 6 = .ok (.isub, 1) := by decide +kernel
theorem dX12_takesCondition_7 : decode cX12_takesCondition 7 = .ok (.putfield 139, 3) := by decide +kernel
theorem dX12_takesCondition_10 : decode cX12_takesCondition 10 = .ok (.iload_n 1, 1) := by decide +kernel
theorem dX12_takesCondition_11 : decode cX12_takesCondition 11 = .ok (.bipush 87, 2) := by decide +kernel
theorem dX12_takesCondition_13 : decode cX12_takesCondition 13 = .ok (.if_icmp .ne 21, 3) := by decide +kernel
theorem dX12_takesCondition_16 : decode cX12_takesCondition 16 = .ok (.aload_n 0, 1) := by decide +kernel
theorem dX12_takesCondition_17 : decode cX12_takesCondition 17 = .ok (.bipush 10, 2) := by decide +kernel
theorem dX12_takesCondition_19 : decode cX12_takesCondition 19 = .ok (.bipush 13, 2) := by decide +kernel
theorem dX12_takesCondition_21 : decode cX12_takesCondition 21 = .ok (.invokevirtual 159, 3) := by decide +kernel
theorem dX12_takesCondition_24 : decode cX12_takesCondition 24 = .ok (.aload_n 0, 1) := by decide +kernel
theorem dX12_takesCondition_25 : decode cX12_takesCondition 25 = .ok (.bipush 17, 2) := by decide +kernel
theorem dX12_takesCondition_27 : decode cX12_takesCondition 27 = .ok (.iconst 0, 1) := by decide +kernel
theorem dX12_takesCondition_28 : decode cX12_takesCondition 28 = .ok (.invokevirtual 159, 3) := by decide +kernel
theorem dX12_takesCondition_31 : decode cX12_takesCondition 31 = .ok (.goto 121, 3) := by decide +kernel
theorem dX12_takesCondition_34 : decode cX12_takesCondition 34 = .ok (.iload_n 1, 1) := by decide +kernel
theorem dX12_takesCondition_35 : decode cX12_takesCondition 35 = .ok (.bipush 89, 2) := by decide +kernel
theorem dX12_takesCondition_37 : decode cX12_takesCondition 37 = .ok (.if_icmp .ne 13, 3) := by decide +kernel
theorem dX12_takesCondition_40 : decode cX12_takesCondition 40 = .ok (.aload_n 0, 1) := by decide +kernel
theorem dX12_takesCondition_41 : decode cX12_takesCondition 41 = .ok (.bipush 14, 2) := by decide +kernel
theorem dX12_takesCondition_43 : decode cX12_takesCondition 43 = .ok (.iconst 0, 1) := by decide +kernel
theorem dX12_takesCondition_44 : decode cX12_takesCondition 44 = .ok (.invokevirtual 148, 3) := by decide +kernel
theorem dX12_takesCondition_47 : decode cX12_takesCondition 47 = .ok (.goto 105, 3) := by decide +kernel
theorem dX12_takesCondition_50 : decode cX12_takesCondition 50 = .ok (.iload_n 1, 1) := by decide +kernel
theorem dX12_takesCondition_51 : decode cX12_takesCondition 51 = .ok (.bipush 65, 2) := by decide +kernel
theorem dX12_takesCondition_53 : decode cX12_takesCondition 53 = .ok (.if_icmp .ne 18, 3) := by decide +kernel
theorem dX12_takesCondition_56 : decode cX12_takesCondition 56 = .ok (.aload_n 0, 1) := by decide +kernel
theorem dX12_takesCondition_57 : decode cX12_takesCondition 57 = .ok (.bipush 10, 2) := by decide +kernel
theorem dX12_takesCondition_59 : decode cX12_takesCondition 59 = .ok (.bipush 15, 2) := by decide +kernel
theorem dX12_takesCondition_61 : decode cX12_takesCondition 61 = .ok (.invokevirtual 159, 3) := by decide +kernel
theorem dX12_takesCondition_64 : decode cX12_takesCondition 64 = .ok (.aload_n 0, 1) := by decide +kernel
theorem dX12_takesCondition_65 : decode cX12_takesCondition 65 = .ok (.invokevirtual 177, 3) := by decide +kernel
theorem dX12_takesCondition_68 : decode cX12_takesCondition 68 = .ok (.goto 84, 3) := by decide +kernel
theorem dX12_takesCondition_71 : decode cX12_takesCondition 71 = .ok (.iload_n 1, 1) := by decide +kernel
theorem dX12_takesCondition_72 : decode cX12_takesCondition 72 = .ok (.bipush 69, 2) := by decide +kernel
theorem dX12_takesCondition_74 : decode cX12_takesCondition 74 = .ok (.if_icmp .ne 18, 3) := by decide +kernel
theorem dX12_takesCondition_77 : decode cX12_takesCondition 77 = .ok (.aload_n 0, 1) := by decide +kernel
theorem dX12_takesCondition_78 : decode cX12_takesCondition 78 = .ok (.bipush 10, 2) := by decide +kernel
theorem dX12_takesCondition_80 : decode cX12_takesCondition 80 = .ok (.bipush 16, 2) := by decide +kernel
theorem dX12_takesCondition_82 : decode cX12_takesCondition 82 = .ok (.invokevirtual 159, 3) := by decide +kernel
theorem dX12_takesCondition_85 : decode cX12_takesCondition 85 = .ok (.aload_n 0, 1) := by decide +kernel
theorem dX12_takesCondition_86 : decode cX12_takesCondition 86 = .ok (.invokevirtual 174, 3) := by decide +kernel
theorem dX12_takesCondition_89 : decode cX12_takesCondition 89 = .ok (.goto 63, 3) := by decide +kernel
theorem dX12_takesCondition_92 : decode cX12_takesCondition 92 = .ok (.iload_n 1, 1) := by decide +kernel
theorem dX12_takesCondition_93 : decode cX12_takesCondition 93 = .ok (.bipush 33, 2) := by decide +kernel
theorem dX12_takesCondition_95 : decode cX12_takesCondition 95 = .ok (.if_icmp .ne 20, 3) := by decide +kernel
theorem dX12_takesCondition_98 : decode cX12_takesCondition 98 = .ok (.aload_n 0, 1) := by decide +kernel
theorem dX12_takesCondition_99 : decode cX12_takesCondition 99 = .ok (.bipush 10, 2) := by decide +kernel
theorem dX12_takesCondition_101 : decode cX12_takesCondition 101 = .ok (.bipush 17, 2) := by decide +kernel
theorem dX12_takesCondition_103 : decode cX12_takesCondition 103 = .ok (.invokevirtual 159, 3) := by decide +kernel
theorem dX12_takesCondition_106 : decode cX12_takesCondition 106 = .ok (.aload_n 0, 1) := by decide +kernel
theorem dX12_takesCondition_107 : decode cX12_takesCondition 107 = .ok (.iconst 3, 1) := by decide +kernel
theorem dX12_takesCondition_108 : decode cX12_takesCondition 108 = .ok (.iconst 0, 1) := by decide +kernel
theorem dX12_takesCondition_109 : decode cX12_takesCondition 109 = .ok (.invokevirtual 159, 3) := by decide +kernel
theorem dX12_takesCondition_112 : decode cX12_takesCondition 112 = .ok (.goto 40, 3) := by decide +kernel
theorem dX12_takesCondition_115 : decode cX12_takesCondition 115 = .ok (.iload_n 1, 1) := by decide +kernel
theorem dX12_takesCondition_116 : decode cX12_takesCondition 116 = .ok (.bipush 40, 2) := by decide +kernel
theorem dX12_takesCondition_118 : decode cX12_takesCondition 118 = .ok (.if_icmp .ne 32, 3) := by decide +kernel
theorem dX12_takesCondition_121 : decode cX12_takesCondition 121 = .ok (.aload_n 0, 1) := by decide +kernel
theorem dX12_takesCondition_122 : decode cX12_takesCondition 122 = .ok (.bipush 9, 2) := by decide +kernel
theorem dX12_takesCondition_124 : decode cX12_takesCondition 124 = .ok (.iconst 0, 1) := by decide +kernel
theorem dX12_takesCondition_125 : decode cX12_takesCondition 125 = .ok (.invokevirtual 159, 3) := by decide +kernel
theorem dX12_takesCondition_128 : decode cX12_takesCondition 128 = .ok (.aload_n 0, 1) := by decide +kernel
theorem dX12_takesCondition_129 : decode cX12_takesCondition 129 = .ok (.iconst 3, 1) := by decide +kernel
theorem dX12_takesCondition_130 : decode cX12_takesCondition 130 = .ok (.iconst 0, 1) := by decide +kernel
theorem dX12_takesCondition_131 : decode cX12_takesCondition 131 = .ok (.invokevirtual 159, 3) := by decide +kernel
theorem dX12_takesCondition_134 : decode cX12_takesCondition 134 = .ok (.aload_n 0, 1) := by decide +kernel
theorem dX12_takesCondition_135 : decode cX12_takesCondition 135 = .ok (.bipush 8, 2) := by decide +kernel
theorem dX12_takesCondition_137 : decode cX12_takesCondition 137 = .ok (.iconst 0, 1) := by decide +kernel
theorem dX12_takesCondition_138 : decode cX12_takesCondition 138 = .ok (.invokevirtual 159, 3) := by decide +kernel
theorem dX12_takesCondition_141 : decode cX12_takesCondition 141 = .ok (.aload_n 0, 1) := by decide +kernel
theorem dX12_takesCondition_142 : decode cX12_takesCondition 142 = .ok (.iconst 3, 1) := by decide +kernel
theorem dX12_takesCondition_143 : decode cX12_takesCondition 143 = .ok (.iconst 0, 1) := by decide +kernel
theorem dX12_takesCondition_144 : decode cX12_takesCondition 144 = .ok (.invokevirtual 159, 3) := by decide +kernel
theorem dX12_takesCondition_147 : decode cX12_takesCondition 147 = .ok (.goto 5, 3) := by decide +kernel
theorem dX12_takesCondition_150 : decode cX12_takesCondition 150 = .ok (.iconst 0, 1) := by decide +kernel
theorem dX12_takesCondition_151 : decode cX12_takesCondition 151 = .ok (.ireturn, 1) := by decide +kernel
theorem dX12_takesCondition_152 : decode cX12_takesCondition 152 = .ok (.iconst 1, 1) := by decide +kernel
theorem dX12_takesCondition_153 : decode cX12_takesCondition 153 = .ok (.ireturn, 1) := by decide +kernel
theorem dX12_takesAsk_0 : decode cX12_takesAsk 0 = .ok (.aload_n 0, 1) := by decide +kernel
theorem dX12_takesAsk_1 : decode cX12_takesAsk 1 = .ok (.dup, 1) := by decide +kernel
theorem dX12_takesAsk_2 : decode cX12_takesAsk 2 = .ok (.getfield 139, 3) := by decide +kernel
theorem dX12_takesAsk_5 : decode cX12_takesAsk 5 = .ok (.iconst 1, 1) := by decide +kernel
theorem dX12_takesAsk_6 : decode cX12_takesAsk 6 = .ok (.isub, 1) := by decide +kernel
theorem dX12_takesAsk_7 : decode cX12_takesAsk 7 = .ok (.putfield 139, 3) := by decide +kernel
theorem dX12_takesAsk_10 : decode cX12_takesAsk 10 = .ok (.iload_n 1, 1) := by decide +kernel
theorem dX12_takesAsk_11 : decode cX12_takesAsk 11 = .ok (.bipush 67, 2) := by decide +kernel
theorem dX12_takesAsk_13 : decode cX12_takesAsk 13 = .ok (.if_icmp .ne 12, 3) := by decide +kernel
theorem dX12_takesAsk_16 : decode cX12_takesAsk 16 = .ok (.aload_n 0, 1) := by decide +kernel
theorem dX12_takesAsk_17 : decode cX12_takesAsk 17 = .ok (.iconst 1, 1) := by decide +kernel
theorem dX12_takesAsk_18 : decode cX12_takesAsk 18 = .ok (.iconst 0, 1) := by decide +kernel
theorem dX12_takesAsk_19 : decode cX12_takesAsk 19 = .ok (.invokevirtual 148, 3) := by decide +kernel
theorem dX12_takesAsk_22 : decode cX12_takesAsk 22 = .ok (.goto 161, 3) := by decide +kernel
theorem dX12_takesAsk_25 : decode cX12_takesAsk 25 = .ok (.iload_n 1, 1) := by decide +kernel
theorem dX12_takesAsk_26 : decode cX12_takesAsk 26 = .ok (.bipush 68, 2) := by decide +kernel
theorem dX12_takesAsk_28 : decode cX12_takesAsk 28 = .ok (.if_icmp .ne 21, 3) := by decide +kernel
theorem dX12_takesAsk_31 : decode cX12_takesAsk 31 = .ok (.aload_n 0, 1) := by decide +kernel
theorem dX12_takesAsk_32 : decode cX12_takesAsk 32 = .ok (.bipush 10, 2) := by decide +kernel
theorem dX12_takesAsk_34 : decode cX12_takesAsk 34 = .ok (.iconst 2, 1) := by decide +kernel
theorem dX12_takesAsk_35 : decode cX12_takesAsk 35 = .ok (.invokevirtual 159, 3) := by decide +kernel
theorem dX12_takesAsk_38 : decode cX12_takesAsk 38 = .ok (.aload_n 0, 1) := by decide +kernel
theorem dX12_takesAsk_39 : decode cX12_takesAsk 39 = .ok (.invokevirtual 174, 3) := by decide +kernel
theorem dX12_takesAsk_42 : decode cX12_takesAsk 42 = .ok (.aload_n 0, 1) := by decide +kernel
theorem dX12_takesAsk_43 : decode cX12_takesAsk 43 = .ok (.invokevirtual 177, 3) := by decide +kernel
theorem dX12_takesAsk_46 : decode cX12_takesAsk 46 = .ok (.goto 137, 3) := by decide +kernel
theorem dX12_takesAsk_49 : decode cX12_takesAsk 49 = .ok (.iload_n 1, 1) := by decide +kernel
theorem dX12_takesAsk_50 : decode cX12_takesAsk 50 = .ok (.bipush 87, 2) := by decide +kernel
theorem dX12_takesAsk_52 : decode cX12_takesAsk 52 = .ok (.if_icmp .ne 24, 3) := by decide +kernel
theorem dX12_takesAsk_55 : decode cX12_takesAsk 55 = .ok (.aload_n 0, 1) := by decide +kernel
theorem dX12_takesAsk_56 : decode cX12_takesAsk 56 = .ok (.bipush 10, 2) := by decide +kernel
theorem dX12_takesAsk_58 : decode cX12_takesAsk 58 = .ok (.iconst 3, 1) := by decide +kernel
theorem dX12_takesAsk_59 : decode cX12_takesAsk 59 = .ok (.invokevirtual 159, 3) := by decide +kernel
theorem dX12_takesAsk_62 : decode cX12_takesAsk 62 = .ok (.aload_n 0, 1) := by decide +kernel
theorem dX12_takesAsk_63 : decode cX12_takesAsk 63 = .ok (.bipush 17, 2) := by decide +kernel
theorem dX12_takesAsk_65 : decode cX12_takesAsk 65 = .ok (.iconst 0, 1) := by decide +kernel
theorem dX12_takesAsk_66 : decode cX12_takesAsk 66 = .ok (.invokevirtual 159, 3) := by decide +kernel
theorem dX12_takesAsk_69 : decode cX12_takesAsk 69 = .ok (.aload_n 0, 1) := by decide +kernel
theorem dX12_takesAsk_70 : decode cX12_takesAsk 70 = .ok (.invokevirtual 177, 3) := by decide +kernel
theorem dX12_takesAsk_73 : decode cX12_takesAsk 73 = .ok (.goto 110, 3) := by decide +kernel
theorem dX12_takesAsk_76 : decode cX12_takesAsk 76 = .ok (.iload_n 1, 1) := by decide +kernel
theorem dX12_takesAsk_77 : decode cX12_takesAsk 77 = .ok (.bipush 78, 2) := by decide +kernel
theorem dX12_takesAsk_79 : decode cX12_takesAsk 79 = .ok (.if_icmp .ne 17, 3) := by decide +kernel
theorem dX12_takesAsk_82 : decode cX12_takesAsk 82 = .ok (.aload_n 0, 1) := by decide +kernel
theorem dX12_takesAsk_83 : decode cX12_takesAsk 83 = .ok (.bipush 10, 2) := by decide +kernel
theorem dX12_takesAsk_85 : decode cX12_takesAsk 85 = .ok (.iconst 4, 1) := by decide +kernel
theorem dX12_takesAsk_86 : decode cX12_takesAsk 86 = .ok (.invokevirtual 159, 3) := by decide +kernel
theorem dX12_takesAsk_89 : decode cX12_takesAsk 89 = .ok (.aload_n 0, 1) := by decide +kernel
theorem dX12_takesAsk_90 : decode cX12_takesAsk 90 = .ok (.invokevirtual 177, 3) := by decide +kernel
theorem dX12_takesAsk_93 : decode cX12_takesAsk 93 = .ok (.goto 90, 3) := by decide +kernel
theorem dX12_takesAsk_96 : decode cX12_takesAsk 96 = .ok (.iload_n 1, 1) := by decide +kernel
theorem dX12_takesAsk_97 : decode cX12_takesAsk 97 = .ok (.bipush 66, 2) := by decide +kernel
theorem dX12_takesAsk_99 : decode cX12_takesAsk 99 = .ok (.if_icmp .ne 21, 3) := by decide +kernel
theorem dX12_takesAsk_102 : decode cX12_takesAsk 102 = .ok (.aload_n 0, 1) := by decide +kernel
theorem dX12_takesAsk_103 : decode cX12_takesAsk 103 = .ok (.bipush 10, 2) := by decide +kernel
theorem dX12_takesAsk_105 : decode cX12_takesAsk 105 = .ok (.iconst 5, 1) := by decide +kernel
theorem dX12_takesAsk_106 : decode cX12_takesAsk 106 = .ok (.invokevirtual 159, 3) := by decide +kernel
theorem dX12_takesAsk_109 : decode cX12_takesAsk 109 = .ok (.aload_n 0, 1) := by decide +kernel
theorem dX12_takesAsk_110 : decode cX12_takesAsk 110 = .ok (.invokevirtual 177, 3) := by decide +kernel
theorem dX12_takesAsk_113 : decode cX12_takesAsk 113 = .ok (.aload_n 0, 1) := by decide +kernel
theorem dX12_takesAsk_114 : decode cX12_takesAsk 114 = .ok (.invokevirtual 177, 3) := by decide +kernel
theorem dX12_takesAsk_117 : decode cX12_takesAsk 117 = .ok (.goto 66, 3) := by decide +kernel
theorem dX12_takesAsk_120 : decode cX12_takesAsk 120 = .ok (.iload_n 1, 1) := by decide +kernel
theorem dX12_takesAsk_121 : decode cX12_takesAsk 121 = .ok (.bipush 33, 2) := by decide +kernel
theorem dX12_takesAsk_123 : decode cX12_takesAsk 123 = .ok (.if_icmp .ne 21, 3) := by decide +kernel
theorem dX12_takesAsk_126 : decode cX12_takesAsk 126 = .ok (.aload_n 0, 1) := by decide +kernel
theorem dX12_takesAsk_127 : decode cX12_takesAsk 127 = .ok (.bipush 10, 2) := by decide +kernel
theorem dX12_takesAsk_129 : decode cX12_takesAsk 129 = .ok (.bipush 6, 2) := by decide +kernel
theorem dX12_takesAsk_131 : decode cX12_takesAsk 131 = .ok (.invokevirtual 159, 3) := by decide +kernel
theorem dX12_takesAsk_134 : decode cX12_takesAsk 134 = .ok (.aload_n 0, 1) := by decide +kernel
theorem dX12_takesAsk_135 : decode cX12_takesAsk 135 = .ok (.bipush 20, 2) := by decide +kernel
theorem dX12_takesAsk_137 : decode cX12_takesAsk 137 = .ok (.iconst 0, 1) := by decide +kernel
theorem dX12_takesAsk_138 : decode cX12_takesAsk 138 = .ok (.invokevirtual 159, 3) := by decide +kernel
theorem dX12_takesAsk_141 : decode cX12_takesAsk 141 = .ok (.goto 42, 3) := by decide +kernel
theorem dX12_takesAsk_144 : decode cX12_takesAsk 144 = .ok (.iload_n 1, 1) := by decide +kernel
theorem dX12_takesAsk_145 : decode cX12_takesAsk 145 = .ok (.bipush 40, 2) := by decide +kernel
theorem dX12_takesAsk_147 : decode cX12_takesAsk 147 = .ok (.if_icmp .ne 34, 3) := by decide +kernel
theorem dX12_takesAsk_150 : decode cX12_takesAsk 150 = .ok (.aload_n 0, 1) := by decide +kernel
theorem dX12_takesAsk_151 : decode cX12_takesAsk 151 = .ok (.bipush 22, 2) := by decide +kernel
theorem dX12_takesAsk_153 : decode cX12_takesAsk 153 = .ok (.iconst 0, 1) := by decide +kernel
theorem dX12_takesAsk_154 : decode cX12_takesAsk 154 = .ok (.invokevirtual 159, 3) := by decide +kernel
theorem dX12_takesAsk_157 : decode cX12_takesAsk 157 = .ok (.aload_n 0, 1) := by decide +kernel
theorem dX12_takesAsk_158 : decode cX12_takesAsk 158 = .ok (.bipush 20, 2) := by decide +kernel
theorem dX12_takesAsk_160 : decode cX12_takesAsk 160 = .ok (.iconst 0, 1) := by decide +kernel
theorem dX12_takesAsk_161 : decode cX12_takesAsk 161 = .ok (.invokevirtual 159, 3) := by decide +kernel
theorem dX12_takesAsk_164 : decode cX12_takesAsk 164 = .ok (.aload_n 0, 1) := by decide +kernel
theorem dX12_takesAsk_165 : decode cX12_takesAsk 165 = .ok (.bipush 21, 2) := by decide +kernel
theorem dX12_takesAsk_167 : decode cX12_takesAsk 167 = .ok (.iconst 0, 1) := by decide +kernel
theorem dX12_takesAsk_168 : decode cX12_takesAsk 168 = .ok (.invokevirtual 159, 3) := by decide +kernel
theorem dX12_takesAsk_171 : decode cX12_takesAsk 171 = .ok (.aload_n 0, 1) := by decide +kernel
theorem dX12_takesAsk_172 : decode cX12_takesAsk 172 = .ok (.bipush 20, 2) := by decide +kernel
theorem dX12_takesAsk_174 : decode cX12_takesAsk 174 = .ok (.iconst 0, 1) := by decide +kernel
theorem dX12_takesAsk_175 : decode cX12_takesAsk 175 = .ok (.invokevirtual 159, 3) := by decide +kernel
theorem dX12_takesAsk_178 : decode cX12_takesAsk 178 = .ok (.goto 5, 3) := by decide +kernel
theorem dX12_takesAsk_181 : decode cX12_takesAsk 181 = .ok (.iconst 0, 1) := by decide +kernel
theorem dX12_takesAsk_182 : decode cX12_takesAsk 182 = .ok (.ireturn, 1) := by decide +kernel
theorem dX12_takesAsk_183 : decode cX12_takesAsk 183 = .ok (.iconst 1, 1) := by decide +kernel
theorem dX12_takesAsk_184 : decode cX12_takesAsk 184 = .ok (.ireturn, 1) := by decide +kernel
theorem dX12_takesMark_0 : decode cX12_takesMark 0 = .ok (.iload_n 1, 1) := by decide +kernel
theorem dX12_takesMark_1 : decode cX12_takesMark 1 = .ok (.iconst 4, 1) := by decide +kernel
theorem dX12_takesMark_2 : decode cX12_takesMark 2 = .ok (.if_icmp .ne 27, 3) := by decide +kernel
theorem dX12_takesMark_5 : decode cX12_takesMark 5 = .ok (.iload_n 2, 1) := by decide +kernel
theorem dX12_takesMark_6 : decode cX12_takesMark 6 = .ok (.bipush 123, 2) := by decide +kernel
theorem dX12_takesMark_8 : decode cX12_takesMark 8 = .ok (.if_icmp .ne 21, 3) := by decide +kernel
theorem dX12_takesMark_11 : decode cX12_takesMark 11 = .ok (.aload_n 0, 1) := by decide +kernel
theorem dX12_takesMark_12 : decode cX12_takesMark 12 = .ok (.dup, 1) := by decide +kernel
theorem dX12_takesMark_13 : decode cX12_takesMark 13 = .ok (.getfield 139, 3) := by decide +kernel
theorem dX12_takesMark_16 : decode cX12_takesMark 16 = .ok (.iconst 1, 1) := by decide +kernel
theorem dX12_takesMark_17 : decode cX12_takesMark 17 = .ok (.isub, 1) := by decide +kernel
theorem dX12_takesMark_18 : decode cX12_takesMark 18 = .ok (.putfield 139, 3) := by decide +kernel
theorem dX12_takesMark_21 : decode cX12_takesMark 21 = .ok (.aload_n 0, 1) := by decide +kernel
theorem dX12_takesMark_22 : decode cX12_takesMark 22 = .ok (.bipush 19, 2) := by decide +kernel
theorem dX12_takesMark_24 : decode cX12_takesMark 24 = .ok (.invokevirtual 189, 3) := by decide +kernel
theorem dX12_takesMark_27 : decode cX12_takesMark 27 = .ok (.iconst 1, 1) := by decide +kernel
theorem dX12_takesMark_28 : decode cX12_takesMark 28 = .ok (.ireturn, 1) := by decide +kernel
theorem dX12_takesMark_29 : decode cX12_takesMark 29 = .ok (.iload_n 1, 1) := by decide +kernel
theorem dX12_takesMark_30 : decode cX12_takesMark 30 = .ok (.iconst 5, 1) := by decide +kernel
theorem dX12_takesMark_31 : decode cX12_takesMark 31 = .ok (.if_icmp .eq 9, 3) := by decide +kernel
theorem dX12_takesMark_34 : decode cX12_takesMark 34 = .ok (.iload_n 1, 1) := by decide +kernel
theorem dX12_takesMark_35 : decode cX12_takesMark 35 = .ok (.bipush 7, 2) := by decide +kernel
theorem dX12_takesMark_37 : decode cX12_takesMark 37 = .ok (.if_icmp .ne 31, 3) := by decide +kernel
theorem dX12_takesMark_40 : decode cX12_takesMark 40 = .ok (.iload_n 2, 1) := by decide +kernel
theorem dX12_takesMark_41 : decode cX12_takesMark 41 = .ok (.bipush 125, 2) := by decide +kernel
theorem dX12_takesMark_43 : decode cX12_takesMark 43 = .ok (.if_icmp .ne 25, 3) := by decide +kernel
theorem dX12_takesMark_46 : decode cX12_takesMark 46 = .ok (.aload_n 0, 1) := by decide +kernel
theorem dX12_takesMark_47 : decode cX12_takesMark 47 = .ok (.dup, 1) := by decide +kernel
theorem dX12_takesMark_48 : decode cX12_takesMark 48 = .ok (.getfield 139, 3) := by decide +kernel
theorem dX12_takesMark_51 : decode cX12_takesMark 51 = .ok (.iconst 1, 1) := by decide +kernel
theorem dX12_takesMark_52 : decode cX12_takesMark 52 = .ok (.isub, 1) := by decide +kernel
theorem dX12_takesMark_53 : decode cX12_takesMark 53 = .ok (.putfield 139, 3) := by decide +kernel
theorem dX12_takesMark_56 : decode cX12_takesMark 56 = .ok (.iload_n 1, 1) := by decide +kernel
theorem dX12_takesMark_57 : decode cX12_takesMark 57 = .ok (.bipush 7, 2) := by decide +kernel
theorem dX12_takesMark_59 : decode cX12_takesMark 59 = .ok (.if_icmp .ne 7, 3) := by decide +kernel
theorem dX12_takesMark_62 : decode cX12_takesMark 62 = .ok (.aload_n 0, 1) := by decide +kernel
theorem dX12_takesMark_63 : decode cX12_takesMark 63 = .ok (.invokevirtual 192, 3) := by decide +kernel
theorem dX12_takesMark_66 : decode cX12_takesMark 66 = .ok (.iconst 1, 1) := by decide +kernel
theorem dX12_takesMark_67 : decode cX12_takesMark 67 = .ok (.ireturn, 1) := by decide +kernel
theorem dX12_takesMark_68 : decode cX12_takesMark 68 = .ok (.iload_n 1, 1) := by decide +kernel
theorem dX12_takesMark_69 : decode cX12_takesMark 69 = .ok (.bipush 8, 2) := by decide +kernel
theorem dX12_takesMark_71 : decode cX12_takesMark 71 = .ok (.if_icmp .ne 44, 3) := by decide +kernel
theorem dX12_takesMark_74 : decode cX12_takesMark 74 = .ok (.iload_n 2, 1) := by decide +kernel
theorem dX12_takesMark_75 : decode cX12_takesMark 75 = .ok (.bipush 38, 2) := by decide +kernel
theorem dX12_takesMark_77 : decode cX12_takesMark 77 = .ok (.if_icmp .eq 9, 3) := by decide +kernel
theorem dX12_takesMark_80 : decode cX12_takesMark 80 = .ok (.iload_n 2, 1) := by decide +kernel
theorem dX12_takesMark_81 : decode cX12_takesMark 81 = .ok (.bipush 124, 2) := by decide +kernel
theorem dX12_takesMark_83 : decode cX12_takesMark 83 = .ok (.if_icmp .ne 32, 3) := by decide +kernel
theorem dX12_takesMark_86 : decode cX12_takesMark 86 = .ok (.aload_n 0, 1) := by decide +kernel
theorem dX12_takesMark_87 : decode cX12_takesMark 87 = .ok (.dup, 1) := by decide +kernel
theorem dX12_takesMark_88 : decode cX12_takesMark 88 = .ok (.getfield 139, 3) := by decide +kernel
theorem dX12_takesMark_91 : decode cX12_takesMark 91 = .ok (.iconst 1, 1) := by decide +kernel
theorem dX12_takesMark_92 : decode cX12_takesMark 92 = .ok (.isub, 1) := by decide +kernel
theorem dX12_takesMark_93 : decode cX12_takesMark 93 = .ok (.putfield 139, 3) := by decide +kernel
theorem dX12_takesMark_96 : decode cX12_takesMark 96 = .ok (.aload_n 0, 1) := by decide +kernel
theorem dX12_takesMark_97 : decode cX12_takesMark 97 = .ok (.iload_n 2, 1) := by decide +kernel
theorem dX12_takesMark_98 : decode cX12_takesMark 98 = .ok (.bipush 38, 2) := by decide +kernel
theorem dX12_takesMark_100 : decode cX12_takesMark 100 = .ok (.if_icmp .ne 8, 3) := by decide +kernel
theorem dX12_takesMark_103 : decode cX12_takesMark 103 = .ok (.bipush 19, 2) := by decide +kernel
theorem dX12_takesMark_105 : decode cX12_takesMark 105 = .ok (.goto 5, 3) := by decide +kernel
theorem dX12_takesMark_108 : decode cX12_takesMark 108 = .ok (.bipush 20, 2) := by decide +kernel
theorem dX12_takesMark_110 : decode cX12_takesMark 110 = .ok (.invokevirtual 189, 3) := by decide +kernel
theorem dX12_takesMark_113 : decode cX12_takesMark 113 = .ok (.iconst 1, 1) := by decide +kernel
theorem dX12_takesMark_114 : decode cX12_takesMark 114 = .ok (.ireturn, 1) := by decide +kernel
theorem dX12_takesMark_115 : decode cX12_takesMark 115 = .ok (.iload_n 1, 1) := by decide +kernel
theorem dX12_takesMark_116 : decode cX12_takesMark 116 = .ok (.bipush 9, 2) := by decide +kernel
theorem dX12_takesMark_118 : decode cX12_takesMark 118 = .ok (.if_icmp .ne 25, 3) := by decide +kernel
theorem dX12_takesMark_121 : decode cX12_takesMark 121 = .ok (.iload_n 2, 1) := by decide +kernel
theorem dX12_takesMark_122 : decode cX12_takesMark 122 = .ok (.bipush 41, 2) := by decide +kernel
theorem dX12_takesMark_124 : decode cX12_takesMark 124 = .ok (.if_icmp .ne 19, 3) := by decide +kernel
theorem dX12_takesMark_127 : decode cX12_takesMark 127 = .ok (.aload_n 0, 1) := by decide +kernel
theorem dX12_takesMark_128 : decode cX12_takesMark 128 = .ok (.dup, 1) := by decide +kernel
theorem dX12_takesMark_129 : decode cX12_takesMark 129 = .ok (.getfield 139, 3) := by decide +kernel
theorem dX12_takesMark_132 : decode cX12_takesMark 132 = .ok (.iconst 1, 1) := by decide +kernel
theorem dX12_takesMark_133 : decode cX12_takesMark 133 = .ok (.isub, 1) := by decide +kernel
theorem dX12_takesMark_134 : decode cX12_takesMark 134 = .ok (.putfield 139, 3) := by decide +kernel
theorem dX12_takesMark_137 : decode cX12_takesMark 137 = .ok (.aload_n 0, 1) := by decide +kernel
theorem dX12_takesMark_138 : decode cX12_takesMark 138 = .ok (.invokevirtual 192, 3) := by decide +kernel
theorem dX12_takesMark_141 : decode cX12_takesMark 141 = .ok (.iconst 1, 1) := by decide +kernel
theorem dX12_takesMark_142 : decode cX12_takesMark 142 = .ok (.ireturn, 1) := by decide +kernel
theorem dX12_takesMark_143 : decode cX12_takesMark 143 = .ok (.iload_n 1, 1) := by decide +kernel
theorem dX12_takesMark_144 : decode cX12_takesMark 144 = .ok (.bipush 21, 2) := by decide +kernel
theorem dX12_takesMark_146 : decode cX12_takesMark 146 = .ok (.if_icmp .ne 59, 3) := by decide +kernel
theorem dX12_takesMark_149 : decode cX12_takesMark 149 = .ok (.iload_n 2, 1) := by decide +kernel
theorem dX12_takesMark_150 : decode cX12_takesMark 150 = .ok (.bipush 38, 2) := by decide +kernel
theorem dX12_takesMark_152 : decode cX12_takesMark 152 = .ok (.if_icmp .eq 9, 3) := by decide +kernel
theorem dX12_takesMark_155 : decode cX12_takesMark 155 = .ok (.iload_n 2, 1) := by decide +kernel
theorem dX12_takesMark_156 : decode cX12_takesMark 156 = .ok (.bipush 124, 2) := by decide +kernel
theorem dX12_takesMark_158 : decode cX12_takesMark 158 = .ok (.if_icmp .ne 47, 3) := by decide +kernel
theorem dX12_takesMark_161 : decode cX12_takesMark 161 = .ok (.aload_n 0, 1) := by decide +kernel
theorem dX12_takesMark_162 : decode cX12_takesMark 162 = .ok (.dup, 1) := by decide +kernel
theorem dX12_takesMark_163 : decode cX12_takesMark 163 = .ok (.getfield 139, 3) := by decide +kernel
theorem dX12_takesMark_166 : decode cX12_takesMark 166 = .ok (.iconst 1, 1) := by decide +kernel
theorem dX12_takesMark_167 : decode cX12_takesMark 167 = .ok (.isub, 1) := by decide +kernel
theorem dX12_takesMark_168 : decode cX12_takesMark 168 = .ok (.putfield 139, 3) := by decide +kernel
theorem dX12_takesMark_171 : decode cX12_takesMark 171 = .ok (.aload_n 0, 1) := by decide +kernel
theorem dX12_takesMark_172 : decode cX12_takesMark 172 = .ok (.getfield 20, 3) := by decide +kernel
theorem dX12_takesMark_175 : decode cX12_takesMark 175 = .ok (.aload_n 0, 1) := by decide +kernel
theorem dX12_takesMark_176 : decode cX12_takesMark 176 = .ok (.getfield 145, 3) := by decide +kernel
theorem dX12_takesMark_179 : decode cX12_takesMark 179 = .ok (.iload_n 2, 1) := by decide +kernel
theorem dX12_takesMark_180 : decode cX12_takesMark 180 = .ok (.bipush 38, 2) := by decide +kernel
theorem dX12_takesMark_182 : decode cX12_takesMark 182 = .ok (.if_icmp .ne 8, 3) := by decide +kernel
theorem dX12_takesMark_185 : decode cX12_takesMark 185 = .ok (.bipush 7, 2) := by decide +kernel
theorem dX12_takesMark_187 : decode cX12_takesMark 187 = .ok (.goto 5, 3) := by decide +kernel
theorem dX12_takesMark_190 : decode cX12_takesMark 190 = .ok (.bipush 8, 2) := by decide +kernel
theorem dX12_takesMark_192 : decode cX12_takesMark 192 = .ok (.iastore, 1) := by decide +kernel
theorem dX12_takesMark_193 : decode cX12_takesMark 193 = .ok (.aload_n 0, 1) := by decide +kernel
theorem dX12_takesMark_194 : decode cX12_takesMark 194 = .ok (.dup, 1) := by decide +kernel
theorem dX12_takesMark_195 : decode cX12_takesMark 195 = .ok (.getfield 145, 3) := by decide +kernel
theorem dX12_takesMark_198 : decode cX12_takesMark 198 = .ok (.iconst 1, 1) := by decide +kernel
theorem dX12_takesMark_199 : decode cX12_takesMark 199 = .ok (.iadd, 1) := by decide +kernel
theorem dX12_takesMark_200 : decode cX12_takesMark 200 = .ok (.putfield 145, 3) := by decide +kernel
theorem dX12_takesMark_203 : decode cX12_takesMark 203 = .ok (.iconst 1, 1) := by decide +kernel
theorem dX12_takesMark_204 : decode cX12_takesMark 204 = .ok (.ireturn, 1) := by decide +kernel
theorem dX12_takesMark_205 : decode cX12_takesMark 205 = .ok (.iload_n 1, 1) := by decide +kernel
theorem dX12_takesMark_206 : decode cX12_takesMark 206 = .ok (.bipush 22, 2) := by decide +kernel
theorem dX12_takesMark_208 : decode cX12_takesMark 208 = .ok (.if_icmp .ne 45, 3) := by decide +kernel
theorem dX12_takesMark_211 : decode cX12_takesMark 211 = .ok (.iload_n 2, 1) := by decide +kernel
theorem dX12_takesMark_212 : decode cX12_takesMark 212 = .ok (.bipush 41, 2) := by decide +kernel
theorem dX12_takesMark_214 : decode cX12_takesMark 214 = .ok (.if_icmp .ne 39, 3) := by decide +kernel
theorem dX12_takesMark_217 : decode cX12_takesMark 217 = .ok (.aload_n 0, 1) := by decide +kernel
theorem dX12_takesMark_218 : decode cX12_takesMark 218 = .ok (.dup, 1) := by decide +kernel
theorem dX12_takesMark_219 : decode cX12_takesMark 219 = .ok (.getfield 139, 3) := by decide +kernel
theorem dX12_takesMark_222 : decode cX12_takesMark 222 = .ok (.iconst 1, 1) := by decide +kernel
theorem dX12_takesMark_223 : decode cX12_takesMark 223 = .ok (.isub, 1) := by decide +kernel
theorem dX12_takesMark_224 : decode cX12_takesMark 224 = .ok (.putfield 139, 3) := by decide +kernel
theorem dX12_takesMark_227 : decode cX12_takesMark 227 = .ok (.aload_n 0, 1) := by decide +kernel
theorem dX12_takesMark_228 : decode cX12_takesMark 228 = .ok (.dup, 1) := by decide +kernel
theorem dX12_takesMark_229 : decode cX12_takesMark 229 = .ok (.getfield 145, 3) := by decide +kernel
theorem dX12_takesMark_232 : decode cX12_takesMark 232 = .ok (.iconst 1, 1) := by decide +kernel
theorem dX12_takesMark_233 : decode cX12_takesMark 233 = .ok (.isub, 1) := by decide +kernel
theorem dX12_takesMark_234 : decode cX12_takesMark 234 = .ok (.putfield 145, 3) := by decide +kernel
theorem dX12_takesMark_237 : decode cX12_takesMark 237 = .ok (.aload_n 0, 1) := by decide +kernel
theorem dX12_takesMark_238 : decode cX12_takesMark 238 = .ok (.aload_n 0, 1) := by decide +kernel
theorem dX12_takesMark_239 : decode cX12_takesMark 239 = .ok (.getfield 20, 3) := by decide +kernel
theorem dX12_takesMark_242 : decode cX12_takesMark 242 = .ok (.aload_n 0, 1) := by decide +kernel
theorem dX12_takesMark_243 : decode cX12_takesMark 243 = .ok (.getfield 145, 3) := by decide +kernel
theorem dX12_takesMark_246 : decode cX12_takesMark 246 = .ok (.iaload, 1) := by decide +kernel
theorem dX12_takesMark_247 : decode cX12_takesMark 247 = .ok (.iconst 0, 1) := by decide +kernel
theorem dX12_takesMark_248 : decode cX12_takesMark 248 = .ok (.invokevirtual 148, 3) := by decide +kernel
theorem dX12_takesMark_251 : decode cX12_takesMark 251 = .ok (.iconst 1, 1) := by decide +kernel
theorem dX12_takesMark_252 : decode cX12_takesMark 252 = .ok (.ireturn, 1) := by decide +kernel
theorem dX12_takesMark_253 : decode cX12_takesMark 253 = .ok (.iconst 0, 1) := by decide +kernel
theorem dX12_takesMark_254 : decode cX12_takesMark 254 = .ok (.ireturn, 1) := by decide +kernel
theorem dX12_leaves_0 : decode cX12_leaves 0 = .ok (.iconst 1, 1) := by decide +kernel
theorem dX12_leaves_1 : decode cX12_leaves 1 = .ok (.istore_n 2, 1) := by decide +kernel
theorem dX12_leaves_2 : decode cX12_leaves 2 = .ok (.iload_n 2, 1) := by decide +kernel
theorem dX12_leaves_3 : decode cX12_leaves 3 = .ok (.ifCond .eq 151, 3) := by decide +kernel
theorem dX12_leaves_6 : decode cX12_leaves 6 = .ok (.aload_n 0, 1) := by decide +kernel
theorem dX12_leaves_7 : decode cX12_leaves 7 = .ok (.getfield 139, 3) := by decide +kernel
theorem dX12_leaves_10 : decode cX12_leaves 10 = .ok (.ifCond .le 144, 3) := by decide +kernel
theorem dX12_leaves_13 : decode cX12_leaves 13 = .ok (.aload_n 0, 1) := by decide +kernel
theorem dX12_leaves_14 : decode cX12_leaves 14 = .ok (.getfield 13, 3) := by decide +kernel
theorem dX12_leaves_17 : decode cX12_leaves 17 = .ok (.aload_n 0, 1) := by decide +kernel
theorem dX12_leaves_18 : decode cX12_leaves 18 = .ok (.getfield 139, 3) := by decide +kernel
theorem dX12_leaves_21 : decode cX12_leaves 21 = .ok (.iconst 1, 1) := by decide +kernel
theorem dX12_leaves_22 : decode cX12_leaves 22 = .ok (.isub, 1) := by decide +kernel
theorem dX12_leaves_23 : decode cX12_leaves 23 = .ok (.iaload, 1) := by decide +kernel
theorem dX12_leaves_24 : decode cX12_leaves 24 = .ok (.istore_n 3, 1) := by decide +kernel
theorem dX12_leaves_25 : decode cX12_leaves 25 = .ok (.iload_n 1, 1) := by decide +kernel
theorem dX12_leaves_26 : decode cX12_leaves 26 = .ok (.bipush 48, 2) := by decide +kernel
theorem dX12_leaves_28 : decode cX12_leaves 28 = .ok (.bipush 57, 2) := by decide +kernel
theorem dX12_leaves_30 : decode cX12_leaves 30 = .ok (.invokestatic 115, 3) := by decide +kernel
theorem dX12_leaves_33 : decode cX12_leaves 33 = .ok (.istore 4, 2) := by decide +kernel
theorem dX12_leaves_35 : decode cX12_leaves 35 = .ok (.iconst 0, 1) := by decide +kernel
theorem dX12_leaves_36 : decode cX12_leaves 36 = .ok (.istore_n 2, 1) := by decide +kernel
theorem dX12_leaves_37 : decode cX12_leaves 37 = .ok (.iload_n 3, 1) := by decide +kernel
theorem dX12_leaves_38 : decode cX12_leaves 38 = .ok (.bipush 11, 2) := by decide +kernel
theorem dX12_leaves_40 : decode cX12_leaves 40 = .ok (.if_icmp .ne 55, 3) := by decide +kernel
theorem dX12_leaves_43 : decode cX12_leaves 43 = .ok (.aload_n 0, 1) := by decide +kernel
theorem dX12_leaves_44 : decode cX12_leaves 44 = .ok (.getfield 183, 3) := by decide +kernel
theorem dX12_leaves_47 : decode cX12_leaves 47 = .ok (.ifCond .le 48, 3) := by decide +kernel
theorem dX12_leaves_50 : decode cX12_leaves 50 = .ok (.iload 4, 2) := by decide +kernel
theorem dX12_leaves_52 : decode cX12_leaves 52 = .ok (.ifCond .ne 43, 3) := by decide +kernel
theorem dX12_leaves_55 : decode cX12_leaves 55 = .ok (.aload_n 0, 1) := by decide +kernel
theorem dX12_leaves_56 : decode cX12_leaves 56 = .ok (.dup, 1) := by decide +kernel
theorem dX12_leaves_57 : decode cX12_leaves 57 = .ok (.getfield 156, 3) := by decide +kernel
theorem dX12_leaves_60 : decode cX12_leaves 60 = .ok (.aload_n 0, 1) := by decide +kernel
theorem dX12_leaves_61 : decode cX12_leaves 61 = .ok (.getfield 17, 3) := by decide +kernel
theorem dX12_leaves_64 : decode cX12_leaves 64 = .ok (.aload_n 0, 1) := by decide +kernel
theorem dX12_leaves_65 : decode cX12_leaves 65 = .ok (.getfield 139, 3) := by decide +kernel
theorem dX12_leaves_68 : decode cX12_leaves 68 = .ok (.iconst 1, 1) := by decide +kernel
theorem dX12_leaves_69 : decode cX12_leaves 69 = .ok (.isub, 1) := by decide +kernel
theorem dX12_leaves_70 : decode cX12_leaves 70 = .ok (.iaload, 1) := by decide +kernel
theorem dX12_leaves_71 : decode cX12_leaves 71 = .ok (.aload_n 0, 1) := by decide +kernel
theorem dX12_leaves_72 : decode cX12_leaves 72 = .ok (.getfield 180, 3) := by decide +kernel
theorem dX12_leaves_75 : decode cX12_leaves 75 = .ok (.imul, 1) := by decide +kernel
theorem dX12_leaves_76 : decode cX12_leaves 76 = .ok (.iadd, 1) := by decide +kernel
theorem dX12_leaves_77 : decode cX12_leaves 77 = .ok (.putfield 156, 3) := by decide +kernel
theorem dX12_leaves_80 : decode cX12_leaves 80 = .ok (.aload_n 0, 1) := by decide +kernel
theorem dX12_leaves_81 : decode cX12_leaves 81 = .ok (.dup, 1) := by decide +kernel
theorem dX12_leaves_82 : decode cX12_leaves 82 = .ok (.getfield 139, 3) := by decide +kernel
theorem dX12_leaves_85 : decode cX12_leaves 85 = .ok (.iconst 1, 1) := by decide +kernel
theorem dX12_leaves_86 : decode cX12_leaves 86 = .ok (.isub, 1) := by decide +kernel
theorem dX12_leaves_87 : decode cX12_leaves 87 = .ok (.putfield 139, 3) := by decide +kernel
theorem dX12_leaves_90 : decode cX12_leaves 90 = .ok (.iconst 1, 1) := by decide +kernel
theorem dX12_leaves_91 : decode cX12_leaves 91 = .ok (.istore_n 2, 1) := by decide +kernel
theorem dX12_leaves_92 : decode cX12_leaves 92 = .ok (.goto 59, 3) := by decide +kernel
theorem dX12_leaves_95 : decode cX12_leaves 95 = .ok (.iload_n 3, 1) := by decide +kernel
theorem dX12_leaves_96 : decode cX12_leaves 96 = .ok (.bipush 6, 2) := by decide +kernel
theorem dX12_leaves_98 : decode cX12_leaves 98 = .ok (.if_icmp .ne 28, 3) := by decide +kernel
theorem dX12_leaves_101 : decode cX12_leaves 101 = .ok (.iload_n 1, 1) := by decide +kernel
theorem dX12_leaves_102 : decode cX12_leaves 102 = .ok (.bipush 123, 2) := by decide +kernel
theorem dX12_leaves_104 : decode cX12_leaves 104 = .ok (.if_icmp .eq 22, 3) := by decide +kernel
theorem dX12_leaves_107 : decode cX12_leaves 107 = .ok (.aload_n 0, 1) := by decide +kernel
theorem dX12_leaves_108 : decode cX12_leaves 108 = .ok (.invokevirtual 192, 3) := by decide +kernel
theorem dX12_leaves_111 : decode cX12_leaves 111 = .ok (.aload_n 0, 1) := by decide +kernel
theorem dX12_leaves_112 : decode cX12_leaves 112 = .ok (.dup, 1) := by decide +kernel
theorem dX12_leaves_113 : decode cX12_leaves 113 = .ok (.getfield 139, 3) := by decide +kernel
theorem dX12_leaves_116 : decode cX12_leaves 116 = .ok (.iconst 1, 1) := by decide +kernel
theorem dX12_leaves_117 : decode cX12_leaves 117 = .ok (.isub, 1) := by decide +kernel
theorem dX12_leaves_118 : decode cX12_leaves 118 = .ok (.putfield 139, 3) := by decide +kernel
theorem dX12_leaves_121 : decode cX12_leaves 121 = .ok (.iconst 1, 1) := by decide +kernel
theorem dX12_leaves_122 : decode cX12_leaves 122 = .ok (.istore_n 2, 1) := by decide +kernel
theorem dX12_leaves_123 : decode cX12_leaves 123 = .ok (.goto 28, 3) := by decide +kernel
theorem dX12_leaves_126 : decode cX12_leaves 126 = .ok (.iload_n 3, 1) := by decide +kernel
theorem dX12_leaves_127 : decode cX12_leaves 127 = .ok (.iconst 2, 1) := by decide +kernel
theorem dX12_leaves_128 : decode cX12_leaves 128 = .ok (.if_icmp .ne 23, 3) := by decide +kernel
theorem dX12_leaves_131 : decode cX12_leaves 131 = .ok (.iload_n 1, 1) := by decide +kernel
theorem dX12_leaves_132 : decode cX12_leaves 132 = .ok (.bipush 125, 2) := by decide +kernel
theorem dX12_leaves_134 : decode cX12_leaves 134 = .ok (.if_icmp .ne 17, 3) := by decide +kernel
theorem dX12_leaves_137 : decode cX12_leaves 137 = .ok (.aload_n 0, 1) := by decide +kernel
theorem dX12_leaves_138 : decode cX12_leaves 138 = .ok (.invokevirtual 186, 3) := by decide +kernel
theorem dX12_leaves_141 : decode cX12_leaves 141 = .ok (.aload_n 0, 1) := by decide +kernel
theorem dX12_leaves_142 : decode cX12_leaves 142 = .ok (.dup, 1) := by decide +kernel
theorem dX12_leaves_143 : decode cX12_leaves 143 = .ok (.getfield 139, 3) := by decide +kernel
theorem dX12_leaves_146 : decode cX12_leaves 146 = .ok (.iconst 1, 1) := by decide +kernel
theorem dX12_leaves_147 : decode cX12_leaves 147 = .ok (.isub, 1) := by decide +kernel
theorem dX12_leaves_148 : decode cX12_leaves 148 = .ok (.putfield 139, 3) := by decide +kernel
theorem dX12_leaves_151 : decode cX12_leaves 151 = .ok (.goto (-149), 3) := by decide +kernel
theorem dX12_leaves_154 : decode cX12_leaves 154 = .ok (.return_, 1) := by decide +kernel
theorem dX12_takesNumber_0 : decode cX12_takesNumber 0 = .ok (.iload_n 1, 1) := by decide +kernel
theorem dX12_takesNumber_1 : decode cX12_takesNumber 1 = .ok (.bipush 48, 2) := by decide +kernel
theorem dX12_takesNumber_3 : decode cX12_takesNumber 3 = .ok (.isub, 1) := by decide +kernel
theorem dX12_takesNumber_4 : decode cX12_takesNumber 4 = .ok (.istore_n 2, 1) := by decide +kernel
theorem dX12_takesNumber_5 : decode cX12_takesNumber 5 = .ok (.iload_n 2, 1) := by decide +kernel
theorem dX12_takesNumber_6 : decode cX12_takesNumber 6 = .ok (.iconst 0, 1) := by decide +kernel
theorem dX12_takesNumber_7 : decode cX12_takesNumber 7 = .ok (.bipush 9, 2) := by decide +kernel
theorem dX12_takesNumber_9 : decode cX12_takesNumber 9 = .ok (.invokestatic 115, 3) := by decide +kernel
theorem dX12_takesNumber_12 : decode cX12_takesNumber 12 = .ok (.ifCond .eq 26, 3) := by decide +kernel
theorem dX12_takesNumber_15 : decode cX12_takesNumber 15 = .ok (.aload_n 0, 1) := by decide +kernel
theorem dX12_takesNumber_16 : decode cX12_takesNumber 16 = .ok (.getfield 183, 3) := by decide +kernel
theorem dX12_takesNumber_19 : decode cX12_takesNumber 19 = .ok (.iconst 3, 1) := by decide +kernel
theorem dX12_takesNumber_20 : decode cX12_takesNumber 20 = .ok (.if_icmp .eq 18, 3) := by decide +kernel
theorem dX12_takesNumber_23 : decode cX12_takesNumber 23 = .ok (.bipush 10, 2) := by decide +kernel
theorem dX12_takesNumber_25 : decode cX12_takesNumber 25 = .ok (.aload_n 0, 1) := by decide +kernel
theorem dX12_takesNumber_26 : decode cX12_takesNumber 26 = .ok (.getfield 180, 3) := by decide +kernel
theorem dX12_takesNumber_29 : decode cX12_takesNumber 29 = .ok (.imul, 1) := by decide +kernel
theorem dX12_takesNumber_30 : decode cX12_takesNumber 30 = .ok (.iload_n 2, 1) := by decide +kernel
theorem dX12_takesNumber_31 : decode cX12_takesNumber 31 = .ok (.iadd, 1) := by decide +kernel
theorem dX12_takesNumber_32 : decode cX12_takesNumber 32 = .ok (.sipush 366, 3) := by decide +kernel
theorem dX12_takesNumber_35 : decode cX12_takesNumber 35 = .ok (.if_icmp .le 5, 3) := by decide +kernel
theorem dX12_takesNumber_38 : decode cX12_takesNumber 38 = .ok (.iconst 0, 1) := by decide +kernel
theorem dX12_takesNumber_39 : decode cX12_takesNumber 39 = .ok (.ireturn, 1) := by decide +kernel
theorem dX12_takesNumber_40 : decode cX12_takesNumber 40 = .ok (.aload_n 0, 1) := by decide +kernel
theorem dX12_takesNumber_41 : decode cX12_takesNumber 41 = .ok (.bipush 10, 2) := by decide +kernel
theorem dX12_takesNumber_43 : decode cX12_takesNumber 43 = .ok (.aload_n 0, 1) := by decide +kernel
theorem dX12_takesNumber_44 : decode cX12_takesNumber 44 = .ok (.getfield 180, 3) := by decide +kernel
theorem dX12_takesNumber_47 : decode cX12_takesNumber 47 = .ok (.imul, 1) := by decide +kernel
theorem dX12_takesNumber_48 : decode cX12_takesNumber 48 = .ok (.iload_n 2, 1) := by decide +kernel
theorem dX12_takesNumber_49 : decode cX12_takesNumber 49 = .ok (.iadd, 1) := by decide +kernel
theorem dX12_takesNumber_50 : decode cX12_takesNumber 50 = .ok (.putfield 180, 3) := by decide +kernel
theorem dX12_takesNumber_53 : decode cX12_takesNumber 53 = .ok (.aload_n 0, 1) := by decide +kernel
theorem dX12_takesNumber_54 : decode cX12_takesNumber 54 = .ok (.dup, 1) := by decide +kernel
theorem dX12_takesNumber_55 : decode cX12_takesNumber 55 = .ok (.getfield 183, 3) := by decide +kernel
theorem dX12_takesNumber_58 : decode cX12_takesNumber 58 = .ok (.iconst 1, 1) := by decide +kernel
theorem dX12_takesNumber_59 : decode cX12_takesNumber 59 = .ok (.iadd, 1) := by decide +kernel
theorem dX12_takesNumber_60 : decode cX12_takesNumber 60 = .ok (.putfield 183, 3) := by decide +kernel
theorem dX12_takesNumber_63 : decode cX12_takesNumber 63 = .ok (.iconst 1, 1) := by decide +kernel
theorem dX12_takesNumber_64 : decode cX12_takesNumber 64 = .ok (.ireturn, 1) := by decide +kernel
theorem dX12_takes_0 : decode cX12_takes 0 = .ok (.aload_n 0, 1) := by decide +kernel
theorem dX12_takes_1 : decode cX12_takes 1 = .ok (.iload_n 1, 1) := by decide +kernel
theorem dX12_takes_2 : decode cX12_takes 2 = .ok (.invokevirtual 195, 3) := by decide +kernel
theorem dX12_takes_5 : decode cX12_takes 5 = .ok (.aload_n 0, 1) := by decide +kernel
theorem dX12_takes_6 : decode cX12_takes 6 = .ok (.getfield 139, 3) := by decide +kernel
theorem dX12_takes_9 : decode cX12_takes 9 = .ok (.ifCond .ne 5, 3) := by decide +kernel
theorem dX12_takes_12 : decode cX12_takes 12 = .ok (.iconst 0, 1) := by decide +kernel
theorem dX12_takes_13 : decode cX12_takes 13 = .ok (.ireturn, 1) := by decide +kernel
theorem dX12_takes_14 : decode cX12_takes 14 = .ok (.aload_n 0, 1) := by decide +kernel
theorem dX12_takes_15 : decode cX12_takes 15 = .ok (.getfield 13, 3) := by decide +kernel
theorem dX12_takes_18 : decode cX12_takes 18 = .ok (.aload_n 0, 1) := by decide +kernel
theorem dX12_takes_19 : decode cX12_takes 19 = .ok (.getfield 139, 3) := by decide +kernel
theorem dX12_takes_22 : decode cX12_takes 22 = .ok (.iconst 1, 1) := by decide +kernel
theorem dX12_takes_23 : decode cX12_takes 23 = .ok (.isub, 1) := by decide +kernel
theorem dX12_takes_24 : decode cX12_takes 24 = .ok (.iaload, 1) := by decide +kernel
theorem dX12_takes_25 : decode cX12_takes 25 = .ok (.istore_n 2, 1) := by decide +kernel
theorem dX12_takes_26 : decode cX12_takes 26 = .ok (.iload_n 2, 1) := by decide +kernel
theorem dX12_takes_27 : decode cX12_takes 27 = .ok (.ifCond .ne 9, 3) := by decide +kernel
theorem dX12_takes_30 : decode cX12_takes 30 = .ok (.aload_n 0, 1) := by decide +kernel
theorem dX12_takes_31 : decode cX12_takes 31 = .ok (.iload_n 1, 1) := by decide +kernel
theorem dX12_takes_32 : decode cX12_takes 32 = .ok (.invokevirtual 199, 3) := by decide +kernel
theorem dX12_takes_35 : decode cX12_takes 35 = .ok (.ireturn, 1) := by decide +kernel
theorem dX12_takes_36 : decode cX12_takes 36 = .ok (.iload_n 2, 1) := by decide +kernel
theorem dX12_takes_37 : decode cX12_takes 37 = .ok (.iconst 1, 1) := by decide +kernel
theorem dX12_takes_38 : decode cX12_takes 38 = .ok (.if_icmp .eq 8, 3) := by decide +kernel
theorem dX12_takes_41 : decode cX12_takes 41 = .ok (.iload_n 2, 1) := by decide +kernel
theorem dX12_takes_42 : decode cX12_takes 42 = .ok (.iconst 2, 1) := by decide +kernel
theorem dX12_takes_43 : decode cX12_takes 43 = .ok (.if_icmp .ne 9, 3) := by decide +kernel
theorem dX12_takes_46 : decode cX12_takes 46 = .ok (.aload_n 0, 1) := by decide +kernel
theorem dX12_takes_47 : decode cX12_takes 47 = .ok (.iload_n 1, 1) := by decide +kernel
theorem dX12_takes_48 : decode cX12_takes 48 = .ok (.invokevirtual 203, 3) := by decide +kernel
theorem dX12_takes_51 : decode cX12_takes 51 = .ok (.ireturn, 1) := by decide +kernel
theorem dX12_takes_52 : decode cX12_takes 52 = .ok (.iload_n 2, 1) := by decide +kernel
theorem dX12_takes_53 : decode cX12_takes 53 = .ok (.iconst 3, 1) := by decide +kernel
theorem dX12_takes_54 : decode cX12_takes 54 = .ok (.if_icmp .ne 9, 3) := by decide +kernel
theorem dX12_takes_57 : decode cX12_takes 57 = .ok (.aload_n 0, 1) := by decide +kernel
theorem dX12_takes_58 : decode cX12_takes 58 = .ok (.iload_n 1, 1) := by decide +kernel
theorem dX12_takes_59 : decode cX12_takes 59 = .ok (.invokevirtual 206, 3) := by decide +kernel
theorem dX12_takes_62 : decode cX12_takes 62 = .ok (.ireturn, 1) := by decide +kernel
theorem dX12_takes_63 : decode cX12_takes 63 = .ok (.iload_n 2, 1) := by decide +kernel
theorem dX12_takes_64 : decode cX12_takes 64 = .ok (.bipush 20, 2) := by decide +kernel
theorem dX12_takes_66 : decode cX12_takes 66 = .ok (.if_icmp .ne 9, 3) := by decide +kernel
theorem dX12_takes_69 : decode cX12_takes 69 = .ok (.aload_n 0, 1) := by decide +kernel
theorem dX12_takes_70 : decode cX12_takes 70 = .ok (.iload_n 1, 1) := by decide +kernel
theorem dX12_takes_71 : decode cX12_takes 71 = .ok (.invokevirtual 209, 3) := by decide +kernel
theorem dX12_takes_74 : decode cX12_takes 74 = .ok (.ireturn, 1) := by decide +kernel
theorem dX12_takes_75 : decode cX12_takes 75 = .ok (.iload_n 2, 1) := by decide +kernel
theorem dX12_takes_76 : decode cX12_takes 76 = .ok (.bipush 11, 2) := by decide +kernel
theorem dX12_takes_78 : decode cX12_takes 78 = .ok (.if_icmp .ne 9, 3) := by decide +kernel
theorem dX12_takes_81 : decode cX12_takes 81 = .ok (.aload_n 0, 1) := by decide +kernel
theorem dX12_takes_82 : decode cX12_takes 82 = .ok (.iload_n 1, 1) := by decide +kernel
theorem dX12_takes_83 : decode cX12_takes 83 = .ok (.invokevirtual 212, 3) := by decide +kernel
theorem dX12_takes_86 : decode cX12_takes 86 = .ok (.ireturn, 1) := by decide +kernel
theorem dX12_takes_87 : decode cX12_takes 87 = .ok (.iload_n 2, 1) := by decide +kernel
theorem dX12_takes_88 : decode cX12_takes 88 = .ok (.bipush 6, 2) := by decide +kernel
theorem dX12_takes_90 : decode cX12_takes 90 = .ok (.if_icmp .ne 62, 3) := by decide +kernel
theorem dX12_takes_93 : decode cX12_takes 93 = .ok (.aload_n 0, 1) := by decide +kernel
theorem dX12_takes_94 : decode cX12_takes 94 = .ok (.getfield 20, 3) := by decide +kernel
theorem dX12_takes_97 : decode cX12_takes 97 = .ok (.aload_n 0, 1) := by decide +kernel
theorem dX12_takes_98 : decode cX12_takes 98 = .ok (.getfield 145, 3) := by decide +kernel
theorem dX12_takes_101 : decode cX12_takes 101 = .ok (.iconst 1, 1) := by decide +kernel
theorem dX12_takes_102 : decode cX12_takes 102 = .ok (.isub, 1) := by decide +kernel
theorem dX12_takes_103 : decode cX12_takes 103 = .ok (.iaload, 1) := by decide +kernel
theorem dX12_takes_104 : decode cX12_takes 104 = .ok (.istore_n 3, 1) := by decide +kernel
theorem dX12_takes_105 : decode cX12_takes 105 = .ok (.aload_n 0, 1) := by decide +kernel
theorem dX12_takes_106 : decode cX12_takes 106 = .ok (.dup, 1) := by decide +kernel
theorem dX12_takes_107 : decode cX12_takes 107 = .ok (.getfield 145, 3) := by decide +kernel
theorem dX12_takes_110 : decode cX12_takes 110 = .ok (.iconst 1, 1) := by decide +kernel
theorem dX12_takes_111 : decode cX12_takes 111 = .ok (.isub, 1) := by decide +kernel
theorem dX12_takes_112 : decode cX12_takes 112 = .ok (.putfield 145, 3) := by decide +kernel
theorem dX12_takes_115 : decode cX12_takes 115 = .ok (.aload_n 0, 1) := by decide +kernel
theorem dX12_takes_116 : decode cX12_takes 116 = .ok (.bipush 18, 2) := by decide +kernel
theorem dX12_takes_118 : decode cX12_takes 118 = .ok (.invokevirtual 189, 3) := by decide +kernel
theorem dX12_takes_121 : decode cX12_takes 121 = .ok (.aload_n 0, 1) := by decide +kernel
theorem dX12_takes_122 : decode cX12_takes 122 = .ok (.getfield 26, 3) := by decide +kernel
theorem dX12_takes_125 : decode cX12_takes 125 = .ok (.iload_n 3, 1) := by decide +kernel
theorem dX12_takes_126 : decode cX12_takes 126 = .ok (.aload_n 0, 1) := by decide +kernel
theorem dX12_takes_127 : decode cX12_takes 127 = .ok (.getfield 142, 3) := by decide +kernel
theorem dX12_takes_130 : decode cX12_takes 130 = .ok (.iastore, 1) := by decide +kernel
theorem dX12_takes_131 : decode cX12_takes 131 = .ok (.aload_n 0, 1) := by decide +kernel
theorem dX12_takes_132 : decode cX12_takes 132 = .ok (.getfield 13, 3) := by decide +kernel
theorem dX12_takes_135 : decode cX12_takes 135 = .ok (.aload_n 0, 1) := by decide +kernel
theorem dX12_takes_136 : decode cX12_takes 136 = .ok (.getfield 139, 3) := by decide +kernel
theorem dX12_takes_139 : decode cX12_takes 139 = .ok (.iconst 1, 1) := by decide +kernel
theorem dX12_takes_140 : decode cX12_takes 140 = .ok (.isub, 1) := by decide +kernel
theorem dX12_takes_141 : decode cX12_takes 141 = .ok (.bipush 7, 2) := by decide +kernel
theorem dX12_takes_143 : decode cX12_takes 143 = .ok (.iastore, 1) := by decide +kernel
theorem dX12_takes_144 : decode cX12_takes 144 = .ok (.aload_n 0, 1) := by decide +kernel
theorem dX12_takes_145 : decode cX12_takes 145 = .ok (.iconst 2, 1) := by decide +kernel
theorem dX12_takes_146 : decode cX12_takes 146 = .ok (.iconst 0, 1) := by decide +kernel
theorem dX12_takes_147 : decode cX12_takes 147 = .ok (.invokevirtual 159, 3) := by decide +kernel
theorem dX12_takes_150 : decode cX12_takes 150 = .ok (.iconst 1, 1) := by decide +kernel
theorem dX12_takes_151 : decode cX12_takes 151 = .ok (.ireturn, 1) := by decide +kernel
theorem dX12_takes_152 : decode cX12_takes 152 = .ok (.iload_n 2, 1) := by decide +kernel
theorem dX12_takes_153 : decode cX12_takes 153 = .ok (.bipush 12, 2) := by decide +kernel
theorem dX12_takes_155 : decode cX12_takes 155 = .ok (.if_icmp .lt 18, 3) := by decide +kernel
theorem dX12_takes_158 : decode cX12_takes 158 = .ok (.iload_n 2, 1) := by decide +kernel
theorem dX12_takes_159 : decode cX12_takes 159 = .ok (.bipush 19, 2) := by decide +kernel
theorem dX12_takes_161 : decode cX12_takes 161 = .ok (.if_icmp .gt 12, 3) := by decide +kernel
theorem dX12_takes_164 : decode cX12_takes 164 = .ok (.aload_n 0, 1) := by decide +kernel
theorem dX12_takes_165 : decode cX12_takes 165 = .ok (.iload_n 2, 1) := by decide +kernel
theorem dX12_takes_166 : decode cX12_takes 166 = .ok (.iload_n 1, 1) := by decide +kernel
theorem dX12_takes_167 : decode cX12_takes 167 = .ok (.invokevirtual 215, 3) := by decide +kernel
theorem dX12_takes_170 : decode cX12_takes 170 = .ok (.goto 9, 3) := by decide +kernel
theorem dX12_takes_173 : decode cX12_takes 173 = .ok (.aload_n 0, 1) := by decide +kernel
theorem dX12_takes_174 : decode cX12_takes 174 = .ok (.iload_n 2, 1) := by decide +kernel
theorem dX12_takes_175 : decode cX12_takes 175 = .ok (.iload_n 1, 1) := by decide +kernel
theorem dX12_takes_176 : decode cX12_takes 176 = .ok (.invokevirtual 219, 3) := by decide +kernel
theorem dX12_takes_179 : decode cX12_takes 179 = .ok (.ireturn, 1) := by decide +kernel
theorem dX12_reads_0 : decode cX12_reads 0 = .ok (.aload_n 0, 1) := by decide +kernel
theorem dX12_reads_1 : decode cX12_reads 1 = .ok (.iconst 0, 1) := by decide +kernel
theorem dX12_reads_2 : decode cX12_reads 2 = .ok (.putfield 139, 3) := by decide +kernel
theorem dX12_reads_5 : decode cX12_reads 5 = .ok (.aload_n 0, 1) := by decide +kernel
theorem dX12_reads_6 : decode cX12_reads 6 = .ok (.iconst 0, 1) := by decide +kernel
theorem dX12_reads_7 : decode cX12_reads 7 = .ok (.putfield 145, 3) := by decide +kernel
theorem dX12_reads_10 : decode cX12_reads 10 = .ok (.aload_n 0, 1) := by decide +kernel
theorem dX12_reads_11 : decode cX12_reads 11 = .ok (.iconst 0, 1) := by decide +kernel
theorem dX12_reads_12 : decode cX12_reads 12 = .ok (.putfield 142, 3) := by decide +kernel
theorem dX12_reads_15 : decode cX12_reads 15 = .ok (.aload_n 0, 1) := by decide +kernel
theorem dX12_reads_16 : decode cX12_reads 16 = .ok (.iconst 0, 1) := by decide +kernel
theorem dX12_reads_17 : decode cX12_reads 17 = .ok (.putfield 165, 3) := by decide +kernel
theorem dX12_reads_20 : decode cX12_reads 20 = .ok (.aload_n 0, 1) := by decide +kernel
theorem dX12_reads_21 : decode cX12_reads 21 = .ok (.iconst 0, 1) := by decide +kernel
theorem dX12_reads_22 : decode cX12_reads 22 = .ok (.putfield 168, 3) := by decide +kernel
theorem dX12_reads_25 : decode cX12_reads 25 = .ok (.aload_n 0, 1) := by decide +kernel
theorem dX12_reads_26 : decode cX12_reads 26 = .ok (.iconst 0, 1) := by decide +kernel
theorem dX12_reads_27 : decode cX12_reads 27 = .ok (.putfield 152, 3) := by decide +kernel
theorem dX12_reads_30 : decode cX12_reads 30 = .ok (.aload_n 0, 1) := by decide +kernel
theorem dX12_reads_31 : decode cX12_reads 31 = .ok (.iconst 0, 1) := by decide +kernel
theorem dX12_reads_32 : decode cX12_reads 32 = .ok (.putfield 156, 3) := by decide +kernel
theorem dX12_reads_35 : decode cX12_reads 35 = .ok (.aload_n 0, 1) := by decide +kernel
theorem dX12_reads_36 : decode cX12_reads 36 = .ok (.iload_n 1, 1) := by decide +kernel
theorem dX12_reads_37 : decode cX12_reads 37 = .ok (.iconst 0, 1) := by decide +kernel
theorem dX12_reads_38 : decode cX12_reads 38 = .ok (.invokevirtual 159, 3) := by decide +kernel
theorem dX12_reads_41 : decode cX12_reads 41 = .ok (.iconst 0, 1) := by decide +kernel
theorem dX12_reads_42 : decode cX12_reads 42 = .ok (.istore_n 2, 1) := by decide +kernel
theorem dX12_reads_43 : decode cX12_reads 43 = .ok (.iload_n 2, 1) := by decide +kernel
theorem dX12_reads_44 : decode cX12_reads 44 = .ok (.aload_n 0, 1) := by decide +kernel
theorem dX12_reads_45 : decode cX12_reads 45 = .ok (.getfield 136, 3) := by decide +kernel
theorem dX12_reads_48 : decode cX12_reads 48 = .ok (.if_icmp .ge 28, 3) := by decide +kernel
theorem dX12_reads_51 : decode cX12_reads 51 = .ok (.aload_n 0, 1) := by decide +kernel
theorem dX12_reads_52 : decode cX12_reads 52 = .ok (.aload_n 0, 1) := by decide +kernel
theorem dX12_reads_53 : decode cX12_reads 53 = .ok (.getfield 7, 3) := by decide +kernel
theorem dX12_reads_56 : decode cX12_reads 56 = .ok (.iload_n 2, 1) := by decide +kernel
theorem dX12_reads_57 : decode cX12_reads 57 = .ok (.caload, 1) := by decide +kernel
theorem dX12_reads_58 : decode cX12_reads 58 = .ok (.invokevirtual 222, 3) := by decide +kernel
theorem dX12_reads_61 : decode cX12_reads 61 = .ok (.ifCond .ne 5, 3) := by decide +kernel
theorem dX12_reads_64 : decode cX12_reads 64 = .ok (.iload_n 2, 1) := by decide +kernel
theorem dX12_reads_65 : decode cX12_reads 65 = .ok (.ireturn, 1) := by decide +kernel
theorem dX12_reads_66 : decode cX12_reads 66 = .ok (.aload_n 0, 1) := by decide +kernel
theorem dX12_reads_67 : decode cX12_reads 67 = .ok (.invokevirtual 225, 3) := by decide +kernel
theorem dX12_reads_70 : decode cX12_reads 70 = .ok (.iinc 2 1, 3) := by decide +kernel
theorem dX12_reads_73 : decode cX12_reads 73 = .ok (.goto (-30), 3) := by decide +kernel
theorem dX12_reads_76 : decode cX12_reads 76 = .ok (.aload_n 0, 1) := by decide +kernel
theorem dX12_reads_77 : decode cX12_reads 77 = .ok (.iconst 0, 1) := by decide +kernel
theorem dX12_reads_78 : decode cX12_reads 78 = .ok (.invokevirtual 195, 3) := by decide +kernel
theorem dX12_reads_81 : decode cX12_reads 81 = .ok (.aload_n 0, 1) := by decide +kernel
theorem dX12_reads_82 : decode cX12_reads 82 = .ok (.getfield 139, 3) := by decide +kernel
theorem dX12_reads_85 : decode cX12_reads 85 = .ok (.iconst 1, 1) := by decide +kernel
theorem dX12_reads_86 : decode cX12_reads 86 = .ok (.if_icmp .ne 19, 3) := by decide +kernel
theorem dX12_reads_89 : decode cX12_reads 89 = .ok (.aload_n 0, 1) := by decide +kernel
theorem dX12_reads_90 : decode cX12_reads 90 = .ok (.getfield 13, 3) := by decide +kernel
theorem dX12_reads_93 : decode cX12_reads 93 = .ok (.iconst 0, 1) := by decide +kernel
theorem dX12_reads_94 : decode cX12_reads 94 = .ok (.iaload, 1) := by decide +kernel
theorem dX12_reads_95 : decode cX12_reads 95 = .ok (.iconst 1, 1) := by decide +kernel
theorem dX12_reads_96 : decode cX12_reads 96 = .ok (.if_icmp .ne 9, 3) := by decide +kernel
theorem dX12_reads_99 : decode cX12_reads 99 = .ok (.aload_n 0, 1) := by decide +kernel
theorem dX12_reads_100 : decode cX12_reads 100 = .ok (.invokevirtual 186, 3) := by decide +kernel
theorem dX12_reads_103 : decode cX12_reads 103 = .ok (.iconst (-1), 1) := by decide +kernel
theorem dX12_reads_104 : decode cX12_reads 104 = .ok (.ireturn, 1) := by decide +kernel
theorem dX12_reads_105 : decode cX12_reads 105 = .ok (.aload_n 0, 1) := by decide +kernel
theorem dX12_reads_106 : decode cX12_reads 106 = .ok (.getfield 139, 3) := by decide +kernel
theorem dX12_reads_109 : decode cX12_reads 109 = .ok (.ifCond .ne 7, 3) := by decide +kernel
theorem dX12_reads_112 : decode cX12_reads 112 = .ok (.iconst (-1), 1) := by decide +kernel
theorem dX12_reads_113 : decode cX12_reads 113 = .ok (.goto 7, 3) := by decide +kernel
theorem dX12_reads_116 : decode cX12_reads 116 = .ok (.aload_n 0, 1) := by decide +kernel
theorem dX12_reads_117 : decode cX12_reads 117 = .ok (.getfield 136, 3) := by decide +kernel
theorem dX12_reads_120 : decode cX12_reads 120 = .ok (.ireturn, 1) := by decide +kernel
theorem dX12_fault_0 : decode cX12_fault 0 = .ok (.aload_n 0, 1) := by decide +kernel
theorem dX12_fault_1 : decode cX12_fault 1 = .ok (.iconst 0, 1) := by decide +kernel
theorem dX12_fault_2 : decode cX12_fault 2 = .ok (.putfield 93, 3) := by decide +kernel
theorem dX12_fault_5 : decode cX12_fault 5 = .ok (.aload_n 0, 1) := by decide +kernel
theorem dX12_fault_6 : decode cX12_fault 6 = .ok (.iconst 0, 1) := by decide +kernel
theorem dX12_fault_7 : decode cX12_fault 7 = .ok (.invokevirtual 228, 3) := by decide +kernel
theorem dX12_fault_10 : decode cX12_fault 10 = .ok (.ireturn, 1) := by decide +kernel
theorem dX12_questionFault_0 : decode cX12_questionFault 0 = .ok (.aload_n 0, 1) := by decide +kernel
theorem dX12_questionFault_1 : decode cX12_questionFault 1 = .ok (.iconst 0, 1) := by decide +kernel
theorem dX12_questionFault_2 : decode cX12_questionFault 2 = .ok (.putfield 93, 3) := by decide +kernel
theorem dX12_questionFault_5 : decode cX12_questionFault 5 = .ok (.aload_n 0, 1) := by decide +kernel
theorem dX12_questionFault_6 : decode cX12_questionFault 6 = .ok (.bipush 20, 2) := by decide +kernel
theorem dX12_questionFault_8 : decode cX12_questionFault 8 = .ok (.invokevirtual 228, 3) := by decide +kernel
theorem dX12_questionFault_11 : decode cX12_questionFault 11 = .ok (.ireturn, 1) := by decide +kernel
theorem dX12_areThere_0 : decode cX12_areThere 0 = .ok (.iconst 1, 1) := by decide +kernel
theorem dX12_areThere_1 : decode cX12_areThere 1 = .ok (.istore_n 1, 1) := by decide +kernel
theorem dX12_areThere_2 : decode cX12_areThere 2 = .ok (.iconst 0, 1) := by decide +kernel
theorem dX12_areThere_3 : decode cX12_areThere 3 = .ok (.istore_n 2, 1) := by decide +kernel
theorem dX12_areThere_4 : decode cX12_areThere 4 = .ok (.iload_n 2, 1) := by decide +kernel
theorem dX12_areThere_5 : decode cX12_areThere 5 = .ok (.aload_n 0, 1) := by decide +kernel
theorem dX12_areThere_6 : decode cX12_areThere 6 = .ok (.getfield 142, 3) := by decide +kernel
theorem dX12_areThere_9 : decode cX12_areThere 9 = .ok (.if_icmp .ge 53, 3) := by decide +kernel
theorem dX12_areThere_12 : decode cX12_areThere 12 = .ok (.iload_n 1, 1) := by decide +kernel
theorem dX12_areThere_13 : decode cX12_areThere 13 = .ok (.ifCond .eq 41, 3) := by decide +kernel
theorem dX12_areThere_16 : decode cX12_areThere 16 = .ok (.aload_n 0, 1) := by decide +kernel
theorem dX12_areThere_17 : decode cX12_areThere 17 = .ok (.getfield 23, 3) := by decide +kernel
theorem dX12_areThere_20 : decode cX12_areThere 20 = .ok (.iload_n 2, 1) := by decide +kernel
theorem dX12_areThere_21 : decode cX12_areThere 21 = .ok (.iaload, 1) := by decide +kernel
theorem dX12_areThere_22 : decode cX12_areThere 22 = .ok (.iconst 4, 1) := by decide +kernel
theorem dX12_areThere_23 : decode cX12_areThere 23 = .ok (.if_icmp .eq 14, 3) := by decide +kernel
theorem dX12_areThere_26 : decode cX12_areThere 26 = .ok (.aload_n 0, 1) := by decide +kernel
theorem dX12_areThere_27 : decode cX12_areThere 27 = .ok (.getfield 23, 3) := by decide +kernel
theorem dX12_areThere_30 : decode cX12_areThere 30 = .ok (.iload_n 2, 1) := by decide +kernel
theorem dX12_areThere_31 : decode cX12_areThere 31 = .ok (.iaload, 1) := by decide +kernel
theorem dX12_areThere_32 : decode cX12_areThere 32 = .ok (.bipush 15, 2) := by decide +kernel
theorem dX12_areThere_34 : decode cX12_areThere 34 = .ok (.if_icmp .ne 16, 3) := by decide +kernel
theorem dX12_areThere_37 : decode cX12_areThere 37 = .ok (.aload_n 0, 1) := by decide +kernel
theorem dX12_areThere_38 : decode cX12_areThere 38 = .ok (.getfield 26, 3) := by decide +kernel
theorem dX12_areThere_41 : decode cX12_areThere 41 = .ok (.iload_n 2, 1) := by decide +kernel
theorem dX12_areThere_42 : decode cX12_areThere 42 = .ok (.iaload, 1) := by decide +kernel
theorem dX12_areThere_43 : decode cX12_areThere 43 = .ok (.aload_n 0, 1) := by decide +kernel
theorem dX12_areThere_44 : decode cX12_areThere 44 = .ok (.getfield 231, 3) := by decide +kernel
theorem dX12_areThere_47 : decode cX12_areThere 47 = .ok (.if_icmp .ge 7, 3) := by decide +kernel
theorem dX12_areThere_50 : decode cX12_areThere 50 = .ok (.iconst 1, 1) := by decide +kernel
theorem dX12_areThere_51 : decode cX12_areThere 51 = .ok (.goto 4, 3) := by decide +kernel
theorem dX12_areThere_54 : decode cX12_areThere 54 = .ok (.iconst 0, 1) := by decide +kernel
theorem dX12_areThere_55 : decode cX12_areThere 55 = .ok (.istore_n 1, 1) := by decide +kernel
theorem dX12_areThere_56 : decode cX12_areThere 56 = .ok (.iinc 2 1, 3) := by decide +kernel
theorem dX12_areThere_59 : decode cX12_areThere 59 = .ok (.goto (-55), 3) := by decide +kernel
theorem dX12_areThere_62 : decode cX12_areThere 62 = .ok (.iload_n 1, 1) := by decide +kernel
theorem dX12_areThere_63 : decode cX12_areThere 63 = .ok (.ireturn, 1) := by decide +kernel
theorem dX12_keeps_0 : decode cX12_keeps 0 = .ok (.aload_n 0, 1) := by decide +kernel
theorem dX12_keeps_1 : decode cX12_keeps 1 = .ok (.getfield 36, 3) := by decide +kernel
theorem dX12_keeps_4 : decode cX12_keeps 4 = .ok (.iload_n 1, 1) := by decide +kernel
theorem dX12_keeps_5 : decode cX12_keeps 5 = .ok (.aload_n 0, 1) := by decide +kernel
theorem dX12_keeps_6 : decode cX12_keeps 6 = .ok (.getfield 142, 3) := by decide +kernel
theorem dX12_keeps_9 : decode cX12_keeps 9 = .ok (.iastore, 1) := by decide +kernel
theorem dX12_keeps_10 : decode cX12_keeps 10 = .ok (.iconst 0, 1) := by decide +kernel
theorem dX12_keeps_11 : decode cX12_keeps 11 = .ok (.istore_n 2, 1) := by decide +kernel
theorem dX12_keeps_12 : decode cX12_keeps 12 = .ok (.iload_n 2, 1) := by decide +kernel
theorem dX12_keeps_13 : decode cX12_keeps 13 = .ok (.aload_n 0, 1) := by decide +kernel
theorem dX12_keeps_14 : decode cX12_keeps 14 = .ok (.getfield 142, 3) := by decide +kernel
theorem dX12_keeps_17 : decode cX12_keeps 17 = .ok (.if_icmp .ge 43, 3) := by decide +kernel
theorem dX12_keeps_20 : decode cX12_keeps 20 = .ok (.aload_n 0, 1) := by decide +kernel
theorem dX12_keeps_21 : decode cX12_keeps 21 = .ok (.getfield 39, 3) := by decide +kernel
theorem dX12_keeps_24 : decode cX12_keeps 24 = .ok (.bipush 80, 2) := by decide +kernel
theorem dX12_keeps_26 : decode cX12_keeps 26 = .ok (.iload_n 1, 1) := by decide +kernel
theorem dX12_keeps_27 : decode cX12_keeps 27 = .ok (.imul, 1) := by decide +kernel
theorem dX12_keeps_28 : decode cX12_keeps 28 = .ok (.iload_n 2, 1) := by decide +kernel
theorem dX12_keeps_29 : decode cX12_keeps 29 = .ok (.iadd, 1) := by decide +kernel
theorem dX12_keeps_30 : decode cX12_keeps 30 = .ok (.aload_n 0, 1) := by decide +kernel
theorem dX12_keeps_31 : decode cX12_keeps 31 = .ok (.getfield 23, 3) := by decide +kernel
theorem dX12_keeps_34 : decode cX12_keeps 34 = .ok (.iload_n 2, 1) := by decide +kernel
theorem dX12_keeps_35 : decode cX12_keeps 35 = .ok (.iaload, 1) := by decide +kernel
theorem dX12_keeps_36 : decode cX12_keeps 36 = .ok (.iastore, 1) := by decide +kernel
theorem dX12_keeps_37 : decode cX12_keeps 37 = .ok (.aload_n 0, 1) := by decide +kernel
theorem dX12_keeps_38 : decode cX12_keeps 38 = .ok (.getfield 42, 3) := by decide +kernel
theorem dX12_keeps_41 : decode cX12_keeps 41 = .ok (.bipush 80, 2) := by decide +kernel
theorem dX12_keeps_43 : decode cX12_keeps 43 = .ok (.iload_n 1, 1) := by decide +kernel
theorem dX12_keeps_44 : decode cX12_keeps 44 = .ok (.imul, 1) := by decide +kernel
theorem dX12_keeps_45 : decode cX12_keeps 45 = .ok (.iload_n 2, 1) := by decide +kernel
theorem dX12_keeps_46 : decode cX12_keeps 46 = .ok (.iadd, 1) := by decide +kernel
theorem dX12_keeps_47 : decode cX12_keeps 47 = .ok (.aload_n 0, 1) := by decide +kernel
theorem dX12_keeps_48 : decode cX12_keeps 48 = .ok (.getfield 26, 3) := by decide +kernel
theorem dX12_keeps_51 : decode cX12_keeps 51 = .ok (.iload_n 2, 1) := by decide +kernel
theorem dX12_keeps_52 : decode cX12_keeps 52 = .ok (.iaload, 1) := by decide +kernel
theorem dX12_keeps_53 : decode cX12_keeps 53 = .ok (.iastore, 1) := by decide +kernel
theorem dX12_keeps_54 : decode cX12_keeps 54 = .ok (.iinc 2 1, 3) := by decide +kernel
theorem dX12_keeps_57 : decode cX12_keeps 57 = .ok (.goto (-45), 3) := by decide +kernel
theorem dX12_keeps_60 : decode cX12_keeps 60 = .ok (.aload_n 0, 1) := by decide +kernel
theorem dX12_keeps_61 : decode cX12_keeps 61 = .ok (.iconst 0, 1) := by decide +kernel
theorem dX12_keeps_62 : decode cX12_keeps 62 = .ok (.putfield 136, 3) := by decide +kernel
theorem dX12_keeps_65 : decode cX12_keeps 65 = .ok (.return_, 1) := by decide +kernel
theorem dX12_feast_0 : decode cX12_feast 0 = .ok (.aload_n 0, 1) := by decide +kernel
theorem dX12_feast_1 : decode cX12_feast 1 = .ok (.iload_n 1, 1) := by decide +kernel
theorem dX12_feast_2 : decode cX12_feast 2 = .ok (.iconst 0, 1) := by decide +kernel
theorem dX12_feast_3 : decode cX12_feast 3 = .ok (.bipush 9, 2) := by decide +kernel
theorem dX12_feast_5 : decode cX12_feast 5 = .ok (.invokestatic 115, 3) := by decide +kernel
theorem dX12_feast_8 : decode cX12_feast 8 = .ok (.ifCond .eq 12, 3) := by decide +kernel
theorem dX12_feast_11 : decode cX12_feast 11 = .ok (.aload_n 0, 1) := by decide +kernel
theorem dX12_feast_12 : decode cX12_feast 12 = .ok (.iconst 0, 1) := by decide +kernel
theorem dX12_feast_13 : decode cX12_feast 13 = .ok (.invokevirtual 228, 3) := by decide +kernel
theorem dX12_feast_16 : decode cX12_feast 16 = .ok (.iconst (-1), 1) := by decide +kernel
theorem dX12_feast_17 : decode cX12_feast 17 = .ok (.if_icmp .eq 7, 3) := by decide +kernel
theorem dX12_feast_20 : decode cX12_feast 20 = .ok (.iconst 1, 1) := by decide +kernel
theorem dX12_feast_21 : decode cX12_feast 21 = .ok (.goto 24, 3) := by decide +kernel
theorem dX12_feast_24 : decode cX12_feast 24 = .ok (.aload_n 0, 1) := by decide +kernel
theorem dX12_feast_25 : decode cX12_feast 25 = .ok (.getfield 231, 3) := by decide +kernel
theorem dX12_feast_28 : decode cX12_feast 28 = .ok (.bipush 20, 2) := by decide +kernel
theorem dX12_feast_30 : decode cX12_feast 30 = .ok (.if_icmp .eq 10, 3) := by decide +kernel
theorem dX12_feast_33 : decode cX12_feast 33 = .ok (.aload_n 0, 1) := by decide +kernel
theorem dX12_feast_34 : decode cX12_feast 34 = .ok (.invokevirtual 234, 3) := by decide +kernel
theorem dX12_feast_37 : decode cX12_feast 37 = .ok (.ifCond .ne 7, 3) := by decide +kernel
theorem dX12_feast_40 : decode cX12_feast 40 = .ok (.iconst 2, 1) := by decide +kernel
theorem dX12_feast_41 : decode cX12_feast 41 = .ok (.goto 4, 3) := by decide +kernel
theorem dX12_feast_44 : decode cX12_feast 44 = .ok (.iconst 0, 1) := by decide +kernel
theorem dX12_feast_45 : decode cX12_feast 45 = .ok (.putfield 93, 3) := by decide +kernel
theorem dX12_feast_48 : decode cX12_feast 48 = .ok (.aload_n 0, 1) := by decide +kernel
theorem dX12_feast_49 : decode cX12_feast 49 = .ok (.getfield 93, 3) := by decide +kernel
theorem dX12_feast_52 : decode cX12_feast 52 = .ok (.ifCond .le 5, 3) := by decide +kernel
theorem dX12_feast_55 : decode cX12_feast 55 = .ok (.iconst 0, 1) := by decide +kernel
theorem dX12_feast_56 : decode cX12_feast 56 = .ok (.ireturn, 1) := by decide +kernel
theorem dX12_feast_57 : decode cX12_feast 57 = .ok (.aload_n 0, 1) := by decide +kernel
theorem dX12_feast_58 : decode cX12_feast 58 = .ok (.aload_n 0, 1) := by decide +kernel
theorem dX12_feast_59 : decode cX12_feast 59 = .ok (.getfield 231, 3) := by decide +kernel
theorem dX12_feast_62 : decode cX12_feast 62 = .ok (.invokevirtual 238, 3) := by decide +kernel
theorem dX12_feast_65 : decode cX12_feast 65 = .ok (.aload_n 0, 1) := by decide +kernel
theorem dX12_feast_66 : decode cX12_feast 66 = .ok (.getfield 29, 3) := by decide +kernel
theorem dX12_feast_69 : decode cX12_feast 69 = .ok (.aload_n 0, 1) := by decide +kernel
theorem dX12_feast_70 : decode cX12_feast 70 = .ok (.getfield 231, 3) := by decide +kernel
theorem dX12_feast_73 : decode cX12_feast 73 = .ok (.iload_n 1, 1) := by decide +kernel
theorem dX12_feast_74 : decode cX12_feast 74 = .ok (.iastore, 1) := by decide +kernel
theorem dX12_feast_75 : decode cX12_feast 75 = .ok (.aload_n 0, 1) := by decide +kernel
theorem dX12_feast_76 : decode cX12_feast 76 = .ok (.getfield 32, 3) := by decide +kernel
theorem dX12_feast_79 : decode cX12_feast 79 = .ok (.aload_n 0, 1) := by decide +kernel
theorem dX12_feast_80 : decode cX12_feast 80 = .ok (.getfield 231, 3) := by decide +kernel
theorem dX12_feast_83 : decode cX12_feast 83 = .ok (.iload_n 2, 1) := by decide +kernel
theorem dX12_feast_84 : decode cX12_feast 84 = .ok (.bastore, 1) := by decide +kernel
theorem dX12_feast_85 : decode cX12_feast 85 = .ok (.aload_n 0, 1) := by decide +kernel
theorem dX12_feast_86 : decode cX12_feast 86 = .ok (.dup, 1) := by decide +kernel
theorem dX12_feast_87 : decode cX12_feast 87 = .ok (.getfield 231, 3) := by decide +kernel
theorem dX12_feast_90 : decode cX12_feast 90 = .ok (.iconst 1, 1) := by decide +kernel
theorem dX12_feast_91 : decode cX12_feast 91 = .ok (.iadd, 1) := by decide +kernel
theorem dX12_feast_92 : decode cX12_feast 92 = .ok (.putfield 231, 3) := by decide +kernel
theorem dX12_feast_95 : decode cX12_feast 95 = .ok (.aload_n 0, 1) := by decide +kernel
theorem dX12_feast_96 : decode cX12_feast 96 = .ok (.getfield 231, 3) := by decide +kernel
theorem dX12_feast_99 : decode cX12_feast 99 = .ok (.iconst 1, 1) := by decide +kernel
theorem dX12_feast_100 : decode cX12_feast 100 = .ok (.isub, 1) := by decide +kernel
theorem dX12_feast_101 : decode cX12_feast 101 = .ok (.ireturn, 1) := by decide +kernel
theorem dX12_isFeast_0 : decode cX12_isFeast 0 = .ok (.iload_n 1, 1) := by decide +kernel
theorem dX12_isFeast_1 : decode cX12_isFeast 1 = .ok (.iconst 0, 1) := by decide +kernel
theorem dX12_isFeast_2 : decode cX12_isFeast 2 = .ok (.aload_n 0, 1) := by decide +kernel
theorem dX12_isFeast_3 : decode cX12_isFeast 3 = .ok (.getfield 231, 3) := by decide +kernel
theorem dX12_isFeast_6 : decode cX12_isFeast 6 = .ok (.iconst 1, 1) := by decide +kernel
theorem dX12_isFeast_7 : decode cX12_isFeast 7 = .ok (.isub, 1) := by decide +kernel
theorem dX12_isFeast_8 : decode cX12_isFeast 8 = .ok (.invokestatic 115, 3) := by decide +kernel
theorem dX12_isFeast_11 : decode cX12_isFeast 11 = .ok (.ireturn, 1) := by decide +kernel
theorem dX12_named_0 : decode cX12_named 0 = .ok (.iconst 0, 1) := by decide +kernel
theorem dX12_named_1 : decode cX12_named 1 = .ok (.istore_n 2, 1) := by decide +kernel
theorem dX12_named_2 : decode cX12_named 2 = .ok (.iconst 0, 1) := by decide +kernel
theorem dX12_named_3 : decode cX12_named 3 = .ok (.istore_n 3, 1) := by decide +kernel
theorem dX12_named_4 : decode cX12_named 4 = .ok (.iload_n 3, 1) := by decide +kernel
theorem dX12_named_5 : decode cX12_named 5 = .ok (.aload_n 0, 1) := by decide +kernel
theorem dX12_named_6 : decode cX12_named 6 = .ok (.getfield 36, 3) := by decide +kernel
theorem dX12_named_9 : decode cX12_named 9 = .ok (.iload_n 1, 1) := by decide +kernel
theorem dX12_named_10 : decode cX12_named 10 = .ok (.iaload, 1) := by decide +kernel
theorem dX12_named_11 : decode cX12_named 11 = .ok (.if_icmp .ge 55, 3) := by decide +kernel
theorem dX12_named_14 : decode cX12_named 14 = .ok (.aload_n 0, 1) := by decide +kernel
theorem dX12_named_15 : decode cX12_named 15 = .ok (.getfield 39, 3) := by decide +kernel
theorem dX12_named_18 : decode cX12_named 18 = .ok (.bipush 80, 2) := by decide +kernel
theorem dX12_named_20 : decode cX12_named 20 = .ok (.iload_n 1, 1) := by decide +kernel
theorem dX12_named_21 : decode cX12_named 21 = .ok (.imul, 1) := by decide +kernel
theorem dX12_named_22 : decode cX12_named 22 = .ok (.iload_n 3, 1) := by decide +kernel
theorem dX12_named_23 : decode cX12_named 23 = .ok (.iadd, 1) := by decide +kernel
theorem dX12_named_24 : decode cX12_named 24 = .ok (.iaload, 1) := by decide +kernel
theorem dX12_named_25 : decode cX12_named 25 = .ok (.istore 4, 2) := by decide +kernel
theorem dX12_named_27 : decode cX12_named 27 = .ok (.iload_n 2, 1) := by decide +kernel
theorem dX12_named_28 : decode cX12_named 28 = .ok (.iload 4, 2) := by decide +kernel
theorem dX12_named_30 : decode cX12_named 30 = .ok (.iconst 4, 1) := by decide +kernel
theorem dX12_named_31 : decode cX12_named 31 = .ok (.if_icmp .eq 10, 3) := by decide +kernel
theorem dX12_named_34 : decode cX12_named 34 = .ok (.iload 4, 2) := by decide +kernel
theorem dX12_named_36 : decode cX12_named 36 = .ok (.bipush 15, 2) := by decide +kernel
theorem dX12_named_38 : decode cX12_named 38 = .ok (.if_icmp .ne 19, 3) := by decide +kernel
theorem dX12_named_41 : decode cX12_named 41 = .ok (.iconst 1, 1) := by decide +kernel
theorem dX12_named_42 : decode cX12_named 42 = .ok (.aload_n 0, 1) := by decide +kernel
theorem dX12_named_43 : decode cX12_named 43 = .ok (.getfield 42, 3) := by decide +kernel
theorem dX12_named_46 : decode cX12_named 46 = .ok (.bipush 80, 2) := by decide +kernel
theorem dX12_named_48 : decode cX12_named 48 = .ok (.iload_n 1, 1) := by decide +kernel
theorem dX12_named_49 : decode cX12_named 49 = .ok (.imul, 1) := by decide +kernel
theorem dX12_named_50 : decode cX12_named 50 = .ok (.iload_n 3, 1) := by decide +kernel
theorem dX12_named_51 : decode cX12_named 51 = .ok (.iadd, 1) := by decide +kernel
theorem dX12_named_52 : decode cX12_named 52 = .ok (.iaload, 1) := by decide +kernel
theorem dX12_named_53 : decode cX12_named 53 = .ok (.ishl, 1) := by decide +kernel
theorem dX12_named_54 : decode cX12_named 54 = .ok (.goto 4, 3) := by decide +kernel
theorem dX12_named_57 : decode cX12_named 57 = .ok (.iconst 0, 1) := by decide +kernel
theorem dX12_named_58 : decode cX12_named 58 = .ok (.ior, 1) := by decide +kernel
theorem dX12_named_59 : decode cX12_named 59 = .ok (.istore_n 2, 1) := by decide +kernel
theorem dX12_named_60 : decode cX12_named 60 = .ok (.iinc 3 1, 3) := by decide +kernel
theorem dX12_named_63 : decode cX12_named 63 = .ok (.goto (-59), 3) := by decide +kernel
theorem dX12_named_66 : decode cX12_named 66 = .ok (.iload_n 2, 1) := by decide +kernel
theorem dX12_named_67 : decode cX12_named 67 = .ok (.ireturn, 1) := by decide +kernel
theorem dX12_needsItself_0 : decode cX12_needsItself 0 = .ok (.iconst 0, 1) := by decide +kernel
theorem dX12_needsItself_1 : decode cX12_needsItself 1 = .ok (.istore_n 2, 1) := by decide +kernel
theorem dX12_needsItself_2 : decode cX12_needsItself 2 = .ok (.iconst 0, 1) := by decide +kernel
theorem dX12_needsItself_3 : decode cX12_needsItself 3 = .ok (.istore_n 3, 1) := by decide +kernel
theorem dX12_needsItself_4 : decode cX12_needsItself 4 = .ok (.iload_n 3, 1) := by decide +kernel
theorem dX12_needsItself_5 : decode cX12_needsItself 5 = .ok (.aload_n 0, 1) := by decide +kernel
theorem dX12_needsItself_6 : decode cX12_needsItself 6 = .ok (.getfield 142, 3) := by decide +kernel
theorem dX12_needsItself_9 : decode cX12_needsItself 9 = .ok (.if_icmp .ge 45, 3) := by decide +kernel
theorem dX12_needsItself_12 : decode cX12_needsItself 12 = .ok (.iload_n 2, 1) := by decide +kernel
theorem dX12_needsItself_13 : decode cX12_needsItself 13 = .ok (.aload_n 0, 1) := by decide +kernel
theorem dX12_needsItself_14 : decode cX12_needsItself 14 = .ok (.getfield 23, 3) := by decide +kernel
theorem dX12_needsItself_17 : decode cX12_needsItself 17 = .ok (.iload_n 3, 1) := by decide +kernel
theorem dX12_needsItself_18 : decode cX12_needsItself 18 = .ok (.iaload, 1) := by decide +kernel
theorem dX12_needsItself_19 : decode cX12_needsItself 19 = .ok (.iconst 4, 1) := by decide +kernel
theorem dX12_needsItself_20 : decode cX12_needsItself 20 = .ok (.if_icmp .eq 14, 3) := by decide +kernel
theorem dX12_needsItself_23 : decode cX12_needsItself 23 = .ok (.aload_n 0, 1) := by decide +kernel
theorem dX12_needsItself_24 : decode cX12_needsItself 24 = .ok (.getfield 23, 3) := by decide +kernel
theorem dX12_needsItself_27 : decode cX12_needsItself 27 = .ok (.iload_n 3, 1) := by decide +kernel
theorem dX12_needsItself_28 : decode cX12_needsItself 28 = .ok (.iaload, 1) := by decide +kernel
theorem dX12_needsItself_29 : decode cX12_needsItself 29 = .ok (.bipush 15, 2) := by decide +kernel
theorem dX12_needsItself_31 : decode cX12_needsItself 31 = .ok (.if_icmp .ne 14, 3) := by decide +kernel
theorem dX12_needsItself_34 : decode cX12_needsItself 34 = .ok (.iconst 1, 1) := by decide +kernel
theorem dX12_needsItself_35 : decode cX12_needsItself 35 = .ok (.aload_n 0, 1) := by decide +kernel
theorem dX12_needsItself_36 : decode cX12_needsItself 36 = .ok (.getfield 26, 3) := by decide +kernel
theorem dX12_needsItself_39 : decode cX12_needsItself 39 = .ok (.iload_n 3, 1) := by decide +kernel
theorem dX12_needsItself_40 : decode cX12_needsItself 40 = .ok (.iaload, 1) := by decide +kernel
theorem dX12_needsItself_41 : decode cX12_needsItself 41 = .ok (.ishl, 1) := by decide +kernel
theorem dX12_needsItself_42 : decode cX12_needsItself 42 = .ok (.goto 4, 3) := by decide +kernel
theorem dX12_needsItself_45 : decode cX12_needsItself 45 = .ok (.iconst 0, 1) := by decide +kernel
theorem dX12_needsItself_46 : decode cX12_needsItself 46 = .ok (.ior, 1) := by decide +kernel
theorem dX12_needsItself_47 : decode cX12_needsItself 47 = .ok (.istore_n 2, 1) := by decide +kernel
theorem dX12_needsItself_48 : decode cX12_needsItself 48 = .ok (.iinc 3 1, 3) := by decide +kernel
theorem dX12_needsItself_51 : decode cX12_needsItself 51 = .ok (.goto (-47), 3) := by decide +kernel
theorem dX12_needsItself_54 : decode cX12_needsItself 54 = .ok (.iconst 0, 1) := by decide +kernel
theorem dX12_needsItself_55 : decode cX12_needsItself 55 = .ok (.istore_n 3, 1) := by decide +kernel
theorem dX12_needsItself_56 : decode cX12_needsItself 56 = .ok (.iload_n 3, 1) := by decide +kernel
theorem dX12_needsItself_57 : decode cX12_needsItself 57 = .ok (.aload_n 0, 1) := by decide +kernel
theorem dX12_needsItself_58 : decode cX12_needsItself 58 = .ok (.getfield 231, 3) := by decide +kernel
theorem dX12_needsItself_61 : decode cX12_needsItself 61 = .ok (.if_icmp .ge 56, 3) := by decide +kernel
theorem dX12_needsItself_64 : decode cX12_needsItself 64 = .ok (.iconst 0, 1) := by decide +kernel
theorem dX12_needsItself_65 : decode cX12_needsItself 65 = .ok (.istore 4, 2) := by decide +kernel
theorem dX12_needsItself_67 : decode cX12_needsItself 67 = .ok (.iload 4, 2) := by decide +kernel
theorem dX12_needsItself_69 : decode cX12_needsItself 69 = .ok (.aload_n 0, 1) := by decide +kernel
theorem dX12_needsItself_70 : decode cX12_needsItself 70 = .ok (.getfield 231, 3) := by decide +kernel
theorem dX12_needsItself_73 : decode cX12_needsItself 73 = .ok (.if_icmp .ge 38, 3) := by decide +kernel
theorem dX12_needsItself_76 : decode cX12_needsItself 76 = .ok (.iload_n 2, 1) := by decide +kernel
theorem dX12_needsItself_77 : decode cX12_needsItself 77 = .ok (.iload_n 2, 1) := by decide +kernel
theorem dX12_needsItself_78 : decode cX12_needsItself 78 = .ok (.iload 4, 2) := by decide +kernel
theorem dX12_needsItself_80 : decode cX12_needsItself 80 = .ok (.ishr, 1) := by decide +kernel
theorem dX12_needsItself_81 : decode cX12_needsItself 81 = .ok (.iconst 1, 1) := by decide +kernel
theorem dX12_needsItself_82 : decode cX12_needsItself 82 = .ok (.iand, 1) := by decide +kernel
theorem dX12_needsItself_83 : decode cX12_needsItself 83 = .ok (.iconst 1, 1) := by decide +kernel
theorem dX12_needsItself_84 : decode cX12_needsItself 84 = .ok (.if_icmp .ne 18, 3) := by decide +kernel
theorem dX12_needsItself_87 : decode cX12_needsItself 87 = .ok (.iload 4, 2) := by decide +kernel
theorem dX12_needsItself_89 : decode cX12_needsItself 89 = .ok (.iload_n 1, 1) := by decide +kernel
theorem dX12_needsItself_90 : decode cX12_needsItself 90 = .ok (.if_icmp .eq 12, 3) := by decide +kernel
theorem dX12_needsItself_93 : decode cX12_needsItself 93 = .ok (.aload_n 0, 1) := by decide +kernel
theorem dX12_needsItself_94 : decode cX12_needsItself 94 = .ok (.iload 4, 2) := by decide +kernel
theorem dX12_needsItself_96 : decode cX12_needsItself 96 = .ok (.invokevirtual 241, 3) := by decide +kernel
theorem dX12_needsItself_99 : decode cX12_needsItself 99 = .ok (.goto 4, 3) := by decide +kernel
theorem dX12_needsItself_102 : decode cX12_needsItself 102 = .ok (.iconst 0, 1) := by decide +kernel
theorem dX12_needsItself_103 : decode cX12_needsItself 103 = .ok (.ior, 1) := by decide +kernel
theorem dX12_needsItself_104 : decode cX12_needsItself 104 = .ok (.istore_n 2, 1) := by decide +kernel
theorem dX12_needsItself_105 : decode cX12_needsItself 105 = .ok (.iinc 4 1, 3) := by decide +kernel
theorem dX12_needsItself_108 : decode cX12_needsItself 108 = .ok (.goto (-41), 3) := by decide +kernel
theorem dX12_needsItself_111 : decode cX12_needsItself 111 = .ok (.iinc 3 1, 3) := by decide +kernel
theorem dX12_needsItself_114 : decode cX12_needsItself 114 = .ok (.goto (-58), 3) := by decide +kernel
theorem dX12_needsItself_117 : decode cX12_needsItself 117 = .ok (.iload_n 2, 1) := by decide +kernel
theorem dX12_needsItself_118 : decode cX12_needsItself 118 = .ok (.iload_n 1, 1) := by decide +kernel
theorem dX12_needsItself_119 : decode cX12_needsItself 119 = .ok (.ishr, 1) := by decide +kernel
theorem dX12_needsItself_120 : decode cX12_needsItself 120 = .ok (.iconst 1, 1) := by decide +kernel
theorem dX12_needsItself_121 : decode cX12_needsItself 121 = .ok (.iand, 1) := by decide +kernel
theorem dX12_needsItself_122 : decode cX12_needsItself 122 = .ok (.iconst 1, 1) := by decide +kernel
theorem dX12_needsItself_123 : decode cX12_needsItself 123 = .ok (.if_icmp .ne 7, 3) := by decide +kernel
theorem dX12_needsItself_126 : decode cX12_needsItself 126 = .ok (.iconst 1, 1) := by decide +kernel
theorem dX12_needsItself_127 : decode cX12_needsItself 127 = .ok (.goto 4, 3) := by decide +kernel
theorem dX12_needsItself_130 : decode cX12_needsItself 130 = .ok (.iconst 0, 1) := by decide +kernel
theorem dX12_needsItself_131 : decode cX12_needsItself 131 = .ok (.ireturn, 1) := by decide +kernel
theorem dX12_mend_0 : decode cX12_mend 0 = .ok (.aload_n 0, 1) := by decide +kernel
theorem dX12_mend_1 : decode cX12_mend 1 = .ok (.aload_n 0, 1) := by decide +kernel
theorem dX12_mend_2 : decode cX12_mend 2 = .ok (.iload_n 1, 1) := by decide +kernel
theorem dX12_mend_3 : decode cX12_mend 3 = .ok (.invokevirtual 244, 3) := by decide +kernel
theorem dX12_mend_6 : decode cX12_mend 6 = .ok (.ifCond .ne 7, 3) := by decide +kernel
theorem dX12_mend_9 : decode cX12_mend 9 = .ok (.iconst 1, 1) := by decide +kernel
theorem dX12_mend_10 : decode cX12_mend 10 = .ok (.goto 17, 3) := by decide +kernel
theorem dX12_mend_13 : decode cX12_mend 13 = .ok (.aload_n 0, 1) := by decide +kernel
theorem dX12_mend_14 : decode cX12_mend 14 = .ok (.iconst 0, 1) := by decide +kernel
theorem dX12_mend_15 : decode cX12_mend 15 = .ok (.invokevirtual 228, 3) := by decide +kernel
theorem dX12_mend_18 : decode cX12_mend 18 = .ok (.iconst (-1), 1) := by decide +kernel
theorem dX12_mend_19 : decode cX12_mend 19 = .ok (.if_icmp .eq 7, 3) := by decide +kernel
theorem dX12_mend_22 : decode cX12_mend 22 = .ok (.iconst 2, 1) := by decide +kernel
theorem dX12_mend_23 : decode cX12_mend 23 = .ok (.goto 4, 3) := by decide +kernel
theorem dX12_mend_26 : decode cX12_mend 26 = .ok (.iconst 0, 1) := by decide +kernel
theorem dX12_mend_27 : decode cX12_mend 27 = .ok (.putfield 93, 3) := by decide +kernel
theorem dX12_mend_30 : decode cX12_mend 30 = .ok (.aload_n 0, 1) := by decide +kernel
theorem dX12_mend_31 : decode cX12_mend 31 = .ok (.getfield 93, 3) := by decide +kernel
theorem dX12_mend_34 : decode cX12_mend 34 = .ok (.ifCond .le 5, 3) := by decide +kernel
theorem dX12_mend_37 : decode cX12_mend 37 = .ok (.iconst 0, 1) := by decide +kernel
theorem dX12_mend_38 : decode cX12_mend 38 = .ok (.ireturn, 1) := by decide +kernel
theorem dX12_mend_39 : decode cX12_mend 39 = .ok (.aload_n 0, 1) := by decide +kernel
theorem dX12_mend_40 : decode cX12_mend 40 = .ok (.aload_n 0, 1) := by decide +kernel
theorem dX12_mend_41 : decode cX12_mend 41 = .ok (.invokevirtual 234, 3) := by decide +kernel
theorem dX12_mend_44 : decode cX12_mend 44 = .ok (.ifCond .eq 11, 3) := by decide +kernel
theorem dX12_mend_47 : decode cX12_mend 47 = .ok (.aload_n 0, 1) := by decide +kernel
theorem dX12_mend_48 : decode cX12_mend 48 = .ok (.iload_n 1, 1) := by decide +kernel
theorem dX12_mend_49 : decode cX12_mend 49 = .ok (.invokevirtual 247, 3) := by decide +kernel
theorem dX12_mend_52 : decode cX12_mend 52 = .ok (.ifCond .eq 7, 3) := by decide +kernel
theorem dX12_mend_55 : decode cX12_mend 55 = .ok (.iconst 3, 1) := by decide +kernel
theorem dX12_mend_56 : decode cX12_mend 56 = .ok (.goto 4, 3) := by decide +kernel
theorem dX12_mend_59 : decode cX12_mend 59 = .ok (.iconst 0, 1) := by decide +kernel
theorem dX12_mend_60 : decode cX12_mend 60 = .ok (.putfield 93, 3) := by decide +kernel
theorem dX12_mend_63 : decode cX12_mend 63 = .ok (.aload_n 0, 1) := by decide +kernel
theorem dX12_mend_64 : decode cX12_mend 64 = .ok (.getfield 93, 3) := by decide +kernel
theorem dX12_mend_67 : decode cX12_mend 67 = .ok (.ifCond .le 5, 3) := by decide +kernel
theorem dX12_mend_70 : decode cX12_mend 70 = .ok (.iconst 0, 1) := by decide +kernel
theorem dX12_mend_71 : decode cX12_mend 71 = .ok (.ireturn, 1) := by decide +kernel
theorem dX12_mend_72 : decode cX12_mend 72 = .ok (.aload_n 0, 1) := by decide +kernel
theorem dX12_mend_73 : decode cX12_mend 73 = .ok (.iload_n 1, 1) := by decide +kernel
theorem dX12_mend_74 : decode cX12_mend 74 = .ok (.invokevirtual 238, 3) := by decide +kernel
theorem dX12_mend_77 : decode cX12_mend 77 = .ok (.aload_n 0, 1) := by decide +kernel
theorem dX12_mend_78 : decode cX12_mend 78 = .ok (.getfield 36, 3) := by decide +kernel
theorem dX12_mend_81 : decode cX12_mend 81 = .ok (.iload_n 1, 1) := by decide +kernel
theorem dX12_mend_82 : decode cX12_mend 82 = .ok (.iaload, 1) := by decide +kernel
theorem dX12_mend_83 : decode cX12_mend 83 = .ok (.ireturn, 1) := by decide +kernel
theorem dX12_rank_0 : decode cX12_rank 0 = .ok (.aload_n 0, 1) := by decide +kernel
theorem dX12_rank_1 : decode cX12_rank 1 = .ok (.aload_n 0, 1) := by decide +kernel
theorem dX12_rank_2 : decode cX12_rank 2 = .ok (.iload_n 1, 1) := by decide +kernel
theorem dX12_rank_3 : decode cX12_rank 3 = .ok (.invokevirtual 244, 3) := by decide +kernel
theorem dX12_rank_6 : decode cX12_rank 6 = .ok (.ifCond .ne 7, 3) := by decide +kernel
theorem dX12_rank_9 : decode cX12_rank 9 = .ok (.iconst 1, 1) := by decide +kernel
theorem dX12_rank_10 : decode cX12_rank 10 = .ok (.goto 18, 3) := by decide +kernel
theorem dX12_rank_13 : decode cX12_rank 13 = .ok (.iload_n 2, 1) := by decide +kernel
theorem dX12_rank_14 : decode cX12_rank 14 = .ok (.iconst 0, 1) := by decide +kernel
theorem dX12_rank_15 : decode cX12_rank 15 = .ok (.bipush 9, 2) := by decide +kernel
theorem dX12_rank_17 : decode cX12_rank 17 = .ok (.invokestatic 115, 3) := by decide +kernel
theorem dX12_rank_20 : decode cX12_rank 20 = .ok (.ifCond .eq 7, 3) := by decide +kernel
theorem dX12_rank_23 : decode cX12_rank 23 = .ok (.iconst 0, 1) := by decide +kernel
theorem dX12_rank_24 : decode cX12_rank 24 = .ok (.goto 4, 3) := by decide +kernel
theorem dX12_rank_27 : decode cX12_rank 27 = .ok (.iconst 2, 1) := by decide +kernel
theorem dX12_rank_28 : decode cX12_rank 28 = .ok (.putfield 93, 3) := by decide +kernel
theorem dX12_rank_31 : decode cX12_rank 31 = .ok (.aload_n 0, 1) := by decide +kernel
theorem dX12_rank_32 : decode cX12_rank 32 = .ok (.getfield 93, 3) := by decide +kernel
theorem dX12_rank_35 : decode cX12_rank 35 = .ok (.ifCond .le 5, 3) := by decide +kernel
theorem dX12_rank_38 : decode cX12_rank 38 = .ok (.iconst 0, 1) := by decide +kernel
theorem dX12_rank_39 : decode cX12_rank 39 = .ok (.ireturn, 1) := by decide +kernel
theorem dX12_rank_40 : decode cX12_rank 40 = .ok (.aload_n 0, 1) := by decide +kernel
theorem dX12_rank_41 : decode cX12_rank 41 = .ok (.getfield 29, 3) := by decide +kernel
theorem dX12_rank_44 : decode cX12_rank 44 = .ok (.iload_n 1, 1) := by decide +kernel
theorem dX12_rank_45 : decode cX12_rank 45 = .ok (.iaload, 1) := by decide +kernel
theorem dX12_rank_46 : decode cX12_rank 46 = .ok (.istore 4, 2) := by decide +kernel
theorem dX12_rank_48 : decode cX12_rank 48 = .ok (.aload_n 0, 1) := by decide +kernel
theorem dX12_rank_49 : decode cX12_rank 49 = .ok (.getfield 29, 3) := by decide +kernel
theorem dX12_rank_52 : decode cX12_rank 52 = .ok (.iload_n 1, 1) := by decide +kernel
theorem dX12_rank_53 : decode cX12_rank 53 = .ok (.iload_n 2, 1) := by decide +kernel
theorem dX12_rank_54 : decode cX12_rank 54 = .ok (.iastore, 1) := by decide +kernel
theorem dX12_rank_55 : decode cX12_rank 55 = .ok (.aload_n 0, 1) := by decide +kernel
theorem dX12_rank_56 : decode cX12_rank 56 = .ok (.getfield 32, 3) := by decide +kernel
theorem dX12_rank_59 : decode cX12_rank 59 = .ok (.iload_n 1, 1) := by decide +kernel
theorem dX12_rank_60 : decode cX12_rank 60 = .ok (.iload_n 3, 1) := by decide +kernel
theorem dX12_rank_61 : decode cX12_rank 61 = .ok (.bastore, 1) := by decide +kernel
theorem dX12_rank_62 : decode cX12_rank 62 = .ok (.iload 4, 2) := by decide +kernel
theorem dX12_rank_64 : decode cX12_rank 64 = .ok (.ireturn, 1) := by decide +kernel
theorem dX12_isYear_0 : decode cX12_isYear 0 = .ok (.iload_n 0, 1) := by decide +kernel
theorem dX12_isYear_1 : decode cX12_isYear 1 = .ok (.iconst 0, 1) := by decide +kernel
theorem dX12_isYear_2 : decode cX12_isYear 2 = .ok (.sipush 399, 3) := by decide +kernel
theorem dX12_isYear_5 : decode cX12_isYear 5 = .ok (.invokestatic 115, 3) := by decide +kernel
theorem dX12_isYear_8 : decode cX12_isYear 8 = .ok (.ireturn, 1) := by decide +kernel
theorem dX12_dispense_0 : decode cX12_dispense 0 = .ok (.aload_n 0, 1) := by decide +kernel
theorem dX12_dispense_1 : decode cX12_dispense 1 = .ok (.aload_n 0, 1) := by decide +kernel
theorem dX12_dispense_2 : decode cX12_dispense 2 = .ok (.iload_n 1, 1) := by decide +kernel
theorem dX12_dispense_3 : decode cX12_dispense 3 = .ok (.invokevirtual 244, 3) := by decide +kernel
theorem dX12_dispense_6 : decode cX12_dispense 6 = .ok (.ifCond .ne 7, 3) := by decide +kernel
theorem dX12_dispense_9 : decode cX12_dispense 9 = .ok (.iconst 1, 1) := by decide +kernel
theorem dX12_dispense_10 : decode cX12_dispense 10 = .ok (.goto 32, 3) := by decide +kernel
theorem dX12_dispense_13 : decode cX12_dispense 13 = .ok (.iload_n 2, 1) := by decide +kernel
theorem dX12_dispense_14 : decode cX12_dispense 14 = .ok (.invokestatic 250, 3) := by decide +kernel
theorem dX12_dispense_17 : decode cX12_dispense 17 = .ok (.ifCond .eq 24, 3) := by decide +kernel
theorem dX12_dispense_20 : decode cX12_dispense 20 = .ok (.iload_n 3, 1) := by decide +kernel
theorem dX12_dispense_21 : decode cX12_dispense 21 = .ok (.bipush (-30), 2) := by decide +kernel
theorem dX12_dispense_23 : decode cX12_dispense 23 = .ok (.bipush 30, 2) := by decide +kernel
theorem dX12_dispense_25 : decode cX12_dispense 25 = .ok (.invokestatic 115, 3) := by decide +kernel
theorem dX12_dispense_28 : decode cX12_dispense 28 = .ok (.ifCond .ne 9, 3) := by decide +kernel
theorem dX12_dispense_31 : decode cX12_dispense 31 = .ok (.iload_n 3, 1) := by decide +kernel
theorem dX12_dispense_32 : decode cX12_dispense 32 = .ok (.bipush 99, 2) := by decide +kernel
theorem dX12_dispense_34 : decode cX12_dispense 34 = .ok (.if_icmp .ne 7, 3) := by decide +kernel
theorem dX12_dispense_37 : decode cX12_dispense 37 = .ok (.iconst 0, 1) := by decide +kernel
theorem dX12_dispense_38 : decode cX12_dispense 38 = .ok (.goto 4, 3) := by decide +kernel
theorem dX12_dispense_41 : decode cX12_dispense 41 = .ok (.iconst 2, 1) := by decide +kernel
theorem dX12_dispense_42 : decode cX12_dispense 42 = .ok (.putfield 93, 3) := by decide +kernel
theorem dX12_dispense_45 : decode cX12_dispense 45 = .ok (.aload_n 0, 1) := by decide +kernel
theorem dX12_dispense_46 : decode cX12_dispense 46 = .ok (.getfield 93, 3) := by decide +kernel
theorem dX12_dispense_49 : decode cX12_dispense 49 = .ok (.ifCond .le 5, 3) := by decide +kernel
theorem dX12_dispense_52 : decode cX12_dispense 52 = .ok (.iconst 0, 1) := by decide +kernel
theorem dX12_dispense_53 : decode cX12_dispense 53 = .ok (.ireturn, 1) := by decide +kernel
theorem dX12_dispense_54 : decode cX12_dispense 54 = .ok (.aload_n 0, 1) := by decide +kernel
theorem dX12_dispense_55 : decode cX12_dispense 55 = .ok (.getfield 253, 3) := by decide +kernel
theorem dX12_dispense_58 : decode cX12_dispense 58 = .ok (.bipush 30, 2) := by decide +kernel
theorem dX12_dispense_60 : decode cX12_dispense 60 = .ok (.if_icmp .ge 7, 3) := by decide +kernel
theorem dX12_dispense_63 : decode cX12_dispense 63 = .ok (.iconst 1, 1) := by decide +kernel
theorem dX12_dispense_64 : decode cX12_dispense 64 = .ok (.goto 4, 3) := by decide +kernel
theorem dX12_dispense_67 : decode cX12_dispense 67 = .ok (.iconst 0, 1) := by decide +kernel
theorem dX12_dispense_68 : decode cX12_dispense 68 = .ok (.istore 4, 2) := by decide +kernel
theorem dX12_dispense_70 : decode cX12_dispense 70 = .ok (.iconst 0, 1) := by decide +kernel
theorem dX12_dispense_71 : decode cX12_dispense 71 = .ok (.istore 5, 2) := by decide +kernel
theorem dX12_dispense_73 : decode cX12_dispense 73 = .ok (.iload 5, 2) := by decide +kernel
theorem dX12_dispense_75 : decode cX12_dispense 75 = .ok (.aload_n 0, 1) := by decide +kernel
theorem dX12_dispense_76 : decode cX12_dispense 76 = .ok (.getfield 253, 3) := by decide +kernel
theorem dX12_dispense_79 : decode cX12_dispense 79 = .ok (.if_icmp .ge 57, 3) := by decide +kernel
theorem dX12_dispense_82 : decode cX12_dispense 82 = .ok (.aload_n 0, 1) := by decide +kernel
theorem dX12_dispense_83 : decode cX12_dispense 83 = .ok (.getfield 48, 3) := by decide +kernel
theorem dX12_dispense_86 : decode cX12_dispense 86 = .ok (.iload 5, 2) := by decide +kernel
theorem dX12_dispense_88 : decode cX12_dispense 88 = .ok (.iaload, 1) := by decide +kernel
theorem dX12_dispense_89 : decode cX12_dispense 89 = .ok (.iload_n 2, 1) := by decide +kernel
theorem dX12_dispense_90 : decode cX12_dispense 90 = .ok (.isub, 1) := by decide +kernel
theorem dX12_dispense_91 : decode cX12_dispense 91 = .ok (.istore 6, 2) := by decide +kernel
theorem dX12_dispense_93 : decode cX12_dispense 93 = .ok (.iload 4, 2) := by decide +kernel
theorem dX12_dispense_95 : decode cX12_dispense 95 = .ok (.ifCond .eq 32, 3) := by decide +kernel
theorem dX12_dispense_98 : decode cX12_dispense 98 = .ok (.aload_n 0, 1) := by decide +kernel
theorem dX12_dispense_99 : decode cX12_dispense 99 = .ok (.getfield 45, 3) := by decide +kernel
theorem dX12_dispense_102 : decode cX12_dispense 102 = .ok (.iload 5, 2) := by decide +kernel
theorem dX12_dispense_104 : decode cX12_dispense 104 = .ok (.iaload, 1) := by decide +kernel
theorem dX12_dispense_105 : decode cX12_dispense 105 = .ok (.iload_n 1, 1) := by decide +kernel
theorem dX12_dispense_106 : decode cX12_dispense 106 = .ok (.if_icmp .ne 17, 3) := by decide +kernel
theorem dX12_dispense_109 : decode cX12_dispense 109 = .ok (.iload 6, 2) := by decide +kernel
theorem dX12_dispense_111 : decode cX12_dispense 111 = .ok (.bipush 10, 2) := by decide +kernel
theorem dX12_dispense_113 : decode cX12_dispense 113 = .ok (.if_icmp .ge 10, 3) := by decide +kernel
theorem dX12_dispense_116 : decode cX12_dispense 116 = .ok (.iload 6, 2) := by decide +kernel
theorem dX12_dispense_118 : decode cX12_dispense 118 = .ok (.bipush (-10), 2) := by decide +kernel
theorem dX12_dispense_120 : decode cX12_dispense 120 = .ok (.if_icmp .gt 7, 3) := by decide +kernel
theorem dX12_dispense_123 : decode cX12_dispense 123 = .ok (.iconst 1, 1) := by decide +kernel
theorem dX12_dispense_124 : decode cX12_dispense 124 = .ok (.goto 4, 3) := by decide +kernel
theorem dX12_dispense_127 : decode cX12_dispense 127 = .ok (.iconst 0, 1) := by decide +kernel
theorem dX12_dispense_128 : decode cX12_dispense 128 = .ok (.istore 4, 2) := by decide +kernel
theorem dX12_dispense_130 : decode cX12_dispense 130 = .ok (.iinc 5 1, 3) := by decide +kernel
theorem dX12_dispense_133 : decode cX12_dispense 133 = .ok (.goto (-60), 3) := by decide +kernel
theorem dX12_dispense_136 : decode cX12_dispense 136 = .ok (.aload_n 0, 1) := by decide +kernel
theorem dX12_dispense_137 : decode cX12_dispense 137 = .ok (.iload 4, 2) := by decide +kernel
theorem dX12_dispense_139 : decode cX12_dispense 139 = .ok (.ifCond .eq 7, 3) := by decide +kernel
theorem dX12_dispense_142 : decode cX12_dispense 142 = .ok (.iconst 0, 1) := by decide +kernel
theorem dX12_dispense_143 : decode cX12_dispense 143 = .ok (.goto 4, 3) := by decide +kernel
theorem dX12_dispense_146 : decode cX12_dispense 146 = .ok (.iconst 3, 1) := by decide +kernel
theorem dX12_dispense_147 : decode cX12_dispense 147 = .ok (.putfield 93, 3) := by decide +kernel
theorem dX12_dispense_150 : decode cX12_dispense 150 = .ok (.aload_n 0, 1) := by decide +kernel
theorem dX12_dispense_151 : decode cX12_dispense 151 = .ok (.getfield 93, 3) := by decide +kernel
theorem dX12_dispense_154 : decode cX12_dispense 154 = .ok (.ifCond .le 5, 3) := by decide +kernel
theorem dX12_dispense_157 : decode cX12_dispense 157 = .ok (.iconst 0, 1) := by decide +kernel
theorem dX12_dispense_158 : decode cX12_dispense 158 = .ok (.ireturn, 1) := by decide +kernel
theorem dX12_dispense_159 : decode cX12_dispense 159 = .ok (.aload_n 0, 1) := by decide +kernel
theorem dX12_dispense_160 : decode cX12_dispense 160 = .ok (.getfield 45, 3) := by decide +kernel
theorem dX12_dispense_163 : decode cX12_dispense 163 = .ok (.aload_n 0, 1) := by decide +kernel
theorem dX12_dispense_164 : decode cX12_dispense 164 = .ok (.getfield 253, 3) := by decide +kernel
theorem dX12_dispense_167 : decode cX12_dispense 167 = .ok (.iload_n 1, 1) := by decide +kernel
theorem dX12_dispense_168 : decode cX12_dispense 168 = .ok (.iastore, 1) := by decide +kernel
theorem dX12_dispense_169 : decode cX12_dispense 169 = .ok (.aload_n 0, 1) := by decide +kernel
theorem dX12_dispense_170 : decode cX12_dispense 170 = .ok (.getfield 48, 3) := by decide +kernel
theorem dX12_dispense_173 : decode cX12_dispense 173 = .ok (.aload_n 0, 1) := by decide +kernel
theorem dX12_dispense_174 : decode cX12_dispense 174 = .ok (.getfield 253, 3) := by decide +kernel
theorem dX12_dispense_177 : decode cX12_dispense 177 = .ok (.iload_n 2, 1) := by decide +kernel
theorem dX12_dispense_178 : decode cX12_dispense 178 = .ok (.iastore, 1) := by decide +kernel
theorem dX12_dispense_179 : decode cX12_dispense 179 = .ok (.aload_n 0, 1) := by decide +kernel
theorem dX12_dispense_180 : decode cX12_dispense 180 = .ok (.getfield 51, 3) := by decide +kernel
theorem dX12_dispense_183 : decode cX12_dispense 183 = .ok (.aload_n 0, 1) := by decide +kernel
theorem dX12_dispense_184 : decode cX12_dispense 184 = .ok (.getfield 253, 3) := by decide +kernel
theorem dX12_dispense_187 : decode cX12_dispense 187 = .ok (.iload_n 3, 1) := by decide +kernel
theorem dX12_dispense_188 : decode cX12_dispense 188 = .ok (.iastore, 1) := by decide +kernel
theorem dX12_dispense_189 : decode cX12_dispense 189 = .ok (.aload_n 0, 1) := by decide +kernel
theorem dX12_dispense_190 : decode cX12_dispense 190 = .ok (.dup, 1) := by decide +kernel
theorem dX12_dispense_191 : decode cX12_dispense 191 = .ok (.getfield 253, 3) := by decide +kernel
theorem dX12_dispense_194 : decode cX12_dispense 194 = .ok (.iconst 1, 1) := by decide +kernel
theorem dX12_dispense_195 : decode cX12_dispense 195 = .ok (.iadd, 1) := by decide +kernel
theorem dX12_dispense_196 : decode cX12_dispense 196 = .ok (.putfield 253, 3) := by decide +kernel
theorem dX12_dispense_199 : decode cX12_dispense 199 = .ok (.aload_n 0, 1) := by decide +kernel
theorem dX12_dispense_200 : decode cX12_dispense 200 = .ok (.getfield 253, 3) := by decide +kernel
theorem dX12_dispense_203 : decode cX12_dispense 203 = .ok (.ireturn, 1) := by decide +kernel
theorem dX12_bendOf_0 : decode cX12_bendOf 0 = .ok (.iconst (-1), 1) := by decide +kernel
theorem dX12_bendOf_1 : decode cX12_bendOf 1 = .ok (.istore_n 3, 1) := by decide +kernel
theorem dX12_bendOf_2 : decode cX12_bendOf 2 = .ok (.iconst 0, 1) := by decide +kernel
theorem dX12_bendOf_3 : decode cX12_bendOf 3 = .ok (.istore 4, 2) := by decide +kernel
theorem dX12_bendOf_5 : decode cX12_bendOf 5 = .ok (.iload 4, 2) := by decide +kernel
theorem dX12_bendOf_7 : decode cX12_bendOf 7 = .ok (.aload_n 0, 1) := by decide +kernel
theorem dX12_bendOf_8 : decode cX12_bendOf 8 = .ok (.getfield 253, 3) := by decide +kernel
theorem dX12_bendOf_11 : decode cX12_bendOf 11 = .ok (.if_icmp .ge 38, 3) := by decide +kernel
theorem dX12_bendOf_14 : decode cX12_bendOf 14 = .ok (.aload_n 0, 1) := by decide +kernel
theorem dX12_bendOf_15 : decode cX12_bendOf 15 = .ok (.getfield 45, 3) := by decide +kernel
theorem dX12_bendOf_18 : decode cX12_bendOf 18 = .ok (.iload 4, 2) := by decide +kernel
theorem dX12_bendOf_20 : decode cX12_bendOf 20 = .ok (.iaload, 1) := by decide +kernel
theorem dX12_bendOf_21 : decode cX12_bendOf 21 = .ok (.iload_n 1, 1) := by decide +kernel
theorem dX12_bendOf_22 : decode cX12_bendOf 22 = .ok (.if_icmp .ne 19, 3) := by decide +kernel
theorem dX12_bendOf_25 : decode cX12_bendOf 25 = .ok (.aload_n 0, 1) := by decide +kernel
theorem dX12_bendOf_26 : decode cX12_bendOf 26 = .ok (.getfield 48, 3) := by decide +kernel
theorem dX12_bendOf_29 : decode cX12_bendOf 29 = .ok (.iload 4, 2) := by decide +kernel
theorem dX12_bendOf_31 : decode cX12_bendOf 31 = .ok (.iaload, 1) := by decide +kernel
theorem dX12_bendOf_32 : decode cX12_bendOf 32 = .ok (.iload_n 2, 1) := by decide +kernel
theorem dX12_bendOf_33 : decode cX12_bendOf 33 = .ok (.if_icmp .ne 8, 3) := by decide +kernel
theorem dX12_bendOf_36 : decode cX12_bendOf 36 = .ok (.iload 4, 2) := by decide +kernel
theorem dX12_bendOf_38 : decode cX12_bendOf 38 = .ok (.goto 4, 3) := by decide +kernel
theorem dX12_bendOf_41 : decode cX12_bendOf 41 = .ok (.iload_n 3, 1) := by decide +kernel
theorem dX12_bendOf_42 : decode cX12_bendOf 42 = .ok (.istore_n 3, 1) := by decide +kernel
theorem dX12_bendOf_43 : decode cX12_bendOf 43 = .ok (.iinc 4 1, 3) := by decide +kernel
theorem dX12_bendOf_46 : decode cX12_bendOf 46 = .ok (.goto (-41), 3) := by decide +kernel
theorem dX12_bendOf_49 : decode cX12_bendOf 49 = .ok (.iload_n 3, 1) := by decide +kernel
theorem dX12_bendOf_50 : decode cX12_bendOf 50 = .ok (.ireturn, 1) := by decide +kernel
theorem dX12_takeBack_0 : decode cX12_takeBack 0 = .ok (.aload_n 0, 1) := by decide +kernel
theorem dX12_takeBack_1 : decode cX12_takeBack 1 = .ok (.aload_n 0, 1) := by decide +kernel
theorem dX12_takeBack_2 : decode cX12_takeBack 2 = .ok (.iload_n 1, 1) := by decide +kernel
theorem dX12_takeBack_3 : decode cX12_takeBack 3 = .ok (.invokevirtual 244, 3) := by decide +kernel
theorem dX12_takeBack_6 : decode cX12_takeBack 6 = .ok (.ifCond .ne 7, 3) := by decide +kernel
theorem dX12_takeBack_9 : decode cX12_takeBack 9 = .ok (.iconst 1, 1) := by decide +kernel
theorem dX12_takeBack_10 : decode cX12_takeBack 10 = .ok (.goto 15, 3) := by decide +kernel
theorem dX12_takeBack_13 : decode cX12_takeBack 13 = .ok (.iload_n 2, 1) := by decide +kernel
theorem dX12_takeBack_14 : decode cX12_takeBack 14 = .ok (.invokestatic 250, 3) := by decide +kernel
theorem dX12_takeBack_17 : decode cX12_takeBack 17 = .ok (.ifCond .eq 7, 3) := by decide +kernel
theorem dX12_takeBack_20 : decode cX12_takeBack 20 = .ok (.iconst 0, 1) := by decide +kernel
theorem dX12_takeBack_21 : decode cX12_takeBack 21 = .ok (.goto 4, 3) := by decide +kernel
theorem dX12_takeBack_24 : decode cX12_takeBack 24 = .ok (.iconst 2, 1) := by decide +kernel
theorem dX12_takeBack_25 : decode cX12_takeBack 25 = .ok (.putfield 93, 3) := by decide +kernel
theorem dX12_takeBack_28 : decode cX12_takeBack 28 = .ok (.aload_n 0, 1) := by decide +kernel
theorem dX12_takeBack_29 : decode cX12_takeBack 29 = .ok (.getfield 93, 3) := by decide +kernel
theorem dX12_takeBack_32 : decode cX12_takeBack 32 = .ok (.ifCond .le 5, 3) := by decide +kernel
theorem dX12_takeBack_35 : decode cX12_takeBack 35 = .ok (.iconst 0, 1) := by decide +kernel
theorem dX12_takeBack_36 : decode cX12_takeBack 36 = .ok (.ireturn, 1) := by decide +kernel
theorem dX12_takeBack_37 : decode cX12_takeBack 37 = .ok (.aload_n 0, 1) := by decide +kernel
theorem dX12_takeBack_38 : decode cX12_takeBack 38 = .ok (.iload_n 1, 1) := by decide +kernel
theorem dX12_takeBack_39 : decode cX12_takeBack 39 = .ok (.iload_n 2, 1) := by decide +kernel
theorem dX12_takeBack_40 : decode cX12_takeBack 40 = .ok (.invokevirtual 256, 3) := by decide +kernel
theorem dX12_takeBack_43 : decode cX12_takeBack 43 = .ok (.istore_n 3, 1) := by decide +kernel
theorem dX12_takeBack_44 : decode cX12_takeBack 44 = .ok (.aload_n 0, 1) := by decide +kernel
theorem dX12_takeBack_45 : decode cX12_takeBack 45 = .ok (.iload_n 3, 1) := by decide +kernel
theorem dX12_takeBack_46 : decode cX12_takeBack 46 = .ok (.iconst (-1), 1) := by decide +kernel
theorem dX12_takeBack_47 : decode cX12_takeBack 47 = .ok (.if_icmp .ne 7, 3) := by decide +kernel
theorem dX12_takeBack_50 : decode cX12_takeBack 50 = .ok (.iconst 3, 1) := by decide +kernel
theorem dX12_takeBack_51 : decode cX12_takeBack 51 = .ok (.goto 4, 3) := by decide +kernel
theorem dX12_takeBack_54 : decode cX12_takeBack 54 = .ok (.iconst 0, 1) := by decide +kernel
theorem dX12_takeBack_55 : decode cX12_takeBack 55 = .ok (.putfield 93, 3) := by decide +kernel
theorem dX12_takeBack_58 : decode cX12_takeBack 58 = .ok (.aload_n 0, 1) := by decide +kernel
theorem dX12_takeBack_59 : decode cX12_takeBack 59 = .ok (.getfield 93, 3) := by decide +kernel
theorem dX12_takeBack_62 : decode cX12_takeBack 62 = .ok (.ifCond .le 5, 3) := by decide +kernel
theorem dX12_takeBack_65 : decode cX12_takeBack 65 = .ok (.iconst 0, 1) := by decide +kernel
theorem dX12_takeBack_66 : decode cX12_takeBack 66 = .ok (.ireturn, 1) := by decide +kernel
theorem dX12_takeBack_67 : decode cX12_takeBack 67 = .ok (.aload_n 0, 1) := by decide +kernel
theorem dX12_takeBack_68 : decode cX12_takeBack 68 = .ok (.getfield 51, 3) := by decide +kernel
theorem dX12_takeBack_71 : decode cX12_takeBack 71 = .ok (.iload_n 3, 1) := by decide +kernel
theorem dX12_takeBack_72 : decode cX12_takeBack 72 = .ok (.iaload, 1) := by decide +kernel
theorem dX12_takeBack_73 : decode cX12_takeBack 73 = .ok (.istore 4, 2) := by decide +kernel
theorem dX12_takeBack_75 : decode cX12_takeBack 75 = .ok (.aload_n 0, 1) := by decide +kernel
theorem dX12_takeBack_76 : decode cX12_takeBack 76 = .ok (.dup, 1) := by decide +kernel
theorem dX12_takeBack_77 : decode cX12_takeBack 77 = .ok (.getfield 253, 3) := by decide +kernel
theorem dX12_takeBack_80 : decode cX12_takeBack 80 = .ok (.iconst 1, 1) := by decide +kernel
theorem dX12_takeBack_81 : decode cX12_takeBack 81 = .ok (.isub, 1) := by decide +kernel
theorem dX12_takeBack_82 : decode cX12_takeBack 82 = .ok (.putfield 253, 3) := by decide +kernel
theorem dX12_takeBack_85 : decode cX12_takeBack 85 = .ok (.aload_n 0, 1) := by decide +kernel
theorem dX12_takeBack_86 : decode cX12_takeBack 86 = .ok (.getfield 45, 3) := by decide +kernel
theorem dX12_takeBack_89 : decode cX12_takeBack 89 = .ok (.iload_n 3, 1) := by decide +kernel
theorem dX12_takeBack_90 : decode cX12_takeBack 90 = .ok (.aload_n 0, 1) := by decide +kernel
theorem dX12_takeBack_91 : decode cX12_takeBack 91 = .ok (.getfield 45, 3) := by decide +kernel
theorem dX12_takeBack_94 : decode cX12_takeBack 94 = .ok (.aload_n 0, 1) := by decide +kernel
theorem dX12_takeBack_95 : decode cX12_takeBack 95 = .ok (.getfield 253, 3) := by decide +kernel
theorem dX12_takeBack_98 : decode cX12_takeBack 98 = .ok (.iaload, 1) := by decide +kernel
theorem dX12_takeBack_99 : decode cX12_takeBack 99 = .ok (.iastore, 1) := by decide +kernel
theorem dX12_takeBack_100 : decode cX12_takeBack 100 = .ok (.aload_n 0, 1) := by decide +kernel
theorem dX12_takeBack_101 : decode cX12_takeBack 101 = .ok (.getfield 48, 3) := by decide +kernel
theorem dX12_takeBack_104 : decode cX12_takeBack 104 = .ok (.iload_n 3, 1) := by decide +kernel
theorem dX12_takeBack_105 : decode cX12_takeBack 105 = .ok (.aload_n 0, 1) := by decide +kernel
theorem dX12_takeBack_106 : decode cX12_takeBack 106 = .ok (.getfield 48, 3) := by decide +kernel
theorem dX12_takeBack_109 : decode cX12_takeBack 109 = .ok (.aload_n 0, 1) := by decide +kernel
theorem dX12_takeBack_110 : decode cX12_takeBack 110 = .ok (.getfield 253, 3) := by decide +kernel
theorem dX12_takeBack_113 : decode cX12_takeBack 113 = .ok (.iaload, 1) := by decide +kernel
theorem dX12_takeBack_114 : decode cX12_takeBack 114 = .ok (.iastore, 1) := by decide +kernel
theorem dX12_takeBack_115 : decode cX12_takeBack 115 = .ok (.aload_n 0, 1) := by decide +kernel
theorem dX12_takeBack_116 : decode cX12_takeBack 116 = .ok (.getfield 51, 3) := by decide +kernel
theorem dX12_takeBack_119 : decode cX12_takeBack 119 = .ok (.iload_n 3, 1) := by decide +kernel
theorem dX12_takeBack_120 : decode cX12_takeBack 120 = .ok (.aload_n 0, 1) := by decide +kernel
theorem dX12_takeBack_121 : decode cX12_takeBack 121 = .ok (.getfield 51, 3) := by decide +kernel
theorem dX12_takeBack_124 : decode cX12_takeBack 124 = .ok (.aload_n 0, 1) := by decide +kernel
theorem dX12_takeBack_125 : decode cX12_takeBack 125 = .ok (.getfield 253, 3) := by decide +kernel
theorem dX12_takeBack_128 : decode cX12_takeBack 128 = .ok (.iaload, 1) := by decide +kernel
theorem dX12_takeBack_129 : decode cX12_takeBack 129 = .ok (.iastore, 1) := by decide +kernel
theorem dX12_takeBack_130 : decode cX12_takeBack 130 = .ok (.iload 4, 2) := by decide +kernel
theorem dX12_takeBack_132 : decode cX12_takeBack 132 = .ok (.ireturn, 1) := by decide +kernel
theorem dX12_feasts_0 : decode cX12_feasts 0 = .ok (.aload_n 0, 1) := by decide +kernel
theorem dX12_feasts_1 : decode cX12_feasts 1 = .ok (.iconst 0, 1) := by decide +kernel
theorem dX12_feasts_2 : decode cX12_feasts 2 = .ok (.putfield 93, 3) := by decide +kernel
theorem dX12_feasts_5 : decode cX12_feasts 5 = .ok (.aload_n 0, 1) := by decide +kernel
theorem dX12_feasts_6 : decode cX12_feasts 6 = .ok (.getfield 231, 3) := by decide +kernel
theorem dX12_feasts_9 : decode cX12_feasts 9 = .ok (.ireturn, 1) := by decide +kernel
theorem dX12_within_0 : decode cX12_within 0 = .ok (.iload_n 1, 1) := by decide +kernel
theorem dX12_within_1 : decode cX12_within 1 = .ok (.iconst 0, 1) := by decide +kernel
theorem dX12_within_2 : decode cX12_within 2 = .ok (.iload_n 0, 1) := by decide +kernel
theorem dX12_within_3 : decode cX12_within 3 = .ok (.invokestatic 123, 3) := by decide +kernel
theorem dX12_within_6 : decode cX12_within 6 = .ok (.iconst 1, 1) := by decide +kernel
theorem dX12_within_7 : decode cX12_within 7 = .ok (.isub, 1) := by decide +kernel
theorem dX12_within_8 : decode cX12_within 8 = .ok (.invokestatic 115, 3) := by decide +kernel
theorem dX12_within_11 : decode cX12_within 11 = .ok (.ifCond .eq 7, 3) := by decide +kernel
theorem dX12_within_14 : decode cX12_within 14 = .ok (.iload_n 1, 1) := by decide +kernel
theorem dX12_within_15 : decode cX12_within 15 = .ok (.goto 4, 3) := by decide +kernel
theorem dX12_within_18 : decode cX12_within 18 = .ok (.iconst (-1), 1) := by decide +kernel
theorem dX12_within_19 : decode cX12_within 19 = .ok (.ireturn, 1) := by decide +kernel
theorem dX12_starts_0 : decode cX12_starts 0 = .ok (.iload_n 0, 1) := by decide +kernel
theorem dX12_starts_1 : decode cX12_starts 1 = .ok (.iconst 1, 1) := by decide +kernel
theorem dX12_starts_2 : decode cX12_starts 2 = .ok (.if_icmp .ne 10, 3) := by decide +kernel
theorem dX12_starts_5 : decode cX12_starts 5 = .ok (.iload_n 1, 1) := by decide +kernel
theorem dX12_starts_6 : decode cX12_starts 6 = .ok (.bipush 100, 2) := by decide +kernel
theorem dX12_starts_8 : decode cX12_starts 8 = .ok (.idiv, 1) := by decide +kernel
theorem dX12_starts_9 : decode cX12_starts 9 = .ok (.goto 7, 3) := by decide +kernel
theorem dX12_starts_12 : decode cX12_starts 12 = .ok (.iload_n 1, 1) := by decide +kernel
theorem dX12_starts_13 : decode cX12_starts 13 = .ok (.bipush 100, 2) := by decide +kernel
theorem dX12_starts_15 : decode cX12_starts 15 = .ok (.irem, 1) := by decide +kernel
theorem dX12_starts_16 : decode cX12_starts 16 = .ok (.istore_n 3, 1) := by decide +kernel
theorem dX12_starts_17 : decode cX12_starts 17 = .ok (.iload_n 2, 1) := by decide +kernel
theorem dX12_starts_18 : decode cX12_starts 18 = .ok (.iload_n 3, 1) := by decide +kernel
theorem dX12_starts_19 : decode cX12_starts 19 = .ok (.invokestatic 259, 3) := by decide +kernel
theorem dX12_starts_22 : decode cX12_starts 22 = .ok (.istore 4, 2) := by decide +kernel
theorem dX12_starts_24 : decode cX12_starts 24 = .ok (.iload_n 3, 1) := by decide +kernel
theorem dX12_starts_25 : decode cX12_starts 25 = .ok (.iload_n 2, 1) := by decide +kernel
theorem dX12_starts_26 : decode cX12_starts 26 = .ok (.invokestatic 97, 3) := by decide +kernel
theorem dX12_starts_29 : decode cX12_starts 29 = .ok (.invokestatic 101, 3) := by decide +kernel
theorem dX12_starts_32 : decode cX12_starts 32 = .ok (.istore 5, 2) := by decide +kernel
theorem dX12_starts_34 : decode cX12_starts 34 = .ok (.iload_n 0, 1) := by decide +kernel
theorem dX12_starts_35 : decode cX12_starts 35 = .ok (.iconst 1, 1) := by decide +kernel
theorem dX12_starts_36 : decode cX12_starts 36 = .ok (.if_icmp .ne 26, 3) := by decide +kernel
theorem dX12_starts_39 : decode cX12_starts 39 = .ok (.iload_n 1, 1) := by decide +kernel
theorem dX12_starts_40 : decode cX12_starts 40 = .ok (.bipush 100, 2) := by decide +kernel
theorem dX12_starts_42 : decode cX12_starts 42 = .ok (.irem, 1) := by decide +kernel
theorem dX12_starts_43 : decode cX12_starts 43 = .ok (.iload 5, 2) := by decide +kernel
theorem dX12_starts_45 : decode cX12_starts 45 = .ok (.if_icmp .gt 15, 3) := by decide +kernel
theorem dX12_starts_48 : decode cX12_starts 48 = .ok (.iload 4, 2) := by decide +kernel
theorem dX12_starts_50 : decode cX12_starts 50 = .ok (.iload_n 1, 1) := by decide +kernel
theorem dX12_starts_51 : decode cX12_starts 51 = .ok (.bipush 100, 2) := by decide +kernel
theorem dX12_starts_53 : decode cX12_starts 53 = .ok (.irem, 1) := by decide +kernel
theorem dX12_starts_54 : decode cX12_starts 54 = .ok (.iadd, 1) := by decide +kernel
theorem dX12_starts_55 : decode cX12_starts 55 = .ok (.iconst 1, 1) := by decide +kernel
theorem dX12_starts_56 : decode cX12_starts 56 = .ok (.isub, 1) := by decide +kernel
theorem dX12_starts_57 : decode cX12_starts 57 = .ok (.goto 4, 3) := by decide +kernel
theorem dX12_starts_60 : decode cX12_starts 60 = .ok (.iconst (-1), 1) := by decide +kernel
theorem dX12_starts_61 : decode cX12_starts 61 = .ok (.ireturn, 1) := by decide +kernel
theorem dX12_starts_62 : decode cX12_starts 62 = .ok (.iload_n 1, 1) := by decide +kernel
theorem dX12_starts_63 : decode cX12_starts 63 = .ok (.bipush 100, 2) := by decide +kernel
theorem dX12_starts_65 : decode cX12_starts 65 = .ok (.idiv, 1) := by decide +kernel
theorem dX12_starts_66 : decode cX12_starts 66 = .ok (.bipush 10, 2) := by decide +kernel
theorem dX12_starts_68 : decode cX12_starts 68 = .ok (.irem, 1) := by decide +kernel
theorem dX12_starts_69 : decode cX12_starts 69 = .ok (.istore 6, 2) := by decide +kernel
theorem dX12_starts_71 : decode cX12_starts 71 = .ok (.iload_n 0, 1) := by decide +kernel
theorem dX12_starts_72 : decode cX12_starts 72 = .ok (.iconst 3, 1) := by decide +kernel
theorem dX12_starts_73 : decode cX12_starts 73 = .ok (.if_icmp .ne 35, 3) := by decide +kernel
theorem dX12_starts_76 : decode cX12_starts 76 = .ok (.iload 4, 2) := by decide +kernel
theorem dX12_starts_78 : decode cX12_starts 78 = .ok (.iload 5, 2) := by decide +kernel
theorem dX12_starts_80 : decode cX12_starts 80 = .ok (.iadd, 1) := by decide +kernel
theorem dX12_starts_81 : decode cX12_starts 81 = .ok (.iconst 1, 1) := by decide +kernel
theorem dX12_starts_82 : decode cX12_starts 82 = .ok (.isub, 1) := by decide +kernel
theorem dX12_starts_83 : decode cX12_starts 83 = .ok (.istore 7, 2) := by decide +kernel
theorem dX12_starts_85 : decode cX12_starts 85 = .ok (.iload 7, 2) := by decide +kernel
theorem dX12_starts_87 : decode cX12_starts 87 = .ok (.iload_n 2, 1) := by decide +kernel
theorem dX12_starts_88 : decode cX12_starts 88 = .ok (.invokestatic 119, 3) := by decide +kernel
theorem dX12_starts_91 : decode cX12_starts 91 = .ok (.iload 7, 2) := by decide +kernel
theorem dX12_starts_93 : decode cX12_starts 93 = .ok (.iadd, 1) := by decide +kernel
theorem dX12_starts_94 : decode cX12_starts 94 = .ok (.invokestatic 262, 3) := by decide +kernel
theorem dX12_starts_97 : decode cX12_starts 97 = .ok (.iload 6, 2) := by decide +kernel
theorem dX12_starts_99 : decode cX12_starts 99 = .ok (.isub, 1) := by decide +kernel
theorem dX12_starts_100 : decode cX12_starts 100 = .ok (.bipush 7, 2) := by decide +kernel
theorem dX12_starts_102 : decode cX12_starts 102 = .ok (.iadd, 1) := by decide +kernel
theorem dX12_starts_103 : decode cX12_starts 103 = .ok (.bipush 7, 2) := by decide +kernel
theorem dX12_starts_105 : decode cX12_starts 105 = .ok (.irem, 1) := by decide +kernel
theorem dX12_starts_106 : decode cX12_starts 106 = .ok (.isub, 1) := by decide +kernel
theorem dX12_starts_107 : decode cX12_starts 107 = .ok (.ireturn, 1) := by decide +kernel
theorem dX12_starts_108 : decode cX12_starts 108 = .ok (.iload 6, 2) := by decide +kernel
theorem dX12_starts_110 : decode cX12_starts 110 = .ok (.iload_n 2, 1) := by decide +kernel
theorem dX12_starts_111 : decode cX12_starts 111 = .ok (.invokestatic 119, 3) := by decide +kernel
theorem dX12_starts_114 : decode cX12_starts 114 = .ok (.iload 4, 2) := by decide +kernel
theorem dX12_starts_116 : decode cX12_starts 116 = .ok (.iadd, 1) := by decide +kernel
theorem dX12_starts_117 : decode cX12_starts 117 = .ok (.invokestatic 262, 3) := by decide +kernel
theorem dX12_starts_120 : decode cX12_starts 120 = .ok (.isub, 1) := by decide +kernel
theorem dX12_starts_121 : decode cX12_starts 121 = .ok (.bipush 7, 2) := by decide +kernel
theorem dX12_starts_123 : decode cX12_starts 123 = .ok (.iadd, 1) := by decide +kernel
theorem dX12_starts_124 : decode cX12_starts 124 = .ok (.bipush 7, 2) := by decide +kernel
theorem dX12_starts_126 : decode cX12_starts 126 = .ok (.irem, 1) := by decide +kernel
theorem dX12_starts_127 : decode cX12_starts 127 = .ok (.istore 7, 2) := by decide +kernel
theorem dX12_starts_129 : decode cX12_starts 129 = .ok (.iload 7, 2) := by decide +kernel
theorem dX12_starts_131 : decode cX12_starts 131 = .ok (.bipush 7, 2) := by decide +kernel
theorem dX12_starts_133 : decode cX12_starts 133 = .ok (.iload_n 1, 1) := by decide +kernel
theorem dX12_starts_134 : decode cX12_starts 134 = .ok (.sipush 1000, 3) := by decide +kernel
theorem dX12_starts_137 : decode cX12_starts 137 = .ok (.idiv, 1) := by decide +kernel
theorem dX12_starts_138 : decode cX12_starts 138 = .ok (.iconst 1, 1) := by decide +kernel
theorem dX12_starts_139 : decode cX12_starts 139 = .ok (.isub, 1) := by decide +kernel
theorem dX12_starts_140 : decode cX12_starts 140 = .ok (.imul, 1) := by decide +kernel
theorem dX12_starts_141 : decode cX12_starts 141 = .ok (.iadd, 1) := by decide +kernel
theorem dX12_starts_142 : decode cX12_starts 142 = .ok (.istore 8, 2) := by decide +kernel
theorem dX12_starts_144 : decode cX12_starts 144 = .ok (.iload 8, 2) := by decide +kernel
theorem dX12_starts_146 : decode cX12_starts 146 = .ok (.iload 5, 2) := by decide +kernel
theorem dX12_starts_148 : decode cX12_starts 148 = .ok (.if_icmp .ge 11, 3) := by decide +kernel
theorem dX12_starts_151 : decode cX12_starts 151 = .ok (.iload 4, 2) := by decide +kernel
theorem dX12_starts_153 : decode cX12_starts 153 = .ok (.iload 8, 2) := by decide +kernel
theorem dX12_starts_155 : decode cX12_starts 155 = .ok (.iadd, 1) := by decide +kernel
theorem dX12_starts_156 : decode cX12_starts 156 = .ok (.goto 4, 3) := by decide +kernel
theorem dX12_starts_159 : decode cX12_starts 159 = .ok (.iconst (-1), 1) := by decide +kernel
theorem dX12_starts_160 : decode cX12_starts 160 = .ok (.ireturn, 1) := by decide +kernel
theorem dX12_toWeekday_0 : decode cX12_toWeekday 0 = .ok (.iload_n 2, 1) := by decide +kernel
theorem dX12_toWeekday_1 : decode cX12_toWeekday 1 = .ok (.invokestatic 119, 3) := by decide +kernel
theorem dX12_toWeekday_4 : decode cX12_toWeekday 4 = .ok (.iload_n 3, 1) := by decide +kernel
theorem dX12_toWeekday_5 : decode cX12_toWeekday 5 = .ok (.iadd, 1) := by decide +kernel
theorem dX12_toWeekday_6 : decode cX12_toWeekday 6 = .ok (.invokestatic 262, 3) := by decide +kernel
theorem dX12_toWeekday_9 : decode cX12_toWeekday 9 = .ok (.istore 4, 2) := by decide +kernel
theorem dX12_toWeekday_11 : decode cX12_toWeekday 11 = .ok (.iload_n 1, 1) := by decide +kernel
theorem dX12_toWeekday_12 : decode cX12_toWeekday 12 = .ok (.iload 4, 2) := by decide +kernel
theorem dX12_toWeekday_14 : decode cX12_toWeekday 14 = .ok (.isub, 1) := by decide +kernel
theorem dX12_toWeekday_15 : decode cX12_toWeekday 15 = .ok (.bipush 7, 2) := by decide +kernel
theorem dX12_toWeekday_17 : decode cX12_toWeekday 17 = .ok (.iadd, 1) := by decide +kernel
theorem dX12_toWeekday_18 : decode cX12_toWeekday 18 = .ok (.bipush 7, 2) := by decide +kernel
theorem dX12_toWeekday_20 : decode cX12_toWeekday 20 = .ok (.irem, 1) := by decide +kernel
theorem dX12_toWeekday_21 : decode cX12_toWeekday 21 = .ok (.istore 5, 2) := by decide +kernel
theorem dX12_toWeekday_23 : decode cX12_toWeekday 23 = .ok (.iload 4, 2) := by decide +kernel
theorem dX12_toWeekday_25 : decode cX12_toWeekday 25 = .ok (.iload_n 1, 1) := by decide +kernel
theorem dX12_toWeekday_26 : decode cX12_toWeekday 26 = .ok (.isub, 1) := by decide +kernel
theorem dX12_toWeekday_27 : decode cX12_toWeekday 27 = .ok (.bipush 7, 2) := by decide +kernel
theorem dX12_toWeekday_29 : decode cX12_toWeekday 29 = .ok (.iadd, 1) := by decide +kernel
theorem dX12_toWeekday_30 : decode cX12_toWeekday 30 = .ok (.bipush 7, 2) := by decide +kernel
theorem dX12_toWeekday_32 : decode cX12_toWeekday 32 = .ok (.irem, 1) := by decide +kernel
theorem dX12_toWeekday_33 : decode cX12_toWeekday 33 = .ok (.istore 6, 2) := by decide +kernel
theorem dX12_toWeekday_35 : decode cX12_toWeekday 35 = .ok (.iload_n 0, 1) := by decide +kernel
theorem dX12_toWeekday_36 : decode cX12_toWeekday 36 = .ok (.bipush 6, 2) := by decide +kernel
theorem dX12_toWeekday_38 : decode cX12_toWeekday 38 = .ok (.if_icmp .ne 18, 3) := by decide +kernel
theorem dX12_toWeekday_41 : decode cX12_toWeekday 41 = .ok (.iload_n 3, 1) := by decide +kernel
theorem dX12_toWeekday_42 : decode cX12_toWeekday 42 = .ok (.iload 5, 2) := by decide +kernel
theorem dX12_toWeekday_44 : decode cX12_toWeekday 44 = .ok (.ifCond .ne 8, 3) := by decide +kernel
theorem dX12_toWeekday_47 : decode cX12_toWeekday 47 = .ok (.bipush 7, 2) := by decide +kernel
theorem dX12_toWeekday_49 : decode cX12_toWeekday 49 = .ok (.goto 5, 3) := by decide +kernel
theorem dX12_toWeekday_52 : decode cX12_toWeekday 52 = .ok (.iload 5, 2) := by decide +kernel
theorem dX12_toWeekday_54 : decode cX12_toWeekday 54 = .ok (.iadd, 1) := by decide +kernel
theorem dX12_toWeekday_55 : decode cX12_toWeekday 55 = .ok (.ireturn, 1) := by decide +kernel
theorem dX12_toWeekday_56 : decode cX12_toWeekday 56 = .ok (.iload_n 0, 1) := by decide +kernel
theorem dX12_toWeekday_57 : decode cX12_toWeekday 57 = .ok (.bipush 7, 2) := by decide +kernel
theorem dX12_toWeekday_59 : decode cX12_toWeekday 59 = .ok (.if_icmp .ne 18, 3) := by decide +kernel
theorem dX12_toWeekday_62 : decode cX12_toWeekday 62 = .ok (.iload_n 3, 1) := by decide +kernel
theorem dX12_toWeekday_63 : decode cX12_toWeekday 63 = .ok (.iload 6, 2) := by decide +kernel
theorem dX12_toWeekday_65 : decode cX12_toWeekday 65 = .ok (.ifCond .ne 8, 3) := by decide +kernel
theorem dX12_toWeekday_68 : decode cX12_toWeekday 68 = .ok (.bipush 7, 2) := by decide +kernel
theorem dX12_toWeekday_70 : decode cX12_toWeekday 70 = .ok (.goto 5, 3) := by decide +kernel
theorem dX12_toWeekday_73 : decode cX12_toWeekday 73 = .ok (.iload 6, 2) := by decide +kernel
theorem dX12_toWeekday_75 : decode cX12_toWeekday 75 = .ok (.isub, 1) := by decide +kernel
theorem dX12_toWeekday_76 : decode cX12_toWeekday 76 = .ok (.ireturn, 1) := by decide +kernel
theorem dX12_toWeekday_77 : decode cX12_toWeekday 77 = .ok (.iload_n 0, 1) := by decide +kernel
theorem dX12_toWeekday_78 : decode cX12_toWeekday 78 = .ok (.bipush 8, 2) := by decide +kernel
theorem dX12_toWeekday_80 : decode cX12_toWeekday 80 = .ok (.if_icmp .ne 10, 3) := by decide +kernel
theorem dX12_toWeekday_83 : decode cX12_toWeekday 83 = .ok (.iload_n 3, 1) := by decide +kernel
theorem dX12_toWeekday_84 : decode cX12_toWeekday 84 = .ok (.iload 5, 2) := by decide +kernel
theorem dX12_toWeekday_86 : decode cX12_toWeekday 86 = .ok (.iadd, 1) := by decide +kernel
theorem dX12_toWeekday_87 : decode cX12_toWeekday 87 = .ok (.goto 7, 3) := by decide +kernel
theorem dX12_toWeekday_90 : decode cX12_toWeekday 90 = .ok (.iload_n 3, 1) := by decide +kernel
theorem dX12_toWeekday_91 : decode cX12_toWeekday 91 = .ok (.iload 6, 2) := by decide +kernel
theorem dX12_toWeekday_93 : decode cX12_toWeekday 93 = .ok (.isub, 1) := by decide +kernel
theorem dX12_toWeekday_94 : decode cX12_toWeekday 94 = .ok (.ireturn, 1) := by decide +kernel
theorem dX12_toMoon_0 : decode cX12_toMoon 0 = .ok (.iload_n 1, 1) := by decide +kernel
theorem dX12_toMoon_1 : decode cX12_toMoon 1 = .ok (.invokestatic 119, 3) := by decide +kernel
theorem dX12_toMoon_4 : decode cX12_toMoon 4 = .ok (.iload_n 2, 1) := by decide +kernel
theorem dX12_toMoon_5 : decode cX12_toMoon 5 = .ok (.iadd, 1) := by decide +kernel
theorem dX12_toMoon_6 : decode cX12_toMoon 6 = .ok (.istore 4, 2) := by decide +kernel
theorem dX12_toMoon_8 : decode cX12_toMoon 8 = .ok (.iload 4, 2) := by decide +kernel
theorem dX12_toMoon_10 : decode cX12_toMoon 10 = .ok (.iload_n 3, 1) := by decide +kernel
theorem dX12_toMoon_11 : decode cX12_toMoon 11 = .ok (.invokestatic 109, 3) := by decide +kernel
theorem dX12_toMoon_14 : decode cX12_toMoon 14 = .ok (.istore 5, 2) := by decide +kernel
theorem dX12_toMoon_16 : decode cX12_toMoon 16 = .ok (.iload 4, 2) := by decide +kernel
theorem dX12_toMoon_18 : decode cX12_toMoon 18 = .ok (.iload_n 3, 1) := by decide +kernel
theorem dX12_toMoon_19 : decode cX12_toMoon 19 = .ok (.invokestatic 130, 3) := by decide +kernel
theorem dX12_toMoon_22 : decode cX12_toMoon 22 = .ok (.istore 6, 2) := by decide +kernel
theorem dX12_toMoon_24 : decode cX12_toMoon 24 = .ok (.iload_n 0, 1) := by decide +kernel
theorem dX12_toMoon_25 : decode cX12_toMoon 25 = .ok (.bipush 10, 2) := by decide +kernel
theorem dX12_toMoon_27 : decode cX12_toMoon 27 = .ok (.if_icmp .ne 29, 3) := by decide +kernel
theorem dX12_toMoon_30 : decode cX12_toMoon 30 = .ok (.iload 6, 2) := by decide +kernel
theorem dX12_toMoon_32 : decode cX12_toMoon 32 = .ok (.bipush 14, 2) := by decide +kernel
theorem dX12_toMoon_34 : decode cX12_toMoon 34 = .ok (.if_icmp .gt 8, 3) := by decide +kernel
theorem dX12_toMoon_37 : decode cX12_toMoon 37 = .ok (.iload 5, 2) := by decide +kernel
theorem dX12_toMoon_39 : decode cX12_toMoon 39 = .ok (.goto 7, 3) := by decide +kernel
theorem dX12_toMoon_42 : decode cX12_toMoon 42 = .ok (.iload 5, 2) := by decide +kernel
theorem dX12_toMoon_44 : decode cX12_toMoon 44 = .ok (.iconst 1, 1) := by decide +kernel
theorem dX12_toMoon_45 : decode cX12_toMoon 45 = .ok (.iadd, 1) := by decide +kernel
theorem dX12_toMoon_46 : decode cX12_toMoon 46 = .ok (.iload_n 3, 1) := by decide +kernel
theorem dX12_toMoon_47 : decode cX12_toMoon 47 = .ok (.invokestatic 112, 3) := by decide +kernel
theorem dX12_toMoon_50 : decode cX12_toMoon 50 = .ok (.bipush 14, 2) := by decide +kernel
theorem dX12_toMoon_52 : decode cX12_toMoon 52 = .ok (.iadd, 1) := by decide +kernel
theorem dX12_toMoon_53 : decode cX12_toMoon 53 = .ok (.goto 21, 3) := by decide +kernel
theorem dX12_toMoon_56 : decode cX12_toMoon 56 = .ok (.iload 6, 2) := by decide +kernel
theorem dX12_toMoon_58 : decode cX12_toMoon 58 = .ok (.ifCond .ne 8, 3) := by decide +kernel
theorem dX12_toMoon_61 : decode cX12_toMoon 61 = .ok (.iload 4, 2) := by decide +kernel
theorem dX12_toMoon_63 : decode cX12_toMoon 63 = .ok (.goto 11, 3) := by decide +kernel
theorem dX12_toMoon_66 : decode cX12_toMoon 66 = .ok (.iload 5, 2) := by decide +kernel
theorem dX12_toMoon_68 : decode cX12_toMoon 68 = .ok (.iconst 1, 1) := by decide +kernel
theorem dX12_toMoon_69 : decode cX12_toMoon 69 = .ok (.iadd, 1) := by decide +kernel
theorem dX12_toMoon_70 : decode cX12_toMoon 70 = .ok (.iload_n 3, 1) := by decide +kernel
theorem dX12_toMoon_71 : decode cX12_toMoon 71 = .ok (.invokestatic 112, 3) := by decide +kernel
theorem dX12_toMoon_74 : decode cX12_toMoon 74 = .ok (.istore 7, 2) := by decide +kernel
theorem dX12_toMoon_76 : decode cX12_toMoon 76 = .ok (.iload 7, 2) := by decide +kernel
theorem dX12_toMoon_78 : decode cX12_toMoon 78 = .ok (.iload_n 1, 1) := by decide +kernel
theorem dX12_toMoon_79 : decode cX12_toMoon 79 = .ok (.invokestatic 119, 3) := by decide +kernel
theorem dX12_toMoon_82 : decode cX12_toMoon 82 = .ok (.isub, 1) := by decide +kernel
theorem dX12_toMoon_83 : decode cX12_toMoon 83 = .ok (.ireturn, 1) := by decide +kernel
theorem dX12_costOf_0 : decode cX12_costOf 0 = .ok (.iload_n 0, 1) := by decide +kernel
theorem dX12_costOf_1 : decode cX12_costOf 1 = .ok (.iconst 2, 1) := by decide +kernel
theorem dX12_costOf_2 : decode cX12_costOf 2 = .ok (.if_icmp .eq 8, 3) := by decide +kernel
theorem dX12_costOf_5 : decode cX12_costOf 5 = .ok (.iload_n 0, 1) := by decide +kernel
theorem dX12_costOf_6 : decode cX12_costOf 6 = .ok (.iconst 3, 1) := by decide +kernel
theorem dX12_costOf_7 : decode cX12_costOf 7 = .ok (.if_icmp .ne 5, 3) := by decide +kernel
theorem dX12_costOf_10 : decode cX12_costOf 10 = .ok (.iconst 3, 1) := by decide +kernel
theorem dX12_costOf_11 : decode cX12_costOf 11 = .ok (.ireturn, 1) := by decide +kernel
theorem dX12_costOf_12 : decode cX12_costOf 12 = .ok (.iload_n 0, 1) := by decide +kernel
theorem dX12_costOf_13 : decode cX12_costOf 13 = .ok (.bipush 10, 2) := by decide +kernel
theorem dX12_costOf_15 : decode cX12_costOf 15 = .ok (.if_icmp .eq 9, 3) := by decide +kernel
theorem dX12_costOf_18 : decode cX12_costOf 18 = .ok (.iload_n 0, 1) := by decide +kernel
theorem dX12_costOf_19 : decode cX12_costOf 19 = .ok (.bipush 11, 2) := by decide +kernel
theorem dX12_costOf_21 : decode cX12_costOf 21 = .ok (.if_icmp .ne 6, 3) := by decide +kernel
theorem dX12_costOf_24 : decode cX12_costOf 24 = .ok (.bipush 6, 2) := by decide +kernel
theorem dX12_costOf_26 : decode cX12_costOf 26 = .ok (.ireturn, 1) := by decide +kernel
theorem dX12_costOf_27 : decode cX12_costOf 27 = .ok (.iload_n 0, 1) := by decide +kernel
theorem dX12_costOf_28 : decode cX12_costOf 28 = .ok (.iconst 4, 1) := by decide +kernel
theorem dX12_costOf_29 : decode cX12_costOf 29 = .ok (.if_icmp .eq 21, 3) := by decide +kernel
theorem dX12_costOf_32 : decode cX12_costOf 32 = .ok (.iload_n 0, 1) := by decide +kernel
theorem dX12_costOf_33 : decode cX12_costOf 33 = .ok (.bipush 6, 2) := by decide +kernel
theorem dX12_costOf_35 : decode cX12_costOf 35 = .ok (.if_icmp .lt 9, 3) := by decide +kernel
theorem dX12_costOf_38 : decode cX12_costOf 38 = .ok (.iload_n 0, 1) := by decide +kernel
theorem dX12_costOf_39 : decode cX12_costOf 39 = .ok (.bipush 9, 2) := by decide +kernel
theorem dX12_costOf_41 : decode cX12_costOf 41 = .ok (.if_icmp .le 9, 3) := by decide +kernel
theorem dX12_costOf_44 : decode cX12_costOf 44 = .ok (.iload_n 0, 1) := by decide +kernel
theorem dX12_costOf_45 : decode cX12_costOf 45 = .ok (.bipush 15, 2) := by decide +kernel
theorem dX12_costOf_47 : decode cX12_costOf 47 = .ok (.if_icmp .ne 7, 3) := by decide +kernel
theorem dX12_costOf_50 : decode cX12_costOf 50 = .ok (.iconst 2, 1) := by decide +kernel
theorem dX12_costOf_51 : decode cX12_costOf 51 = .ok (.goto 4, 3) := by decide +kernel
theorem dX12_costOf_54 : decode cX12_costOf 54 = .ok (.iconst 1, 1) := by decide +kernel
theorem dX12_costOf_55 : decode cX12_costOf 55 = .ok (.ireturn, 1) := by decide +kernel
theorem dX12_moved_0 : decode cX12_moved 0 = .ok (.iload_n 3, 1) := by decide +kernel
theorem dX12_moved_1 : decode cX12_moved 1 = .ok (.iconst (-1), 1) := by decide +kernel
theorem dX12_moved_2 : decode cX12_moved 2 = .ok (.if_icmp .eq 9, 3) := by decide +kernel
theorem dX12_moved_5 : decode cX12_moved 5 = .ok (.iload_n 0, 1) := by decide +kernel
theorem dX12_moved_6 : decode cX12_moved 6 = .ok (.bipush 12, 2) := by decide +kernel
theorem dX12_moved_8 : decode cX12_moved 8 = .ok (.if_icmp .ne 5, 3) := by decide +kernel
theorem dX12_moved_11 : decode cX12_moved 11 = .ok (.iconst (-1), 1) := by decide +kernel
theorem dX12_moved_12 : decode cX12_moved 12 = .ok (.ireturn, 1) := by decide +kernel
theorem dX12_moved_13 : decode cX12_moved 13 = .ok (.iload_n 0, 1) := by decide +kernel
theorem dX12_moved_14 : decode cX12_moved 14 = .ok (.iconst 5, 1) := by decide +kernel
theorem dX12_moved_15 : decode cX12_moved 15 = .ok (.if_icmp .ne 15, 3) := by decide +kernel
theorem dX12_moved_18 : decode cX12_moved 18 = .ok (.iload_n 2, 1) := by decide +kernel
theorem dX12_moved_19 : decode cX12_moved 19 = .ok (.iload_n 3, 1) := by decide +kernel
theorem dX12_moved_20 : decode cX12_moved 20 = .ok (.iload_n 1, 1) := by decide +kernel
theorem dX12_moved_21 : decode cX12_moved 21 = .ok (.iadd, 1) := by decide +kernel
theorem dX12_moved_22 : decode cX12_moved 22 = .ok (.sipush 5000, 3) := by decide +kernel
theorem dX12_moved_25 : decode cX12_moved 25 = .ok (.isub, 1) := by decide +kernel
theorem dX12_moved_26 : decode cX12_moved 26 = .ok (.invokestatic 265, 3) := by decide +kernel
theorem dX12_moved_29 : decode cX12_moved 29 = .ok (.ireturn, 1) := by decide +kernel
theorem dX12_moved_30 : decode cX12_moved 30 = .ok (.iload_n 2, 1) := by decide +kernel
theorem dX12_moved_31 : decode cX12_moved 31 = .ok (.iload_n 0, 1) := by decide +kernel
theorem dX12_moved_32 : decode cX12_moved 32 = .ok (.bipush 10, 2) := by decide +kernel
theorem dX12_moved_34 : decode cX12_moved 34 = .ok (.if_icmp .ge 13, 3) := by decide +kernel
theorem dX12_moved_37 : decode cX12_moved 37 = .ok (.iload_n 0, 1) := by decide +kernel
theorem dX12_moved_38 : decode cX12_moved 38 = .ok (.iload_n 1, 1) := by decide +kernel
theorem dX12_moved_39 : decode cX12_moved 39 = .ok (.iload_n 2, 1) := by decide +kernel
theorem dX12_moved_40 : decode cX12_moved 40 = .ok (.iload_n 3, 1) := by decide +kernel
theorem dX12_moved_41 : decode cX12_moved 41 = .ok (.invokestatic 268, 3) := by decide +kernel
theorem dX12_moved_44 : decode cX12_moved 44 = .ok (.goto 11, 3) := by decide +kernel
theorem dX12_moved_47 : decode cX12_moved 47 = .ok (.iload_n 0, 1) := by decide +kernel
theorem dX12_moved_48 : decode cX12_moved 48 = .ok (.iload_n 2, 1) := by decide +kernel
theorem dX12_moved_49 : decode cX12_moved 49 = .ok (.iload_n 3, 1) := by decide +kernel
theorem dX12_moved_50 : decode cX12_moved 50 = .ok (.iload 4, 2) := by decide +kernel
theorem dX12_moved_52 : decode cX12_moved 52 = .ok (.invokestatic 272, 3) := by decide +kernel
theorem dX12_moved_55 : decode cX12_moved 55 = .ok (.invokestatic 265, 3) := by decide +kernel
theorem dX12_moved_58 : decode cX12_moved 58 = .ok (.ireturn, 1) := by decide +kernel
theorem dX12_isSo_0 : decode cX12_isSo 0 = .ok (.iload_n 1, 1) := by decide +kernel
theorem dX12_isSo_1 : decode cX12_isSo 1 = .ok (.bipush 14, 2) := by decide +kernel
theorem dX12_isSo_3 : decode cX12_isSo 3 = .ok (.if_icmp .ne 8, 3) := by decide +kernel
theorem dX12_isSo_6 : decode cX12_isSo 6 = .ok (.iload_n 3, 1) := by decide +kernel
theorem dX12_isSo_7 : decode cX12_isSo 7 = .ok (.invokestatic 97, 3) := by decide +kernel
theorem dX12_isSo_10 : decode cX12_isSo 10 = .ok (.ireturn, 1) := by decide +kernel
theorem dX12_isSo_11 : decode cX12_isSo 11 = .ok (.iload 4, 2) := by decide +kernel
theorem dX12_isSo_13 : decode cX12_isSo 13 = .ok (.iconst (-1), 1) := by decide +kernel
theorem dX12_isSo_14 : decode cX12_isSo 14 = .ok (.if_icmp .ne 5, 3) := by decide +kernel
theorem dX12_isSo_17 : decode cX12_isSo 17 = .ok (.iconst 0, 1) := by decide +kernel
theorem dX12_isSo_18 : decode cX12_isSo 18 = .ok (.ireturn, 1) := by decide +kernel
theorem dX12_isSo_19 : decode cX12_isSo 19 = .ok (.iload_n 1, 1) := by decide +kernel
theorem dX12_isSo_20 : decode cX12_isSo 20 = .ok (.bipush 13, 2) := by decide +kernel
theorem dX12_isSo_22 : decode cX12_isSo 22 = .ok (.if_icmp .ne 23, 3) := by decide +kernel
theorem dX12_isSo_25 : decode cX12_isSo 25 = .ok (.iload_n 3, 1) := by decide +kernel
theorem dX12_isSo_26 : decode cX12_isSo 26 = .ok (.invokestatic 119, 3) := by decide +kernel
theorem dX12_isSo_29 : decode cX12_isSo 29 = .ok (.iload 4, 2) := by decide +kernel
theorem dX12_isSo_31 : decode cX12_isSo 31 = .ok (.iadd, 1) := by decide +kernel
theorem dX12_isSo_32 : decode cX12_isSo 32 = .ok (.invokestatic 262, 3) := by decide +kernel
theorem dX12_isSo_35 : decode cX12_isSo 35 = .ok (.iload_n 2, 1) := by decide +kernel
theorem dX12_isSo_36 : decode cX12_isSo 36 = .ok (.if_icmp .ne 7, 3) := by decide +kernel
theorem dX12_isSo_39 : decode cX12_isSo 39 = .ok (.iconst 1, 1) := by decide +kernel
theorem dX12_isSo_40 : decode cX12_isSo 40 = .ok (.goto 4, 3) := by decide +kernel
theorem dX12_isSo_43 : decode cX12_isSo 43 = .ok (.iconst 0, 1) := by decide +kernel
theorem dX12_isSo_44 : decode cX12_isSo 44 = .ok (.ireturn, 1) := by decide +kernel
theorem dX12_isSo_45 : decode cX12_isSo 45 = .ok (.iload_n 1, 1) := by decide +kernel
theorem dX12_isSo_46 : decode cX12_isSo 46 = .ok (.bipush 15, 2) := by decide +kernel
theorem dX12_isSo_48 : decode cX12_isSo 48 = .ok (.if_icmp .ne 28, 3) := by decide +kernel
theorem dX12_isSo_51 : decode cX12_isSo 51 = .ok (.aload_n 0, 1) := by decide +kernel
theorem dX12_isSo_52 : decode cX12_isSo 52 = .ok (.getfield 54, 3) := by decide +kernel
theorem dX12_isSo_55 : decode cX12_isSo 55 = .ok (.bipush 20, 2) := by decide +kernel
theorem dX12_isSo_57 : decode cX12_isSo 57 = .ok (.iload 5, 2) := by decide +kernel
theorem dX12_isSo_59 : decode cX12_isSo 59 = .ok (.imul, 1) := by decide +kernel
theorem dX12_isSo_60 : decode cX12_isSo 60 = .ok (.iload_n 2, 1) := by decide +kernel
theorem dX12_isSo_61 : decode cX12_isSo 61 = .ok (.iadd, 1) := by decide +kernel
theorem dX12_isSo_62 : decode cX12_isSo 62 = .ok (.iaload, 1) := by decide +kernel
theorem dX12_isSo_63 : decode cX12_isSo 63 = .ok (.iload 4, 2) := by decide +kernel
theorem dX12_isSo_65 : decode cX12_isSo 65 = .ok (.if_icmp .ne 7, 3) := by decide +kernel
theorem dX12_isSo_68 : decode cX12_isSo 68 = .ok (.iconst 1, 1) := by decide +kernel
theorem dX12_isSo_69 : decode cX12_isSo 69 = .ok (.goto 22, 3) := by decide +kernel
theorem dX12_isSo_72 : decode cX12_isSo 72 = .ok (.iconst 0, 1) := by decide +kernel
theorem dX12_isSo_73 : decode cX12_isSo 73 = .ok (.goto 18, 3) := by decide +kernel
theorem dX12_isSo_76 : decode cX12_isSo 76 = .ok (.iload_n 3, 1) := by decide +kernel
theorem dX12_isSo_77 : decode cX12_isSo 77 = .ok (.iload 4, 2) := by decide +kernel
theorem dX12_isSo_79 : decode cX12_isSo 79 = .ok (.invokestatic 126, 3) := by decide +kernel
theorem dX12_isSo_82 : decode cX12_isSo 82 = .ok (.iload_n 2, 1) := by decide +kernel
theorem dX12_isSo_83 : decode cX12_isSo 83 = .ok (.if_icmp .ge 7, 3) := by decide +kernel
theorem dX12_isSo_86 : decode cX12_isSo 86 = .ok (.iconst 1, 1) := by decide +kernel
theorem dX12_isSo_87 : decode cX12_isSo 87 = .ok (.goto 4, 3) := by decide +kernel
theorem dX12_isSo_90 : decode cX12_isSo 90 = .ok (.iconst 0, 1) := by decide +kernel
theorem dX12_isSo_91 : decode cX12_isSo 91 = .ok (.ireturn, 1) := by decide +kernel
theorem dX12_goesThrough_0 : decode cX12_goesThrough 0 = .ok (.iconst (-1), 1) := by decide +kernel
theorem dX12_goesThrough_1 : decode cX12_goesThrough 1 = .ok (.istore 4, 2) := by decide +kernel
theorem dX12_goesThrough_3 : decode cX12_goesThrough 3 = .ok (.iconst 0, 1) := by decide +kernel
theorem dX12_goesThrough_4 : decode cX12_goesThrough 4 = .ok (.istore 5, 2) := by decide +kernel
theorem dX12_goesThrough_6 : decode cX12_goesThrough 6 = .ok (.iconst 0, 1) := by decide +kernel
theorem dX12_goesThrough_7 : decode cX12_goesThrough 7 = .ok (.istore 6, 2) := by decide +kernel
theorem dX12_goesThrough_9 : decode cX12_goesThrough 9 = .ok (.iconst 0, 1) := by decide +kernel
theorem dX12_goesThrough_10 : decode cX12_goesThrough 10 = .ok (.istore 7, 2) := by decide +kernel
theorem dX12_goesThrough_12 : decode cX12_goesThrough 12 = .ok (.iload 7, 2) := by decide +kernel
theorem dX12_goesThrough_14 : decode cX12_goesThrough 14 = .ok (.aload_n 0, 1) := by decide +kernel
theorem dX12_goesThrough_15 : decode cX12_goesThrough 15 = .ok (.getfield 36, 3) := by decide +kernel
theorem dX12_goesThrough_18 : decode cX12_goesThrough 18 = .ok (.iload_n 1, 1) := by decide +kernel
theorem dX12_goesThrough_19 : decode cX12_goesThrough 19 = .ok (.iaload, 1) := by decide +kernel
theorem dX12_goesThrough_20 : decode cX12_goesThrough 20 = .ok (.if_icmp .ge 193, 3) := by decide +kernel
theorem dX12_goesThrough_23 : decode cX12_goesThrough 23 = .ok (.aload_n 0, 1) := by decide +kernel
theorem dX12_goesThrough_24 : decode cX12_goesThrough 24 = .ok (.getfield 39, 3) := by decide +kernel
theorem dX12_goesThrough_27 : decode cX12_goesThrough 27 = .ok (.bipush 80, 2) := by decide +kernel
theorem dX12_goesThrough_29 : decode cX12_goesThrough 29 = .ok (.iload_n 1, 1) := by decide +kernel
theorem dX12_goesThrough_30 : decode cX12_goesThrough 30 = .ok (.imul, 1) := by decide +kernel
theorem dX12_goesThrough_31 : decode cX12_goesThrough 31 = .ok (.iload 7, 2) := by decide +kernel
theorem dX12_goesThrough_33 : decode cX12_goesThrough 33 = .ok (.iadd, 1) := by decide +kernel
theorem dX12_goesThrough_34 : decode cX12_goesThrough 34 = .ok (.iaload, 1) := by decide +kernel
theorem dX12_goesThrough_35 : decode cX12_goesThrough 35 = .ok (.istore 8, 2) := by decide +kernel
theorem dX12_goesThrough_37 : decode cX12_goesThrough 37 = .ok (.aload_n 0, 1) := by decide +kernel
theorem dX12_goesThrough_38 : decode cX12_goesThrough 38 = .ok (.getfield 42, 3) := by decide +kernel
theorem dX12_goesThrough_41 : decode cX12_goesThrough 41 = .ok (.bipush 80, 2) := by decide +kernel
theorem dX12_goesThrough_43 : decode cX12_goesThrough 43 = .ok (.iload_n 1, 1) := by decide +kernel
theorem dX12_goesThrough_44 : decode cX12_goesThrough 44 = .ok (.imul, 1) := by decide +kernel
theorem dX12_goesThrough_45 : decode cX12_goesThrough 45 = .ok (.iload 7, 2) := by decide +kernel
theorem dX12_goesThrough_47 : decode cX12_goesThrough 47 = .ok (.iadd, 1) := by decide +kernel
theorem dX12_goesThrough_48 : decode cX12_goesThrough 48 = .ok (.iaload, 1) := by decide +kernel
theorem dX12_goesThrough_49 : decode cX12_goesThrough 49 = .ok (.istore 9, 2) := by decide +kernel
theorem dX12_goesThrough_51 : decode cX12_goesThrough 51 = .ok (.iload 6, 2) := by decide +kernel
theorem dX12_goesThrough_53 : decode cX12_goesThrough 53 = .ok (.iload 8, 2) := by decide +kernel
theorem dX12_goesThrough_55 : decode cX12_goesThrough 55 = .ok (.invokestatic 275, 3) := by decide +kernel
theorem dX12_goesThrough_58 : decode cX12_goesThrough 58 = .ok (.iadd, 1) := by decide +kernel
theorem dX12_goesThrough_59 : decode cX12_goesThrough 59 = .ok (.istore 6, 2) := by decide +kernel
theorem dX12_goesThrough_61 : decode cX12_goesThrough 61 = .ok (.iinc 7 1, 3) := by decide +kernel
theorem dX12_goesThrough_64 : decode cX12_goesThrough 64 = .ok (.iload 8, 2) := by decide +kernel
theorem dX12_goesThrough_66 : decode cX12_goesThrough 66 = .ok (.iconst 3, 1) := by decide +kernel
theorem dX12_goesThrough_67 : decode cX12_goesThrough 67 = .ok (.if_icmp .gt 16, 3) := by decide +kernel
theorem dX12_goesThrough_70 : decode cX12_goesThrough 70 = .ok (.iload 8, 2) := by decide +kernel
theorem dX12_goesThrough_72 : decode cX12_goesThrough 72 = .ok (.iload 9, 2) := by decide +kernel
theorem dX12_goesThrough_74 : decode cX12_goesThrough 74 = .ok (.iload_n 2, 1) := by decide +kernel
theorem dX12_goesThrough_75 : decode cX12_goesThrough 75 = .ok (.invokestatic 278, 3) := by decide +kernel
theorem dX12_goesThrough_78 : decode cX12_goesThrough 78 = .ok (.istore 4, 2) := by decide +kernel
theorem dX12_goesThrough_80 : decode cX12_goesThrough 80 = .ok (.goto 130, 3) := by decide +kernel
theorem dX12_goesThrough_83 : decode cX12_goesThrough 83 = .ok (.iload 8, 2) := by decide +kernel
theorem dX12_goesThrough_85 : decode cX12_goesThrough 85 = .ok (.iconst 4, 1) := by decide +kernel
theorem dX12_goesThrough_86 : decode cX12_goesThrough 86 = .ok (.if_icmp .ne 20, 3) := by decide +kernel
theorem dX12_goesThrough_89 : decode cX12_goesThrough 89 = .ok (.aload_n 0, 1) := by decide +kernel
theorem dX12_goesThrough_90 : decode cX12_goesThrough 90 = .ok (.getfield 54, 3) := by decide +kernel
theorem dX12_goesThrough_93 : decode cX12_goesThrough 93 = .ok (.bipush 20, 2) := by decide +kernel
theorem dX12_goesThrough_95 : decode cX12_goesThrough 95 = .ok (.iload_n 3, 1) := by decide +kernel
theorem dX12_goesThrough_96 : decode cX12_goesThrough 96 = .ok (.imul, 1) := by decide +kernel
theorem dX12_goesThrough_97 : decode cX12_goesThrough 97 = .ok (.iload 9, 2) := by decide +kernel
theorem dX12_goesThrough_99 : decode cX12_goesThrough 99 = .ok (.iadd, 1) := by decide +kernel
theorem dX12_goesThrough_100 : decode cX12_goesThrough 100 = .ok (.iaload, 1) := by decide +kernel
theorem dX12_goesThrough_101 : decode cX12_goesThrough 101 = .ok (.istore 4, 2) := by decide +kernel
theorem dX12_goesThrough_103 : decode cX12_goesThrough 103 = .ok (.goto 107, 3) := by decide +kernel
theorem dX12_goesThrough_106 : decode cX12_goesThrough 106 = .ok (.iload 8, 2) := by decide +kernel
theorem dX12_goesThrough_108 : decode cX12_goesThrough 108 = .ok (.bipush 12, 2) := by decide +kernel
theorem dX12_goesThrough_110 : decode cX12_goesThrough 110 = .ok (.if_icmp .gt 19, 3) := by decide +kernel
theorem dX12_goesThrough_113 : decode cX12_goesThrough 113 = .ok (.iload 8, 2) := by decide +kernel
theorem dX12_goesThrough_115 : decode cX12_goesThrough 115 = .ok (.iload 9, 2) := by decide +kernel
theorem dX12_goesThrough_117 : decode cX12_goesThrough 117 = .ok (.iload_n 2, 1) := by decide +kernel
theorem dX12_goesThrough_118 : decode cX12_goesThrough 118 = .ok (.iload 4, 2) := by decide +kernel
theorem dX12_goesThrough_120 : decode cX12_goesThrough 120 = .ok (.iload_n 3, 1) := by decide +kernel
theorem dX12_goesThrough_121 : decode cX12_goesThrough 121 = .ok (.invokestatic 282, 3) := by decide +kernel
theorem dX12_goesThrough_124 : decode cX12_goesThrough 124 = .ok (.istore 4, 2) := by decide +kernel
theorem dX12_goesThrough_126 : decode cX12_goesThrough 126 = .ok (.goto 84, 3) := by decide +kernel
theorem dX12_goesThrough_129 : decode cX12_goesThrough 129 = .ok (.iload 8, 2) := by decide +kernel
theorem dX12_goesThrough_131 : decode cX12_goesThrough 131 = .ok (.bipush 16, 2) := by decide +kernel
theorem dX12_goesThrough_133 : decode cX12_goesThrough 133 = .ok (.if_icmp .gt 20, 3) := by decide +kernel
theorem dX12_goesThrough_136 : decode cX12_goesThrough 136 = .ok (.aload_n 0, 1) := by decide +kernel
theorem dX12_goesThrough_137 : decode cX12_goesThrough 137 = .ok (.iload 8, 2) := by decide +kernel
theorem dX12_goesThrough_139 : decode cX12_goesThrough 139 = .ok (.iload 9, 2) := by decide +kernel
theorem dX12_goesThrough_141 : decode cX12_goesThrough 141 = .ok (.iload_n 2, 1) := by decide +kernel
theorem dX12_goesThrough_142 : decode cX12_goesThrough 142 = .ok (.iload 4, 2) := by decide +kernel
theorem dX12_goesThrough_144 : decode cX12_goesThrough 144 = .ok (.iload_n 3, 1) := by decide +kernel
theorem dX12_goesThrough_145 : decode cX12_goesThrough 145 = .ok (.invokevirtual 286, 3) := by decide +kernel
theorem dX12_goesThrough_148 : decode cX12_goesThrough 148 = .ok (.istore 5, 2) := by decide +kernel
theorem dX12_goesThrough_150 : decode cX12_goesThrough 150 = .ok (.goto 60, 3) := by decide +kernel
theorem dX12_goesThrough_153 : decode cX12_goesThrough 153 = .ok (.iload 8, 2) := by decide +kernel
theorem dX12_goesThrough_155 : decode cX12_goesThrough 155 = .ok (.bipush 17, 2) := by decide +kernel
theorem dX12_goesThrough_157 : decode cX12_goesThrough 157 = .ok (.if_icmp .ne 18, 3) := by decide +kernel
theorem dX12_goesThrough_160 : decode cX12_goesThrough 160 = .ok (.iload 5, 2) := by decide +kernel
theorem dX12_goesThrough_162 : decode cX12_goesThrough 162 = .ok (.ifCond .ne 7, 3) := by decide +kernel
theorem dX12_goesThrough_165 : decode cX12_goesThrough 165 = .ok (.iconst 1, 1) := by decide +kernel
theorem dX12_goesThrough_166 : decode cX12_goesThrough 166 = .ok (.goto 4, 3) := by decide +kernel
theorem dX12_goesThrough_169 : decode cX12_goesThrough 169 = .ok (.iconst 0, 1) := by decide +kernel
theorem dX12_goesThrough_170 : decode cX12_goesThrough 170 = .ok (.istore 5, 2) := by decide +kernel
theorem dX12_goesThrough_172 : decode cX12_goesThrough 172 = .ok (.goto 38, 3) := by decide +kernel
theorem dX12_goesThrough_175 : decode cX12_goesThrough 175 = .ok (.iload 8, 2) := by decide +kernel
theorem dX12_goesThrough_177 : decode cX12_goesThrough 177 = .ok (.bipush 18, 2) := by decide +kernel
theorem dX12_goesThrough_179 : decode cX12_goesThrough 179 = .ok (.if_icmp .eq 27, 3) := by decide +kernel
theorem dX12_goesThrough_182 : decode cX12_goesThrough 182 = .ok (.iload 8, 2) := by decide +kernel
theorem dX12_goesThrough_184 : decode cX12_goesThrough 184 = .ok (.bipush 19, 2) := by decide +kernel
theorem dX12_goesThrough_186 : decode cX12_goesThrough 186 = .ok (.if_icmp .ne 8, 3) := by decide +kernel
theorem dX12_goesThrough_189 : decode cX12_goesThrough 189 = .ok (.iload 5, 2) := by decide +kernel
theorem dX12_goesThrough_191 : decode cX12_goesThrough 191 = .ok (.ifCond .eq 15, 3) := by decide +kernel
theorem dX12_goesThrough_194 : decode cX12_goesThrough 194 = .ok (.iload 8, 2) := by decide +kernel
theorem dX12_goesThrough_196 : decode cX12_goesThrough 196 = .ok (.bipush 20, 2) := by decide +kernel
theorem dX12_goesThrough_198 : decode cX12_goesThrough 198 = .ok (.if_icmp .ne 12, 3) := by decide +kernel
theorem dX12_goesThrough_201 : decode cX12_goesThrough 201 = .ok (.iload 5, 2) := by decide +kernel
theorem dX12_goesThrough_203 : decode cX12_goesThrough 203 = .ok (.ifCond .eq 7, 3) := by decide +kernel
theorem dX12_goesThrough_206 : decode cX12_goesThrough 206 = .ok (.iload 9, 2) := by decide +kernel
theorem dX12_goesThrough_208 : decode cX12_goesThrough 208 = .ok (.istore 7, 2) := by decide +kernel
theorem dX12_goesThrough_210 : decode cX12_goesThrough 210 = .ok (.goto (-198), 3) := by decide +kernel
theorem dX12_goesThrough_213 : decode cX12_goesThrough 213 = .ok (.aload_n 0, 1) := by decide +kernel
theorem dX12_goesThrough_214 : decode cX12_goesThrough 214 = .ok (.iload_n 1, 1) := by decide +kernel
theorem dX12_goesThrough_215 : decode cX12_goesThrough 215 = .ok (.iload_n 2, 1) := by decide +kernel
theorem dX12_goesThrough_216 : decode cX12_goesThrough 216 = .ok (.invokevirtual 256, 3) := by decide +kernel
theorem dX12_goesThrough_219 : decode cX12_goesThrough 219 = .ok (.istore 8, 2) := by decide +kernel
theorem dX12_goesThrough_221 : decode cX12_goesThrough 221 = .ok (.iload 8, 2) := by decide +kernel
theorem dX12_goesThrough_223 : decode cX12_goesThrough 223 = .ok (.iconst (-1), 1) := by decide +kernel
theorem dX12_goesThrough_224 : decode cX12_goesThrough 224 = .ok (.if_icmp .eq 41, 3) := by decide +kernel
theorem dX12_goesThrough_227 : decode cX12_goesThrough 227 = .ok (.iload 4, 2) := by decide +kernel
theorem dX12_goesThrough_229 : decode cX12_goesThrough 229 = .ok (.iconst (-1), 1) := by decide +kernel
theorem dX12_goesThrough_230 : decode cX12_goesThrough 230 = .ok (.if_icmp .eq 35, 3) := by decide +kernel
theorem dX12_goesThrough_233 : decode cX12_goesThrough 233 = .ok (.aload_n 0, 1) := by decide +kernel
theorem dX12_goesThrough_234 : decode cX12_goesThrough 234 = .ok (.getfield 51, 3) := by decide +kernel
theorem dX12_goesThrough_237 : decode cX12_goesThrough 237 = .ok (.iload 8, 2) := by decide +kernel
theorem dX12_goesThrough_239 : decode cX12_goesThrough 239 = .ok (.iaload, 1) := by decide +kernel
theorem dX12_goesThrough_240 : decode cX12_goesThrough 240 = .ok (.bipush 99, 2) := by decide +kernel
theorem dX12_goesThrough_242 : decode cX12_goesThrough 242 = .ok (.if_icmp .ne 7, 3) := by decide +kernel
theorem dX12_goesThrough_245 : decode cX12_goesThrough 245 = .ok (.iconst (-1), 1) := by decide +kernel
theorem dX12_goesThrough_246 : decode cX12_goesThrough 246 = .ok (.goto 17, 3) := by decide +kernel
theorem dX12_goesThrough_249 : decode cX12_goesThrough 249 = .ok (.iload_n 2, 1) := by decide +kernel
theorem dX12_goesThrough_250 : decode cX12_goesThrough 250 = .ok (.iload 4, 2) := by decide +kernel
theorem dX12_goesThrough_252 : decode cX12_goesThrough 252 = .ok (.aload_n 0, 1) := by decide +kernel
theorem dX12_goesThrough_253 : decode cX12_goesThrough 253 = .ok (.getfield 51, 3) := by decide +kernel
theorem dX12_goesThrough_256 : decode cX12_goesThrough 256 = .ok (.iload 8, 2) := by decide +kernel
theorem dX12_goesThrough_258 : decode cX12_goesThrough 258 = .ok (.iaload, 1) := by decide +kernel
theorem dX12_goesThrough_259 : decode cX12_goesThrough 259 = .ok (.iadd, 1) := by decide +kernel
theorem dX12_goesThrough_260 : decode cX12_goesThrough 260 = .ok (.invokestatic 265, 3) := by decide +kernel
theorem dX12_goesThrough_263 : decode cX12_goesThrough 263 = .ok (.istore 4, 2) := by decide +kernel
theorem dX12_goesThrough_265 : decode cX12_goesThrough 265 = .ok (.aload_n 0, 1) := by decide +kernel
theorem dX12_goesThrough_266 : decode cX12_goesThrough 266 = .ok (.getfield 54, 3) := by decide +kernel
theorem dX12_goesThrough_269 : decode cX12_goesThrough 269 = .ok (.bipush 20, 2) := by decide +kernel
theorem dX12_goesThrough_271 : decode cX12_goesThrough 271 = .ok (.iload_n 3, 1) := by decide +kernel
theorem dX12_goesThrough_272 : decode cX12_goesThrough 272 = .ok (.imul, 1) := by decide +kernel
theorem dX12_goesThrough_273 : decode cX12_goesThrough 273 = .ok (.iload_n 1, 1) := by decide +kernel
theorem dX12_goesThrough_274 : decode cX12_goesThrough 274 = .ok (.iadd, 1) := by decide +kernel
theorem dX12_goesThrough_275 : decode cX12_goesThrough 275 = .ok (.iload 4, 2) := by decide +kernel
theorem dX12_goesThrough_277 : decode cX12_goesThrough 277 = .ok (.iastore, 1) := by decide +kernel
theorem dX12_goesThrough_278 : decode cX12_goesThrough 278 = .ok (.aload_n 0, 1) := by decide +kernel
theorem dX12_goesThrough_279 : decode cX12_goesThrough 279 = .ok (.getfield 60, 3) := by decide +kernel
theorem dX12_goesThrough_282 : decode cX12_goesThrough 282 = .ok (.iload_n 1, 1) := by decide +kernel
theorem dX12_goesThrough_283 : decode cX12_goesThrough 283 = .ok (.iload 6, 2) := by decide +kernel
theorem dX12_goesThrough_285 : decode cX12_goesThrough 285 = .ok (.iastore, 1) := by decide +kernel
theorem dX12_goesThrough_286 : decode cX12_goesThrough 286 = .ok (.return_, 1) := by decide +kernel
theorem dX12_isReady_0 : decode cX12_isReady 0 = .ok (.aload_n 0, 1) := by decide +kernel
theorem dX12_isReady_1 : decode cX12_isReady 1 = .ok (.iload_n 1, 1) := by decide +kernel
theorem dX12_isReady_2 : decode cX12_isReady 2 = .ok (.invokevirtual 241, 3) := by decide +kernel
theorem dX12_isReady_5 : decode cX12_isReady 5 = .ok (.istore_n 2, 1) := by decide +kernel
theorem dX12_isReady_6 : decode cX12_isReady 6 = .ok (.aload_n 0, 1) := by decide +kernel
theorem dX12_isReady_7 : decode cX12_isReady 7 = .ok (.getfield 57, 3) := by decide +kernel
theorem dX12_isReady_10 : decode cX12_isReady 10 = .ok (.iload_n 1, 1) := by decide +kernel
theorem dX12_isReady_11 : decode cX12_isReady 11 = .ok (.baload, 1) := by decide +kernel
theorem dX12_isReady_12 : decode cX12_isReady 12 = .ok (.ifCond .ne 7, 3) := by decide +kernel
theorem dX12_isReady_15 : decode cX12_isReady 15 = .ok (.iconst 1, 1) := by decide +kernel
theorem dX12_isReady_16 : decode cX12_isReady 16 = .ok (.goto 4, 3) := by decide +kernel
theorem dX12_isReady_19 : decode cX12_isReady 19 = .ok (.iconst 0, 1) := by decide +kernel
theorem dX12_isReady_20 : decode cX12_isReady 20 = .ok (.istore_n 3, 1) := by decide +kernel
theorem dX12_isReady_21 : decode cX12_isReady 21 = .ok (.iconst 0, 1) := by decide +kernel
theorem dX12_isReady_22 : decode cX12_isReady 22 = .ok (.istore 4, 2) := by decide +kernel
theorem dX12_isReady_24 : decode cX12_isReady 24 = .ok (.iload 4, 2) := by decide +kernel
theorem dX12_isReady_26 : decode cX12_isReady 26 = .ok (.aload_n 0, 1) := by decide +kernel
theorem dX12_isReady_27 : decode cX12_isReady 27 = .ok (.getfield 231, 3) := by decide +kernel
theorem dX12_isReady_30 : decode cX12_isReady 30 = .ok (.if_icmp .ge 38, 3) := by decide +kernel
theorem dX12_isReady_33 : decode cX12_isReady 33 = .ok (.iload_n 3, 1) := by decide +kernel
theorem dX12_isReady_34 : decode cX12_isReady 34 = .ok (.ifCond .eq 26, 3) := by decide +kernel
theorem dX12_isReady_37 : decode cX12_isReady 37 = .ok (.iload_n 2, 1) := by decide +kernel
theorem dX12_isReady_38 : decode cX12_isReady 38 = .ok (.iload 4, 2) := by decide +kernel
theorem dX12_isReady_40 : decode cX12_isReady 40 = .ok (.ishr, 1) := by decide +kernel
theorem dX12_isReady_41 : decode cX12_isReady 41 = .ok (.iconst 1, 1) := by decide +kernel
theorem dX12_isReady_42 : decode cX12_isReady 42 = .ok (.iand, 1) := by decide +kernel
theorem dX12_isReady_43 : decode cX12_isReady 43 = .ok (.ifCond .eq 13, 3) := by decide +kernel
theorem dX12_isReady_46 : decode cX12_isReady 46 = .ok (.aload_n 0, 1) := by decide +kernel
theorem dX12_isReady_47 : decode cX12_isReady 47 = .ok (.getfield 57, 3) := by decide +kernel
theorem dX12_isReady_50 : decode cX12_isReady 50 = .ok (.iload 4, 2) := by decide +kernel
theorem dX12_isReady_52 : decode cX12_isReady 52 = .ok (.baload, 1) := by decide +kernel
theorem dX12_isReady_53 : decode cX12_isReady 53 = .ok (.ifCond .eq 7, 3) := by decide +kernel
theorem dX12_isReady_56 : decode cX12_isReady 56 = .ok (.iconst 1, 1) := by decide +kernel
theorem dX12_isReady_57 : decode cX12_isReady 57 = .ok (.goto 4, 3) := by decide +kernel
theorem dX12_isReady_60 : decode cX12_isReady 60 = .ok (.iconst 0, 1) := by decide +kernel
theorem dX12_isReady_61 : decode cX12_isReady 61 = .ok (.istore_n 3, 1) := by decide +kernel
theorem dX12_isReady_62 : decode cX12_isReady 62 = .ok (.iinc 4 1, 3) := by decide +kernel
theorem dX12_isReady_65 : decode cX12_isReady 65 = .ok (.goto (-41), 3) := by decide +kernel
theorem dX12_isReady_68 : decode cX12_isReady 68 = .ok (.iload_n 3, 1) := by decide +kernel
theorem dX12_isReady_69 : decode cX12_isReady 69 = .ok (.ireturn, 1) := by decide +kernel
theorem dX12_finds_0 : decode cX12_finds 0 = .ok (.iconst 0, 1) := by decide +kernel
theorem dX12_finds_1 : decode cX12_finds 1 = .ok (.istore_n 3, 1) := by decide +kernel
theorem dX12_finds_2 : decode cX12_finds 2 = .ok (.iload_n 3, 1) := by decide +kernel
theorem dX12_finds_3 : decode cX12_finds 3 = .ok (.aload_n 0, 1) := by decide +kernel
theorem dX12_finds_4 : decode cX12_finds 4 = .ok (.getfield 231, 3) := by decide +kernel
theorem dX12_finds_7 : decode cX12_finds 7 = .ok (.if_icmp .ge 16, 3) := by decide +kernel
theorem dX12_finds_10 : decode cX12_finds 10 = .ok (.aload_n 0, 1) := by decide +kernel
theorem dX12_finds_11 : decode cX12_finds 11 = .ok (.getfield 57, 3) := by decide +kernel
theorem dX12_finds_14 : decode cX12_finds 14 = .ok (.iload_n 3, 1) := by decide +kernel
theorem dX12_finds_15 : decode cX12_finds 15 = .ok (.iconst 0, 1) := by decide +kernel
theorem dX12_finds_16 : decode cX12_finds 16 = .ok (.bastore, 1) := by decide +kernel
theorem dX12_finds_17 : decode cX12_finds 17 = .ok (.iinc 3 1, 3) := by decide +kernel
theorem dX12_finds_20 : decode cX12_finds 20 = .ok (.goto (-18), 3) := by decide +kernel
theorem dX12_finds_23 : decode cX12_finds 23 = .ok (.iconst 0, 1) := by decide +kernel
theorem dX12_finds_24 : decode cX12_finds 24 = .ok (.istore_n 3, 1) := by decide +kernel
theorem dX12_finds_25 : decode cX12_finds 25 = .ok (.iload_n 3, 1) := by decide +kernel
theorem dX12_finds_26 : decode cX12_finds 26 = .ok (.aload_n 0, 1) := by decide +kernel
theorem dX12_finds_27 : decode cX12_finds 27 = .ok (.getfield 231, 3) := by decide +kernel
theorem dX12_finds_30 : decode cX12_finds 30 = .ok (.if_icmp .ge 52, 3) := by decide +kernel
theorem dX12_finds_33 : decode cX12_finds 33 = .ok (.iconst 0, 1) := by decide +kernel
theorem dX12_finds_34 : decode cX12_finds 34 = .ok (.istore 4, 2) := by decide +kernel
theorem dX12_finds_36 : decode cX12_finds 36 = .ok (.iload 4, 2) := by decide +kernel
theorem dX12_finds_38 : decode cX12_finds 38 = .ok (.aload_n 0, 1) := by decide +kernel
theorem dX12_finds_39 : decode cX12_finds 39 = .ok (.getfield 231, 3) := by decide +kernel
theorem dX12_finds_42 : decode cX12_finds 42 = .ok (.if_icmp .ge 34, 3) := by decide +kernel
theorem dX12_finds_45 : decode cX12_finds 45 = .ok (.aload_n 0, 1) := by decide +kernel
theorem dX12_finds_46 : decode cX12_finds 46 = .ok (.iload 4, 2) := by decide +kernel
theorem dX12_finds_48 : decode cX12_finds 48 = .ok (.invokevirtual 290, 3) := by decide +kernel
theorem dX12_finds_51 : decode cX12_finds 51 = .ok (.ifCond .eq 19, 3) := by decide +kernel
theorem dX12_finds_54 : decode cX12_finds 54 = .ok (.aload_n 0, 1) := by decide +kernel
theorem dX12_finds_55 : decode cX12_finds 55 = .ok (.iload 4, 2) := by decide +kernel
theorem dX12_finds_57 : decode cX12_finds 57 = .ok (.iload_n 1, 1) := by decide +kernel
theorem dX12_finds_58 : decode cX12_finds 58 = .ok (.iload_n 2, 1) := by decide +kernel
theorem dX12_finds_59 : decode cX12_finds 59 = .ok (.invokevirtual 293, 3) := by decide +kernel
theorem dX12_finds_62 : decode cX12_finds 62 = .ok (.aload_n 0, 1) := by decide +kernel
theorem dX12_finds_63 : decode cX12_finds 63 = .ok (.getfield 57, 3) := by decide +kernel
theorem dX12_finds_66 : decode cX12_finds 66 = .ok (.iload 4, 2) := by decide +kernel
theorem dX12_finds_68 : decode cX12_finds 68 = .ok (.iconst 1, 1) := by decide +kernel
theorem dX12_finds_69 : decode cX12_finds 69 = .ok (.bastore, 1) := by decide +kernel
theorem dX12_finds_70 : decode cX12_finds 70 = .ok (.iinc 4 1, 3) := by decide +kernel
theorem dX12_finds_73 : decode cX12_finds 73 = .ok (.goto (-37), 3) := by decide +kernel
theorem dX12_finds_76 : decode cX12_finds 76 = .ok (.iinc 3 1, 3) := by decide +kernel
theorem dX12_finds_79 : decode cX12_finds 79 = .ok (.goto (-54), 3) := by decide +kernel
theorem dX12_finds_82 : decode cX12_finds 82 = .ok (.return_, 1) := by decide +kernel
theorem dX12_isTaken_0 : decode cX12_isTaken 0 = .ok (.iconst 0, 1) := by decide +kernel
theorem dX12_isTaken_1 : decode cX12_isTaken 1 = .ok (.istore_n 2, 1) := by decide +kernel
theorem dX12_isTaken_2 : decode cX12_isTaken 2 = .ok (.iconst 0, 1) := by decide +kernel
theorem dX12_isTaken_3 : decode cX12_isTaken 3 = .ok (.istore_n 3, 1) := by decide +kernel
theorem dX12_isTaken_4 : decode cX12_isTaken 4 = .ok (.iload_n 3, 1) := by decide +kernel
theorem dX12_isTaken_5 : decode cX12_isTaken 5 = .ok (.aload_n 0, 1) := by decide +kernel
theorem dX12_isTaken_6 : decode cX12_isTaken 6 = .ok (.getfield 231, 3) := by decide +kernel
theorem dX12_isTaken_9 : decode cX12_isTaken 9 = .ok (.if_icmp .ge 29, 3) := by decide +kernel
theorem dX12_isTaken_12 : decode cX12_isTaken 12 = .ok (.iload_n 2, 1) := by decide +kernel
theorem dX12_isTaken_13 : decode cX12_isTaken 13 = .ok (.ifCond .ne 13, 3) := by decide +kernel
theorem dX12_isTaken_16 : decode cX12_isTaken 16 = .ok (.aload_n 0, 1) := by decide +kernel
theorem dX12_isTaken_17 : decode cX12_isTaken 17 = .ok (.getfield 63, 3) := by decide +kernel
theorem dX12_isTaken_20 : decode cX12_isTaken 20 = .ok (.iload_n 3, 1) := by decide +kernel
theorem dX12_isTaken_21 : decode cX12_isTaken 21 = .ok (.iaload, 1) := by decide +kernel
theorem dX12_isTaken_22 : decode cX12_isTaken 22 = .ok (.iload_n 1, 1) := by decide +kernel
theorem dX12_isTaken_23 : decode cX12_isTaken 23 = .ok (.if_icmp .ne 7, 3) := by decide +kernel
theorem dX12_isTaken_26 : decode cX12_isTaken 26 = .ok (.iconst 1, 1) := by decide +kernel
theorem dX12_isTaken_27 : decode cX12_isTaken 27 = .ok (.goto 4, 3) := by decide +kernel
theorem dX12_isTaken_30 : decode cX12_isTaken 30 = .ok (.iconst 0, 1) := by decide +kernel
theorem dX12_isTaken_31 : decode cX12_isTaken 31 = .ok (.istore_n 2, 1) := by decide +kernel
theorem dX12_isTaken_32 : decode cX12_isTaken 32 = .ok (.iinc 3 1, 3) := by decide +kernel
theorem dX12_isTaken_35 : decode cX12_isTaken 35 = .ok (.goto (-31), 3) := by decide +kernel
theorem dX12_isTaken_38 : decode cX12_isTaken 38 = .ok (.iload_n 2, 1) := by decide +kernel
theorem dX12_isTaken_39 : decode cX12_isTaken 39 = .ok (.ireturn, 1) := by decide +kernel
theorem dX12_placeFor_0 : decode cX12_placeFor 0 = .ok (.aload_n 0, 1) := by decide +kernel
theorem dX12_placeFor_1 : decode cX12_placeFor 1 = .ok (.getfield 54, 3) := by decide +kernel
theorem dX12_placeFor_4 : decode cX12_placeFor 4 = .ok (.bipush 20, 2) := by decide +kernel
theorem dX12_placeFor_6 : decode cX12_placeFor 6 = .ok (.aload_n 0, 1) := by decide +kernel
theorem dX12_placeFor_7 : decode cX12_placeFor 7 = .ok (.getfield 133, 3) := by decide +kernel
theorem dX12_placeFor_10 : decode cX12_placeFor 10 = .ok (.imul, 1) := by decide +kernel
theorem dX12_placeFor_11 : decode cX12_placeFor 11 = .ok (.iload_n 1, 1) := by decide +kernel
theorem dX12_placeFor_12 : decode cX12_placeFor 12 = .ok (.iadd, 1) := by decide +kernel
theorem dX12_placeFor_13 : decode cX12_placeFor 13 = .ok (.iaload, 1) := by decide +kernel
theorem dX12_placeFor_14 : decode cX12_placeFor 14 = .ok (.istore_n 3, 1) := by decide +kernel
theorem dX12_placeFor_15 : decode cX12_placeFor 15 = .ok (.iload_n 3, 1) := by decide +kernel
theorem dX12_placeFor_16 : decode cX12_placeFor 16 = .ok (.iconst (-1), 1) := by decide +kernel
theorem dX12_placeFor_17 : decode cX12_placeFor 17 = .ok (.if_icmp .ne 5, 3) := by decide +kernel
theorem dX12_placeFor_20 : decode cX12_placeFor 20 = .ok (.iconst (-1), 1) := by decide +kernel
theorem dX12_placeFor_21 : decode cX12_placeFor 21 = .ok (.ireturn, 1) := by decide +kernel
theorem dX12_placeFor_22 : decode cX12_placeFor 22 = .ok (.aload_n 0, 1) := by decide +kernel
theorem dX12_placeFor_23 : decode cX12_placeFor 23 = .ok (.getfield 32, 3) := by decide +kernel
theorem dX12_placeFor_26 : decode cX12_placeFor 26 = .ok (.iload_n 1, 1) := by decide +kernel
theorem dX12_placeFor_27 : decode cX12_placeFor 27 = .ok (.baload, 1) := by decide +kernel
theorem dX12_placeFor_28 : decode cX12_placeFor 28 = .ok (.ifCond .eq 8, 3) := by decide +kernel
theorem dX12_placeFor_31 : decode cX12_placeFor 31 = .ok (.bipush 20, 2) := by decide +kernel
theorem dX12_placeFor_33 : decode cX12_placeFor 33 = .ok (.goto 4, 3) := by decide +kernel
theorem dX12_placeFor_36 : decode cX12_placeFor 36 = .ok (.iconst 0, 1) := by decide +kernel
theorem dX12_placeFor_37 : decode cX12_placeFor 37 = .ok (.istore 4, 2) := by decide +kernel
theorem dX12_placeFor_39 : decode cX12_placeFor 39 = .ok (.iconst 0, 1) := by decide +kernel
theorem dX12_placeFor_40 : decode cX12_placeFor 40 = .ok (.istore 5, 2) := by decide +kernel
theorem dX12_placeFor_42 : decode cX12_placeFor 42 = .ok (.iload 5, 2) := by decide +kernel
theorem dX12_placeFor_44 : decode cX12_placeFor 44 = .ok (.iload 4, 2) := by decide +kernel
theorem dX12_placeFor_46 : decode cX12_placeFor 46 = .ok (.if_icmp .gt 37, 3) := by decide +kernel
theorem dX12_placeFor_49 : decode cX12_placeFor 49 = .ok (.iload_n 2, 1) := by decide +kernel
theorem dX12_placeFor_50 : decode cX12_placeFor 50 = .ok (.iload_n 3, 1) := by decide +kernel
theorem dX12_placeFor_51 : decode cX12_placeFor 51 = .ok (.iload 5, 2) := by decide +kernel
theorem dX12_placeFor_53 : decode cX12_placeFor 53 = .ok (.iadd, 1) := by decide +kernel
theorem dX12_placeFor_54 : decode cX12_placeFor 54 = .ok (.invokestatic 265, 3) := by decide +kernel
theorem dX12_placeFor_57 : decode cX12_placeFor 57 = .ok (.iconst (-1), 1) := by decide +kernel
theorem dX12_placeFor_58 : decode cX12_placeFor 58 = .ok (.if_icmp .eq 19, 3) := by decide +kernel
theorem dX12_placeFor_61 : decode cX12_placeFor 61 = .ok (.aload_n 0, 1) := by decide +kernel
theorem dX12_placeFor_62 : decode cX12_placeFor 62 = .ok (.iload_n 3, 1) := by decide +kernel
theorem dX12_placeFor_63 : decode cX12_placeFor 63 = .ok (.iload 5, 2) := by decide +kernel
theorem dX12_placeFor_65 : decode cX12_placeFor 65 = .ok (.iadd, 1) := by decide +kernel
theorem dX12_placeFor_66 : decode cX12_placeFor 66 = .ok (.invokevirtual 297, 3) := by decide +kernel
theorem dX12_placeFor_69 : decode cX12_placeFor 69 = .ok (.ifCond .ne 8, 3) := by decide +kernel
theorem dX12_placeFor_72 : decode cX12_placeFor 72 = .ok (.iload_n 3, 1) := by decide +kernel
theorem dX12_placeFor_73 : decode cX12_placeFor 73 = .ok (.iload 5, 2) := by decide +kernel
theorem dX12_placeFor_75 : decode cX12_placeFor 75 = .ok (.iadd, 1) := by decide +kernel
theorem dX12_placeFor_76 : decode cX12_placeFor 76 = .ok (.ireturn, 1) := by decide +kernel
theorem dX12_placeFor_77 : decode cX12_placeFor 77 = .ok (.iinc 5 1, 3) := by decide +kernel
theorem dX12_placeFor_80 : decode cX12_placeFor 80 = .ok (.goto (-38), 3) := by decide +kernel
theorem dX12_placeFor_83 : decode cX12_placeFor 83 = .ok (.iconst (-1), 1) := by decide +kernel
theorem dX12_placeFor_84 : decode cX12_placeFor 84 = .ok (.ireturn, 1) := by decide +kernel
theorem dX12_places_0 : decode cX12_places 0 = .ok (.aload_n 0, 1) := by decide +kernel
theorem dX12_places_1 : decode cX12_places 1 = .ok (.iload_n 1, 1) := by decide +kernel
theorem dX12_places_2 : decode cX12_places 2 = .ok (.aload_n 0, 1) := by decide +kernel
theorem dX12_places_3 : decode cX12_places 3 = .ok (.getfield 133, 3) := by decide +kernel
theorem dX12_places_6 : decode cX12_places 6 = .ok (.invokevirtual 300, 3) := by decide +kernel
theorem dX12_places_9 : decode cX12_places 9 = .ok (.iconst 0, 1) := by decide +kernel
theorem dX12_places_10 : decode cX12_places 10 = .ok (.istore_n 2, 1) := by decide +kernel
theorem dX12_places_11 : decode cX12_places 11 = .ok (.iload_n 2, 1) := by decide +kernel
theorem dX12_places_12 : decode cX12_places 12 = .ok (.aload_n 0, 1) := by decide +kernel
theorem dX12_places_13 : decode cX12_places 13 = .ok (.getfield 231, 3) := by decide +kernel
theorem dX12_places_16 : decode cX12_places 16 = .ok (.if_icmp .ge 16, 3) := by decide +kernel
theorem dX12_places_19 : decode cX12_places 19 = .ok (.aload_n 0, 1) := by decide +kernel
theorem dX12_places_20 : decode cX12_places 20 = .ok (.getfield 63, 3) := by decide +kernel
theorem dX12_places_23 : decode cX12_places 23 = .ok (.iload_n 2, 1) := by decide +kernel
theorem dX12_places_24 : decode cX12_places 24 = .ok (.iconst (-1), 1) := by decide +kernel
theorem dX12_places_25 : decode cX12_places 25 = .ok (.iastore, 1) := by decide +kernel
theorem dX12_places_26 : decode cX12_places 26 = .ok (.iinc 2 1, 3) := by decide +kernel
theorem dX12_places_29 : decode cX12_places 29 = .ok (.goto (-18), 3) := by decide +kernel
theorem dX12_places_32 : decode cX12_places 32 = .ok (.bipush 9, 2) := by decide +kernel
theorem dX12_places_34 : decode cX12_places 34 = .ok (.istore_n 2, 1) := by decide +kernel
theorem dX12_places_35 : decode cX12_places 35 = .ok (.iload_n 2, 1) := by decide +kernel
theorem dX12_places_36 : decode cX12_places 36 = .ok (.ifCond .lt 56, 3) := by decide +kernel
theorem dX12_places_39 : decode cX12_places 39 = .ok (.iconst 0, 1) := by decide +kernel
theorem dX12_places_40 : decode cX12_places 40 = .ok (.istore_n 3, 1) := by decide +kernel
theorem dX12_places_41 : decode cX12_places 41 = .ok (.iload_n 3, 1) := by decide +kernel
theorem dX12_places_42 : decode cX12_places 42 = .ok (.aload_n 0, 1) := by decide +kernel
theorem dX12_places_43 : decode cX12_places 43 = .ok (.getfield 231, 3) := by decide +kernel
theorem dX12_places_46 : decode cX12_places 46 = .ok (.if_icmp .ge 40, 3) := by decide +kernel
theorem dX12_places_49 : decode cX12_places 49 = .ok (.aload_n 0, 1) := by decide +kernel
theorem dX12_places_50 : decode cX12_places 50 = .ok (.getfield 63, 3) := by decide +kernel
theorem dX12_places_53 : decode cX12_places 53 = .ok (.iload_n 3, 1) := by decide +kernel
theorem dX12_places_54 : decode cX12_places 54 = .ok (.aload_n 0, 1) := by decide +kernel
theorem dX12_places_55 : decode cX12_places 55 = .ok (.getfield 29, 3) := by decide +kernel
theorem dX12_places_58 : decode cX12_places 58 = .ok (.iload_n 3, 1) := by decide +kernel
theorem dX12_places_59 : decode cX12_places 59 = .ok (.iaload, 1) := by decide +kernel
theorem dX12_places_60 : decode cX12_places 60 = .ok (.iload_n 2, 1) := by decide +kernel
theorem dX12_places_61 : decode cX12_places 61 = .ok (.if_icmp .ne 12, 3) := by decide +kernel
theorem dX12_places_64 : decode cX12_places 64 = .ok (.aload_n 0, 1) := by decide +kernel
theorem dX12_places_65 : decode cX12_places 65 = .ok (.iload_n 3, 1) := by decide +kernel
theorem dX12_places_66 : decode cX12_places 66 = .ok (.iload_n 1, 1) := by decide +kernel
theorem dX12_places_67 : decode cX12_places 67 = .ok (.invokevirtual 303, 3) := by decide +kernel
theorem dX12_places_70 : decode cX12_places 70 = .ok (.goto 9, 3) := by decide +kernel
theorem dX12_places_73 : decode cX12_places 73 = .ok (.aload_n 0, 1) := by decide +kernel
theorem dX12_places_74 : decode cX12_places 74 = .ok (.getfield 63, 3) := by decide +kernel
theorem dX12_places_77 : decode cX12_places 77 = .ok (.iload_n 3, 1) := by decide +kernel
theorem dX12_places_78 : decode cX12_places 78 = .ok (.iaload, 1) := by decide +kernel
theorem dX12_places_79 : decode cX12_places 79 = .ok (.iastore, 1) := by decide +kernel
theorem dX12_places_80 : decode cX12_places 80 = .ok (.iinc 3 1, 3) := by decide +kernel
theorem dX12_places_83 : decode cX12_places 83 = .ok (.goto (-42), 3) := by decide +kernel
theorem dX12_places_86 : decode cX12_places 86 = .ok (.iinc 2 (-1), 3) := by decide +kernel
theorem dX12_places_89 : decode cX12_places 89 = .ok (.goto (-54), 3) := by decide +kernel
theorem dX12_places_92 : decode cX12_places 92 = .ok (.return_, 1) := by decide +kernel
theorem dX12_asks_0 : decode cX12_asks 0 = .ok (.aload_n 0, 1) := by decide +kernel
theorem dX12_asks_1 : decode cX12_asks 1 = .ok (.aload_n 0, 1) := by decide +kernel
theorem dX12_asks_2 : decode cX12_asks 2 = .ok (.iload_n 1, 1) := by decide +kernel
theorem dX12_asks_3 : decode cX12_asks 3 = .ok (.invokevirtual 244, 3) := by decide +kernel
theorem dX12_asks_6 : decode cX12_asks 6 = .ok (.ifCond .ne 7, 3) := by decide +kernel
theorem dX12_asks_9 : decode cX12_asks 9 = .ok (.iconst 1, 1) := by decide +kernel
theorem dX12_asks_10 : decode cX12_asks 10 = .ok (.goto 15, 3) := by decide +kernel
theorem dX12_asks_13 : decode cX12_asks 13 = .ok (.iload_n 2, 1) := by decide +kernel
theorem dX12_asks_14 : decode cX12_asks 14 = .ok (.invokestatic 250, 3) := by decide +kernel
theorem dX12_asks_17 : decode cX12_asks 17 = .ok (.ifCond .eq 7, 3) := by decide +kernel
theorem dX12_asks_20 : decode cX12_asks 20 = .ok (.iconst 0, 1) := by decide +kernel
theorem dX12_asks_21 : decode cX12_asks 21 = .ok (.goto 4, 3) := by decide +kernel
theorem dX12_asks_24 : decode cX12_asks 24 = .ok (.iconst 2, 1) := by decide +kernel
theorem dX12_asks_25 : decode cX12_asks 25 = .ok (.putfield 93, 3) := by decide +kernel
theorem dX12_asks_28 : decode cX12_asks 28 = .ok (.aload_n 0, 1) := by decide +kernel
theorem dX12_asks_29 : decode cX12_asks 29 = .ok (.getfield 93, 3) := by decide +kernel
theorem dX12_asks_32 : decode cX12_asks 32 = .ok (.ifCond .ne 7, 3) := by decide +kernel
theorem dX12_asks_35 : decode cX12_asks 35 = .ok (.iconst 1, 1) := by decide +kernel
theorem dX12_asks_36 : decode cX12_asks 36 = .ok (.goto 4, 3) := by decide +kernel
theorem dX12_asks_39 : decode cX12_asks 39 = .ok (.iconst 0, 1) := by decide +kernel
theorem dX12_asks_40 : decode cX12_asks 40 = .ok (.ireturn, 1) := by decide +kernel
theorem dX12_bent_0 : decode cX12_bent 0 = .ok (.aload_n 0, 1) := by decide +kernel
theorem dX12_bent_1 : decode cX12_bent 1 = .ok (.iload_n 1, 1) := by decide +kernel
theorem dX12_bent_2 : decode cX12_bent 2 = .ok (.iload_n 2, 1) := by decide +kernel
theorem dX12_bent_3 : decode cX12_bent 3 = .ok (.invokevirtual 306, 3) := by decide +kernel
theorem dX12_bent_6 : decode cX12_bent 6 = .ok (.ifCond .ne 5, 3) := by decide +kernel
theorem dX12_bent_9 : decode cX12_bent 9 = .ok (.iconst 0, 1) := by decide +kernel
theorem dX12_bent_10 : decode cX12_bent 10 = .ok (.ireturn, 1) := by decide +kernel
theorem dX12_bent_11 : decode cX12_bent 11 = .ok (.aload_n 0, 1) := by decide +kernel
theorem dX12_bent_12 : decode cX12_bent 12 = .ok (.iload_n 2, 1) := by decide +kernel
theorem dX12_bent_13 : decode cX12_bent 13 = .ok (.aload_n 0, 1) := by decide +kernel
theorem dX12_bent_14 : decode cX12_bent 14 = .ok (.getfield 133, 3) := by decide +kernel
theorem dX12_bent_17 : decode cX12_bent 17 = .ok (.invokevirtual 300, 3) := by decide +kernel
theorem dX12_bent_20 : decode cX12_bent 20 = .ok (.aload_n 0, 1) := by decide +kernel
theorem dX12_bent_21 : decode cX12_bent 21 = .ok (.getfield 54, 3) := by decide +kernel
theorem dX12_bent_24 : decode cX12_bent 24 = .ok (.bipush 20, 2) := by decide +kernel
theorem dX12_bent_26 : decode cX12_bent 26 = .ok (.aload_n 0, 1) := by decide +kernel
theorem dX12_bent_27 : decode cX12_bent 27 = .ok (.getfield 133, 3) := by decide +kernel
theorem dX12_bent_30 : decode cX12_bent 30 = .ok (.imul, 1) := by decide +kernel
theorem dX12_bent_31 : decode cX12_bent 31 = .ok (.iload_n 1, 1) := by decide +kernel
theorem dX12_bent_32 : decode cX12_bent 32 = .ok (.iadd, 1) := by decide +kernel
theorem dX12_bent_33 : decode cX12_bent 33 = .ok (.iaload, 1) := by decide +kernel
theorem dX12_bent_34 : decode cX12_bent 34 = .ok (.ireturn, 1) := by decide +kernel
theorem dX12_day_0 : decode cX12_day 0 = .ok (.aload_n 0, 1) := by decide +kernel
theorem dX12_day_1 : decode cX12_day 1 = .ok (.iload_n 1, 1) := by decide +kernel
theorem dX12_day_2 : decode cX12_day 2 = .ok (.iload_n 2, 1) := by decide +kernel
theorem dX12_day_3 : decode cX12_day 3 = .ok (.invokevirtual 306, 3) := by decide +kernel
theorem dX12_day_6 : decode cX12_day 6 = .ok (.ifCond .ne 5, 3) := by decide +kernel
theorem dX12_day_9 : decode cX12_day 9 = .ok (.iconst 0, 1) := by decide +kernel
theorem dX12_day_10 : decode cX12_day 10 = .ok (.ireturn, 1) := by decide +kernel
theorem dX12_day_11 : decode cX12_day 11 = .ok (.aload_n 0, 1) := by decide +kernel
theorem dX12_day_12 : decode cX12_day 12 = .ok (.iload_n 2, 1) := by decide +kernel
theorem dX12_day_13 : decode cX12_day 13 = .ok (.invokevirtual 310, 3) := by decide +kernel
theorem dX12_day_16 : decode cX12_day 16 = .ok (.aload_n 0, 1) := by decide +kernel
theorem dX12_day_17 : decode cX12_day 17 = .ok (.getfield 63, 3) := by decide +kernel
theorem dX12_day_20 : decode cX12_day 20 = .ok (.iload_n 1, 1) := by decide +kernel
theorem dX12_day_21 : decode cX12_day 21 = .ok (.iaload, 1) := by decide +kernel
theorem dX12_day_22 : decode cX12_day 22 = .ok (.ireturn, 1) := by decide +kernel
theorem dX12_dayByDays_0 : decode cX12_dayByDays 0 = .ok (.aload_n 0, 1) := by decide +kernel
theorem dX12_dayByDays_1 : decode cX12_dayByDays 1 = .ok (.iload_n 1, 1) := by decide +kernel
theorem dX12_dayByDays_2 : decode cX12_dayByDays 2 = .ok (.iload_n 2, 1) := by decide +kernel
theorem dX12_dayByDays_3 : decode cX12_dayByDays 3 = .ok (.invokevirtual 306, 3) := by decide +kernel
theorem dX12_dayByDays_6 : decode cX12_dayByDays 6 = .ok (.ifCond .ne 5, 3) := by decide +kernel
theorem dX12_dayByDays_9 : decode cX12_dayByDays 9 = .ok (.iconst 0, 1) := by decide +kernel
theorem dX12_dayByDays_10 : decode cX12_dayByDays 10 = .ok (.ireturn, 1) := by decide +kernel
theorem dX12_dayByDays_11 : decode cX12_dayByDays 11 = .ok (.aload_n 0, 1) := by decide +kernel
theorem dX12_dayByDays_12 : decode cX12_dayByDays 12 = .ok (.iload_n 2, 1) := by decide +kernel
theorem dX12_dayByDays_13 : decode cX12_dayByDays 13 = .ok (.invokevirtual 310, 3) := by decide +kernel
theorem dX12_dayByDays_16 : decode cX12_dayByDays 16 = .ok (.aload_n 0, 1) := by decide +kernel
theorem dX12_dayByDays_17 : decode cX12_dayByDays 17 = .ok (.getfield 63, 3) := by decide +kernel
theorem dX12_dayByDays_20 : decode cX12_dayByDays 20 = .ok (.iload_n 1, 1) := by decide +kernel
theorem dX12_dayByDays_21 : decode cX12_dayByDays 21 = .ok (.iaload, 1) := by decide +kernel
theorem dX12_dayByDays_22 : decode cX12_dayByDays 22 = .ok (.ireturn, 1) := by decide +kernel
theorem dX12_clashesNow_0 : decode cX12_clashesNow 0 = .ok (.iconst 0, 1) := by decide +kernel
theorem dX12_clashesNow_1 : decode cX12_clashesNow 1 = .ok (.istore_n 1, 1) := by decide +kernel
theorem dX12_clashesNow_2 : decode cX12_clashesNow 2 = .ok (.iconst 0, 1) := by decide +kernel
theorem dX12_clashesNow_3 : decode cX12_clashesNow 3 = .ok (.istore_n 2, 1) := by decide +kernel
theorem dX12_clashesNow_4 : decode cX12_clashesNow 4 = .ok (.iload_n 2, 1) := by decide +kernel
theorem dX12_clashesNow_5 : decode cX12_clashesNow 5 = .ok (.aload_n 0, 1) := by decide +kernel
theorem dX12_clashesNow_6 : decode cX12_clashesNow 6 = .ok (.getfield 231, 3) := by decide +kernel
theorem dX12_clashesNow_9 : decode cX12_clashesNow 9 = .ok (.if_icmp .ge 76, 3) := by decide +kernel
theorem dX12_clashesNow_12 : decode cX12_clashesNow 12 = .ok (.iload_n 2, 1) := by decide +kernel
theorem dX12_clashesNow_13 : decode cX12_clashesNow 13 = .ok (.iconst 1, 1) := by decide +kernel
theorem dX12_clashesNow_14 : decode cX12_clashesNow 14 = .ok (.iadd, 1) := by decide +kernel
theorem dX12_clashesNow_15 : decode cX12_clashesNow 15 = .ok (.istore_n 3, 1) := by decide +kernel
theorem dX12_clashesNow_16 : decode cX12_clashesNow 16 = .ok (.iload_n 3, 1) := by decide +kernel
theorem dX12_clashesNow_17 : decode cX12_clashesNow 17 = .ok (.aload_n 0, 1) := by decide +kernel
theorem dX12_clashesNow_18 : decode cX12_clashesNow 18 = .ok (.getfield 231, 3) := by decide +kernel
theorem dX12_clashesNow_21 : decode cX12_clashesNow 21 = .ok (.if_icmp .ge 58, 3) := by decide +kernel
theorem dX12_clashesNow_24 : decode cX12_clashesNow 24 = .ok (.aload_n 0, 1) := by decide +kernel
theorem dX12_clashesNow_25 : decode cX12_clashesNow 25 = .ok (.getfield 54, 3) := by decide +kernel
theorem dX12_clashesNow_28 : decode cX12_clashesNow 28 = .ok (.bipush 20, 2) := by decide +kernel
theorem dX12_clashesNow_30 : decode cX12_clashesNow 30 = .ok (.aload_n 0, 1) := by decide +kernel
theorem dX12_clashesNow_31 : decode cX12_clashesNow 31 = .ok (.getfield 133, 3) := by decide +kernel
theorem dX12_clashesNow_34 : decode cX12_clashesNow 34 = .ok (.imul, 1) := by decide +kernel
theorem dX12_clashesNow_35 : decode cX12_clashesNow 35 = .ok (.iload_n 2, 1) := by decide +kernel
theorem dX12_clashesNow_36 : decode cX12_clashesNow 36 = .ok (.iadd, 1) := by decide +kernel
theorem dX12_clashesNow_37 : decode cX12_clashesNow 37 = .ok (.iaload, 1) := by decide +kernel
theorem dX12_clashesNow_38 : decode cX12_clashesNow 38 = .ok (.istore 4, 2) := by decide +kernel
theorem dX12_clashesNow_40 : decode cX12_clashesNow 40 = .ok (.iload_n 1, 1) := by decide +kernel
theorem dX12_clashesNow_41 : decode cX12_clashesNow 41 = .ok (.iload 4, 2) := by decide +kernel
theorem dX12_clashesNow_43 : decode cX12_clashesNow 43 = .ok (.iconst (-1), 1) := by decide +kernel
theorem dX12_clashesNow_44 : decode cX12_clashesNow 44 = .ok (.if_icmp .eq 26, 3) := by decide +kernel
theorem dX12_clashesNow_47 : decode cX12_clashesNow 47 = .ok (.iload 4, 2) := by decide +kernel
theorem dX12_clashesNow_49 : decode cX12_clashesNow 49 = .ok (.aload_n 0, 1) := by decide +kernel
theorem dX12_clashesNow_50 : decode cX12_clashesNow 50 = .ok (.getfield 54, 3) := by decide +kernel
theorem dX12_clashesNow_53 : decode cX12_clashesNow 53 = .ok (.bipush 20, 2) := by decide +kernel
theorem dX12_clashesNow_55 : decode cX12_clashesNow 55 = .ok (.aload_n 0, 1) := by decide +kernel
theorem dX12_clashesNow_56 : decode cX12_clashesNow 56 = .ok (.getfield 133, 3) := by decide +kernel
theorem dX12_clashesNow_59 : decode cX12_clashesNow 59 = .ok (.imul, 1) := by decide +kernel
theorem dX12_clashesNow_60 : decode cX12_clashesNow 60 = .ok (.iload_n 3, 1) := by decide +kernel
theorem dX12_clashesNow_61 : decode cX12_clashesNow 61 = .ok (.iadd, 1) := by decide +kernel
theorem dX12_clashesNow_62 : decode cX12_clashesNow 62 = .ok (.iaload, 1) := by decide +kernel
theorem dX12_clashesNow_63 : decode cX12_clashesNow 63 = .ok (.if_icmp .ne 7, 3) := by decide +kernel
theorem dX12_clashesNow_66 : decode cX12_clashesNow 66 = .ok (.iconst 1, 1) := by decide +kernel
theorem dX12_clashesNow_67 : decode cX12_clashesNow 67 = .ok (.goto 4, 3) := by decide +kernel
theorem dX12_clashesNow_70 : decode cX12_clashesNow 70 = .ok (.iconst 0, 1) := by decide +kernel
theorem dX12_clashesNow_71 : decode cX12_clashesNow 71 = .ok (.iadd, 1) := by decide +kernel
theorem dX12_clashesNow_72 : decode cX12_clashesNow 72 = .ok (.istore_n 1, 1) := by decide +kernel
theorem dX12_clashesNow_73 : decode cX12_clashesNow 73 = .ok (.iinc 3 1, 3) := by decide +kernel
theorem dX12_clashesNow_76 : decode cX12_clashesNow 76 = .ok (.goto (-60), 3) := by decide +kernel
theorem dX12_clashesNow_79 : decode cX12_clashesNow 79 = .ok (.iinc 2 1, 3) := by decide +kernel
theorem dX12_clashesNow_82 : decode cX12_clashesNow 82 = .ok (.goto (-78), 3) := by decide +kernel
theorem dX12_clashesNow_85 : decode cX12_clashesNow 85 = .ok (.iload_n 1, 1) := by decide +kernel
theorem dX12_clashesNow_86 : decode cX12_clashesNow 86 = .ok (.ireturn, 1) := by decide +kernel
theorem dX12_clashes_0 : decode cX12_clashes 0 = .ok (.aload_n 0, 1) := by decide +kernel
theorem dX12_clashes_1 : decode cX12_clashes 1 = .ok (.iload_n 1, 1) := by decide +kernel
theorem dX12_clashes_2 : decode cX12_clashes 2 = .ok (.invokestatic 250, 3) := by decide +kernel
theorem dX12_clashes_5 : decode cX12_clashes 5 = .ok (.ifCond .eq 7, 3) := by decide +kernel
theorem dX12_clashes_8 : decode cX12_clashes 8 = .ok (.iconst 0, 1) := by decide +kernel
theorem dX12_clashes_9 : decode cX12_clashes 9 = .ok (.goto 4, 3) := by decide +kernel
theorem dX12_clashes_12 : decode cX12_clashes 12 = .ok (.iconst 1, 1) := by decide +kernel
theorem dX12_clashes_13 : decode cX12_clashes 13 = .ok (.putfield 93, 3) := by decide +kernel
theorem dX12_clashes_16 : decode cX12_clashes 16 = .ok (.aload_n 0, 1) := by decide +kernel
theorem dX12_clashes_17 : decode cX12_clashes 17 = .ok (.getfield 93, 3) := by decide +kernel
theorem dX12_clashes_20 : decode cX12_clashes 20 = .ok (.ifCond .le 5, 3) := by decide +kernel
theorem dX12_clashes_23 : decode cX12_clashes 23 = .ok (.iconst 0, 1) := by decide +kernel
theorem dX12_clashes_24 : decode cX12_clashes 24 = .ok (.ireturn, 1) := by decide +kernel
theorem dX12_clashes_25 : decode cX12_clashes 25 = .ok (.aload_n 0, 1) := by decide +kernel
theorem dX12_clashes_26 : decode cX12_clashes 26 = .ok (.iload_n 1, 1) := by decide +kernel
theorem dX12_clashes_27 : decode cX12_clashes 27 = .ok (.aload_n 0, 1) := by decide +kernel
theorem dX12_clashes_28 : decode cX12_clashes 28 = .ok (.getfield 133, 3) := by decide +kernel
theorem dX12_clashes_31 : decode cX12_clashes 31 = .ok (.invokevirtual 300, 3) := by decide +kernel
theorem dX12_clashes_34 : decode cX12_clashes 34 = .ok (.aload_n 0, 1) := by decide +kernel
theorem dX12_clashes_35 : decode cX12_clashes 35 = .ok (.invokevirtual 313, 3) := by decide +kernel
theorem dX12_clashes_38 : decode cX12_clashes 38 = .ok (.ireturn, 1) := by decide +kernel
theorem dX12_isNight_0 : decode cX12_isNight 0 = .ok (.aload_n 0, 1) := by decide +kernel
theorem dX12_isNight_1 : decode cX12_isNight 1 = .ok (.getfield 54, 3) := by decide +kernel
theorem dX12_isNight_4 : decode cX12_isNight 4 = .ok (.iload_n 1, 1) := by decide +kernel
theorem dX12_isNight_5 : decode cX12_isNight 5 = .ok (.iaload, 1) := by decide +kernel
theorem dX12_isNight_6 : decode cX12_isNight 6 = .ok (.istore_n 2, 1) := by decide +kernel
theorem dX12_isNight_7 : decode cX12_isNight 7 = .ok (.aload_n 0, 1) := by decide +kernel
theorem dX12_isNight_8 : decode cX12_isNight 8 = .ok (.getfield 54, 3) := by decide +kernel
theorem dX12_isNight_11 : decode cX12_isNight 11 = .ok (.bipush 20, 2) := by decide +kernel
theorem dX12_isNight_13 : decode cX12_isNight 13 = .ok (.iload_n 1, 1) := by decide +kernel
theorem dX12_isNight_14 : decode cX12_isNight 14 = .ok (.iadd, 1) := by decide +kernel
theorem dX12_isNight_15 : decode cX12_isNight 15 = .ok (.iaload, 1) := by decide +kernel
theorem dX12_isNight_16 : decode cX12_isNight 16 = .ok (.istore_n 3, 1) := by decide +kernel
theorem dX12_isNight_17 : decode cX12_isNight 17 = .ok (.iload_n 2, 1) := by decide +kernel
theorem dX12_isNight_18 : decode cX12_isNight 18 = .ok (.iconst (-1), 1) := by decide +kernel
theorem dX12_isNight_19 : decode cX12_isNight 19 = .ok (.if_icmp .eq 26, 3) := by decide +kernel
theorem dX12_isNight_22 : decode cX12_isNight 22 = .ok (.iload_n 3, 1) := by decide +kernel
theorem dX12_isNight_23 : decode cX12_isNight 23 = .ok (.iconst (-1), 1) := by decide +kernel
theorem dX12_isNight_24 : decode cX12_isNight 24 = .ok (.if_icmp .eq 21, 3) := by decide +kernel
theorem dX12_isNight_27 : decode cX12_isNight 27 = .ok (.iload_n 2, 1) := by decide +kernel
theorem dX12_isNight_28 : decode cX12_isNight 28 = .ok (.iload_n 3, 1) := by decide +kernel
theorem dX12_isNight_29 : decode cX12_isNight 29 = .ok (.isub, 1) := by decide +kernel
theorem dX12_isNight_30 : decode cX12_isNight 30 = .ok (.iconst 1, 1) := by decide +kernel
theorem dX12_isNight_31 : decode cX12_isNight 31 = .ok (.if_icmp .eq 10, 3) := by decide +kernel
theorem dX12_isNight_34 : decode cX12_isNight 34 = .ok (.iload_n 3, 1) := by decide +kernel
theorem dX12_isNight_35 : decode cX12_isNight 35 = .ok (.iload_n 2, 1) := by decide +kernel
theorem dX12_isNight_36 : decode cX12_isNight 36 = .ok (.isub, 1) := by decide +kernel
theorem dX12_isNight_37 : decode cX12_isNight 37 = .ok (.iconst 1, 1) := by decide +kernel
theorem dX12_isNight_38 : decode cX12_isNight 38 = .ok (.if_icmp .ne 7, 3) := by decide +kernel
theorem dX12_isNight_41 : decode cX12_isNight 41 = .ok (.iconst 1, 1) := by decide +kernel
theorem dX12_isNight_42 : decode cX12_isNight 42 = .ok (.goto 4, 3) := by decide +kernel
theorem dX12_isNight_45 : decode cX12_isNight 45 = .ok (.iconst 0, 1) := by decide +kernel
theorem dX12_isNight_46 : decode cX12_isNight 46 = .ok (.ireturn, 1) := by decide +kernel
theorem dX12_isMidnight_0 : decode cX12_isMidnight 0 = .ok (.aload_n 0, 1) := by decide +kernel
theorem dX12_isMidnight_1 : decode cX12_isMidnight 1 = .ok (.iload_n 1, 1) := by decide +kernel
theorem dX12_isMidnight_2 : decode cX12_isMidnight 2 = .ok (.iload_n 2, 1) := by decide +kernel
theorem dX12_isMidnight_3 : decode cX12_isMidnight 3 = .ok (.invokevirtual 306, 3) := by decide +kernel
theorem dX12_isMidnight_6 : decode cX12_isMidnight 6 = .ok (.ifCond .ne 5, 3) := by decide +kernel
theorem dX12_isMidnight_9 : decode cX12_isMidnight 9 = .ok (.iconst 0, 1) := by decide +kernel
theorem dX12_isMidnight_10 : decode cX12_isMidnight 10 = .ok (.ireturn, 1) := by decide +kernel
theorem dX12_isMidnight_11 : decode cX12_isMidnight 11 = .ok (.aload_n 0, 1) := by decide +kernel
theorem dX12_isMidnight_12 : decode cX12_isMidnight 12 = .ok (.iload_n 2, 1) := by decide +kernel
theorem dX12_isMidnight_13 : decode cX12_isMidnight 13 = .ok (.iconst 0, 1) := by decide +kernel
theorem dX12_isMidnight_14 : decode cX12_isMidnight 14 = .ok (.invokevirtual 300, 3) := by decide +kernel
theorem dX12_isMidnight_17 : decode cX12_isMidnight 17 = .ok (.aload_n 0, 1) := by decide +kernel
theorem dX12_isMidnight_18 : decode cX12_isMidnight 18 = .ok (.iload_n 2, 1) := by decide +kernel
theorem dX12_isMidnight_19 : decode cX12_isMidnight 19 = .ok (.iconst 1, 1) := by decide +kernel
theorem dX12_isMidnight_20 : decode cX12_isMidnight 20 = .ok (.invokevirtual 300, 3) := by decide +kernel
theorem dX12_isMidnight_23 : decode cX12_isMidnight 23 = .ok (.aload_n 0, 1) := by decide +kernel
theorem dX12_isMidnight_24 : decode cX12_isMidnight 24 = .ok (.iload_n 1, 1) := by decide +kernel
theorem dX12_isMidnight_25 : decode cX12_isMidnight 25 = .ok (.invokevirtual 317, 3) := by decide +kernel
theorem dX12_isMidnight_28 : decode cX12_isMidnight 28 = .ok (.ireturn, 1) := by decide +kernel
theorem dX12_steps_0 : decode cX12_steps 0 = .ok (.aload_n 0, 1) := by decide +kernel
theorem dX12_steps_1 : decode cX12_steps 1 = .ok (.aload_n 0, 1) := by decide +kernel
theorem dX12_steps_2 : decode cX12_steps 2 = .ok (.iload_n 1, 1) := by decide +kernel
theorem dX12_steps_3 : decode cX12_steps 3 = .ok (.invokevirtual 244, 3) := by decide +kernel
theorem dX12_steps_6 : decode cX12_steps 6 = .ok (.ifCond .eq 7, 3) := by decide +kernel
theorem dX12_steps_9 : decode cX12_steps 9 = .ok (.iconst 0, 1) := by decide +kernel
theorem dX12_steps_10 : decode cX12_steps 10 = .ok (.goto 4, 3) := by decide +kernel
theorem dX12_steps_13 : decode cX12_steps 13 = .ok (.iconst 1, 1) := by decide +kernel
theorem dX12_steps_14 : decode cX12_steps 14 = .ok (.putfield 93, 3) := by decide +kernel
theorem dX12_steps_17 : decode cX12_steps 17 = .ok (.aload_n 0, 1) := by decide +kernel
theorem dX12_steps_18 : decode cX12_steps 18 = .ok (.getfield 93, 3) := by decide +kernel
theorem dX12_steps_21 : decode cX12_steps 21 = .ok (.ifCond .le 7, 3) := by decide +kernel
theorem dX12_steps_24 : decode cX12_steps 24 = .ok (.iconst 0, 1) := by decide +kernel
theorem dX12_steps_25 : decode cX12_steps 25 = .ok (.goto 9, 3) := by decide +kernel
theorem dX12_steps_28 : decode cX12_steps 28 = .ok (.aload_n 0, 1) := by decide +kernel
theorem dX12_steps_29 : decode cX12_steps 29 = .ok (.getfield 36, 3) := by decide +kernel
theorem dX12_steps_32 : decode cX12_steps 32 = .ok (.iload_n 1, 1) := by decide +kernel
theorem dX12_steps_33 : decode cX12_steps 33 = .ok (.iaload, 1) := by decide +kernel
theorem dX12_steps_34 : decode cX12_steps 34 = .ok (.ireturn, 1) := by decide +kernel
theorem dX12_step_0 : decode cX12_step 0 = .ok (.aload_n 0, 1) := by decide +kernel
theorem dX12_step_1 : decode cX12_step 1 = .ok (.aload_n 0, 1) := by decide +kernel
theorem dX12_step_2 : decode cX12_step 2 = .ok (.iload_n 1, 1) := by decide +kernel
theorem dX12_step_3 : decode cX12_step 3 = .ok (.invokevirtual 244, 3) := by decide +kernel
theorem dX12_step_6 : decode cX12_step 6 = .ok (.ifCond .eq 35, 3) := by decide +kernel
theorem dX12_step_9 : decode cX12_step 9 = .ok (.iload_n 2, 1) := by decide +kernel
theorem dX12_step_10 : decode cX12_step 10 = .ok (.iconst 0, 1) := by decide +kernel
theorem dX12_step_11 : decode cX12_step 11 = .ok (.aload_n 0, 1) := by decide +kernel
theorem dX12_step_12 : decode cX12_step 12 = .ok (.getfield 36, 3) := by decide +kernel
theorem dX12_step_15 : decode cX12_step 15 = .ok (.aload_n 0, 1) := by decide +kernel
theorem dX12_step_16 : decode cX12_step 16 = .ok (.iload_n 1, 1) := by decide +kernel
theorem dX12_step_17 : decode cX12_step 17 = .ok (.invokevirtual 244, 3) := by decide +kernel
theorem dX12_step_20 : decode cX12_step 20 = .ok (.ifCond .eq 7, 3) := by decide +kernel
theorem dX12_step_23 : decode cX12_step 23 = .ok (.iload_n 1, 1) := by decide +kernel
theorem dX12_step_24 : decode cX12_step 24 = .ok (.goto 4, 3) := by decide +kernel
theorem dX12_step_27 : decode cX12_step 27 = .ok (.iconst 0, 1) := by decide +kernel
theorem dX12_step_28 : decode cX12_step 28 = .ok (.iaload, 1) := by decide +kernel
theorem dX12_step_29 : decode cX12_step 29 = .ok (.iconst 1, 1) := by decide +kernel
theorem dX12_step_30 : decode cX12_step 30 = .ok (.isub, 1) := by decide +kernel
theorem dX12_step_31 : decode cX12_step 31 = .ok (.invokestatic 115, 3) := by decide +kernel
theorem dX12_step_34 : decode cX12_step 34 = .ok (.ifCond .eq 7, 3) := by decide +kernel
theorem dX12_step_37 : decode cX12_step 37 = .ok (.iconst 0, 1) := by decide +kernel
theorem dX12_step_38 : decode cX12_step 38 = .ok (.goto 4, 3) := by decide +kernel
theorem dX12_step_41 : decode cX12_step 41 = .ok (.iconst 1, 1) := by decide +kernel
theorem dX12_step_42 : decode cX12_step 42 = .ok (.putfield 93, 3) := by decide +kernel
theorem dX12_step_45 : decode cX12_step 45 = .ok (.aload_n 0, 1) := by decide +kernel
theorem dX12_step_46 : decode cX12_step 46 = .ok (.getfield 93, 3) := by decide +kernel
theorem dX12_step_49 : decode cX12_step 49 = .ok (.ifCond .le 7, 3) := by decide +kernel
theorem dX12_step_52 : decode cX12_step 52 = .ok (.iconst 0, 1) := by decide +kernel
theorem dX12_step_53 : decode cX12_step 53 = .ok (.goto 30, 3) := by decide +kernel
theorem dX12_step_56 : decode cX12_step 56 = .ok (.sipush 10000, 3) := by decide +kernel
theorem dX12_step_59 : decode cX12_step 59 = .ok (.aload_n 0, 1) := by decide +kernel
theorem dX12_step_60 : decode cX12_step 60 = .ok (.getfield 39, 3) := by decide +kernel
theorem dX12_step_63 : decode cX12_step 63 = .ok (.bipush 80, 2) := by decide +kernel
theorem dX12_step_65 : decode cX12_step 65 = .ok (.iload_n 1, 1) := by decide +kernel
theorem dX12_step_66 : decode cX12_step 66 = .ok (.imul, 1) := by decide +kernel
theorem dX12_step_67 : decode cX12_step 67 = .ok (.iload_n 2, 1) := by decide +kernel
theorem dX12_step_68 : decode cX12_step 68 = .ok (.iadd, 1) := by decide +kernel
theorem dX12_step_69 : decode cX12_step 69 = .ok (.iaload, 1) := by decide +kernel
theorem dX12_step_70 : decode cX12_step 70 = .ok (.imul, 1) := by decide +kernel
theorem dX12_step_71 : decode cX12_step 71 = .ok (.aload_n 0, 1) := by decide +kernel
theorem dX12_step_72 : decode cX12_step 72 = .ok (.getfield 42, 3) := by decide +kernel
theorem dX12_step_75 : decode cX12_step 75 = .ok (.bipush 80, 2) := by decide +kernel
theorem dX12_step_77 : decode cX12_step 77 = .ok (.iload_n 1, 1) := by decide +kernel
theorem dX12_step_78 : decode cX12_step 78 = .ok (.imul, 1) := by decide +kernel
theorem dX12_step_79 : decode cX12_step 79 = .ok (.iload_n 2, 1) := by decide +kernel
theorem dX12_step_80 : decode cX12_step 80 = .ok (.iadd, 1) := by decide +kernel
theorem dX12_step_81 : decode cX12_step 81 = .ok (.iaload, 1) := by decide +kernel
theorem dX12_step_82 : decode cX12_step 82 = .ok (.iadd, 1) := by decide +kernel
theorem dX12_step_83 : decode cX12_step 83 = .ok (.ireturn, 1) := by decide +kernel
theorem dX12_cost_0 : decode cX12_cost 0 = .ok (.aload_n 0, 1) := by decide +kernel
theorem dX12_cost_1 : decode cX12_cost 1 = .ok (.iload_n 1, 1) := by decide +kernel
theorem dX12_cost_2 : decode cX12_cost 2 = .ok (.iload_n 2, 1) := by decide +kernel
theorem dX12_cost_3 : decode cX12_cost 3 = .ok (.invokevirtual 306, 3) := by decide +kernel
theorem dX12_cost_6 : decode cX12_cost 6 = .ok (.ifCond .ne 5, 3) := by decide +kernel
theorem dX12_cost_9 : decode cX12_cost 9 = .ok (.iconst 0, 1) := by decide +kernel
theorem dX12_cost_10 : decode cX12_cost 10 = .ok (.ireturn, 1) := by decide +kernel
theorem dX12_cost_11 : decode cX12_cost 11 = .ok (.aload_n 0, 1) := by decide +kernel
theorem dX12_cost_12 : decode cX12_cost 12 = .ok (.iload_n 2, 1) := by decide +kernel
theorem dX12_cost_13 : decode cX12_cost 13 = .ok (.aload_n 0, 1) := by decide +kernel
theorem dX12_cost_14 : decode cX12_cost 14 = .ok (.getfield 133, 3) := by decide +kernel
theorem dX12_cost_17 : decode cX12_cost 17 = .ok (.invokevirtual 300, 3) := by decide +kernel
theorem dX12_cost_20 : decode cX12_cost 20 = .ok (.aload_n 0, 1) := by decide +kernel
theorem dX12_cost_21 : decode cX12_cost 21 = .ok (.getfield 60, 3) := by decide +kernel
theorem dX12_cost_24 : decode cX12_cost 24 = .ok (.iload_n 1, 1) := by decide +kernel
theorem dX12_cost_25 : decode cX12_cost 25 = .ok (.iaload, 1) := by decide +kernel
theorem dX12_cost_26 : decode cX12_cost 26 = .ok (.ireturn, 1) := by decide +kernel
theorem dX12_costNow_0 : decode cX12_costNow 0 = .ok (.iconst 1, 1) := by decide +kernel
theorem dX12_costNow_1 : decode cX12_costNow 1 = .ok (.istore_n 1, 1) := by decide +kernel
theorem dX12_costNow_2 : decode cX12_costNow 2 = .ok (.iconst 0, 1) := by decide +kernel
theorem dX12_costNow_3 : decode cX12_costNow 3 = .ok (.istore_n 2, 1) := by decide +kernel
theorem dX12_costNow_4 : decode cX12_costNow 4 = .ok (.iload_n 2, 1) := by decide +kernel
theorem dX12_costNow_5 : decode cX12_costNow 5 = .ok (.aload_n 0, 1) := by decide +kernel
theorem dX12_costNow_6 : decode cX12_costNow 6 = .ok (.getfield 231, 3) := by decide +kernel
theorem dX12_costNow_9 : decode cX12_costNow 9 = .ok (.if_icmp .ge 18, 3) := by decide +kernel
theorem dX12_costNow_12 : decode cX12_costNow 12 = .ok (.iload_n 1, 1) := by decide +kernel
theorem dX12_costNow_13 : decode cX12_costNow 13 = .ok (.aload_n 0, 1) := by decide +kernel
theorem dX12_costNow_14 : decode cX12_costNow 14 = .ok (.getfield 60, 3) := by decide +kernel
theorem dX12_costNow_17 : decode cX12_costNow 17 = .ok (.iload_n 2, 1) := by decide +kernel
theorem dX12_costNow_18 : decode cX12_costNow 18 = .ok (.iaload, 1) := by decide +kernel
theorem dX12_costNow_19 : decode cX12_costNow 19 = .ok (.iadd, 1) := by decide +kernel
theorem dX12_costNow_20 : decode cX12_costNow 20 = .ok (.istore_n 1, 1) := by decide +kernel
theorem dX12_costNow_21 : decode cX12_costNow 21 = .ok (.iinc 2 1, 3) := by decide +kernel
theorem dX12_costNow_24 : decode cX12_costNow 24 = .ok (.goto (-20), 3) := by decide +kernel
theorem dX12_costNow_27 : decode cX12_costNow 27 = .ok (.iload_n 1, 1) := by decide +kernel
theorem dX12_costNow_28 : decode cX12_costNow 28 = .ok (.ireturn, 1) := by decide +kernel
theorem dX12_yearCost_0 : decode cX12_yearCost 0 = .ok (.aload_n 0, 1) := by decide +kernel
theorem dX12_yearCost_1 : decode cX12_yearCost 1 = .ok (.iload_n 1, 1) := by decide +kernel
theorem dX12_yearCost_2 : decode cX12_yearCost 2 = .ok (.invokestatic 250, 3) := by decide +kernel
theorem dX12_yearCost_5 : decode cX12_yearCost 5 = .ok (.ifCond .eq 7, 3) := by decide +kernel
theorem dX12_yearCost_8 : decode cX12_yearCost 8 = .ok (.iconst 0, 1) := by decide +kernel
theorem dX12_yearCost_9 : decode cX12_yearCost 9 = .ok (.goto 4, 3) := by decide +kernel
theorem dX12_yearCost_12 : decode cX12_yearCost 12 = .ok (.iconst 1, 1) := by decide +kernel
theorem dX12_yearCost_13 : decode cX12_yearCost 13 = .ok (.putfield 93, 3) := by decide +kernel
theorem dX12_yearCost_16 : decode cX12_yearCost 16 = .ok (.aload_n 0, 1) := by decide +kernel
theorem dX12_yearCost_17 : decode cX12_yearCost 17 = .ok (.getfield 93, 3) := by decide +kernel
theorem dX12_yearCost_20 : decode cX12_yearCost 20 = .ok (.ifCond .le 5, 3) := by decide +kernel
theorem dX12_yearCost_23 : decode cX12_yearCost 23 = .ok (.iconst 0, 1) := by decide +kernel
theorem dX12_yearCost_24 : decode cX12_yearCost 24 = .ok (.ireturn, 1) := by decide +kernel
theorem dX12_yearCost_25 : decode cX12_yearCost 25 = .ok (.aload_n 0, 1) := by decide +kernel
theorem dX12_yearCost_26 : decode cX12_yearCost 26 = .ok (.iload_n 1, 1) := by decide +kernel
theorem dX12_yearCost_27 : decode cX12_yearCost 27 = .ok (.aload_n 0, 1) := by decide +kernel
theorem dX12_yearCost_28 : decode cX12_yearCost 28 = .ok (.getfield 133, 3) := by decide +kernel
theorem dX12_yearCost_31 : decode cX12_yearCost 31 = .ok (.invokevirtual 300, 3) := by decide +kernel
theorem dX12_yearCost_34 : decode cX12_yearCost 34 = .ok (.aload_n 0, 1) := by decide +kernel
theorem dX12_yearCost_35 : decode cX12_yearCost 35 = .ok (.invokevirtual 320, 3) := by decide +kernel
theorem dX12_yearCost_38 : decode cX12_yearCost 38 = .ok (.ireturn, 1) := by decide +kernel
theorem dX12_namesThere_0 : decode cX12_namesThere 0 = .ok (.iconst 1, 1) := by decide +kernel
theorem dX12_namesThere_1 : decode cX12_namesThere 1 = .ok (.istore_n 1, 1) := by decide +kernel
theorem dX12_namesThere_2 : decode cX12_namesThere 2 = .ok (.iconst 0, 1) := by decide +kernel
theorem dX12_namesThere_3 : decode cX12_namesThere 3 = .ok (.istore_n 2, 1) := by decide +kernel
theorem dX12_namesThere_4 : decode cX12_namesThere 4 = .ok (.iload_n 2, 1) := by decide +kernel
theorem dX12_namesThere_5 : decode cX12_namesThere 5 = .ok (.aload_n 0, 1) := by decide +kernel
theorem dX12_namesThere_6 : decode cX12_namesThere 6 = .ok (.getfield 142, 3) := by decide +kernel
theorem dX12_namesThere_9 : decode cX12_namesThere 9 = .ok (.if_icmp .ge 149, 3) := by decide +kernel
theorem dX12_namesThere_12 : decode cX12_namesThere 12 = .ok (.aload_n 0, 1) := by decide +kernel
theorem dX12_namesThere_13 : decode cX12_namesThere 13 = .ok (.getfield 23, 3) := by decide +kernel
theorem dX12_namesThere_16 : decode cX12_namesThere 16 = .ok (.iload_n 2, 1) := by decide +kernel
theorem dX12_namesThere_17 : decode cX12_namesThere 17 = .ok (.iaload, 1) := by decide +kernel
theorem dX12_namesThere_18 : decode cX12_namesThere 18 = .ok (.iconst 2, 1) := by decide +kernel
theorem dX12_namesThere_19 : decode cX12_namesThere 19 = .ok (.if_icmp .ne 16, 3) := by decide +kernel
theorem dX12_namesThere_22 : decode cX12_namesThere 22 = .ok (.aload_n 0, 1) := by decide +kernel
theorem dX12_namesThere_23 : decode cX12_namesThere 23 = .ok (.getfield 26, 3) := by decide +kernel
theorem dX12_namesThere_26 : decode cX12_namesThere 26 = .ok (.iload_n 2, 1) := by decide +kernel
theorem dX12_namesThere_27 : decode cX12_namesThere 27 = .ok (.iaload, 1) := by decide +kernel
theorem dX12_namesThere_28 : decode cX12_namesThere 28 = .ok (.sipush 10000, 3) := by decide +kernel
theorem dX12_namesThere_31 : decode cX12_namesThere 31 = .ok (.idiv, 1) := by decide +kernel
theorem dX12_namesThere_32 : decode cX12_namesThere 32 = .ok (.goto 67, 3) := by decide +kernel
theorem dX12_namesThere_35 : decode cX12_namesThere 35 = .ok (.aload_n 0, 1) := by decide +kernel
theorem dX12_namesThere_36 : decode cX12_namesThere 36 = .ok (.getfield 23, 3) := by decide +kernel
theorem dX12_namesThere_39 : decode cX12_namesThere 39 = .ok (.iload_n 2, 1) := by decide +kernel
theorem dX12_namesThere_40 : decode cX12_namesThere 40 = .ok (.iaload, 1) := by decide +kernel
theorem dX12_namesThere_41 : decode cX12_namesThere 41 = .ok (.iconst 3, 1) := by decide +kernel
theorem dX12_namesThere_42 : decode cX12_namesThere 42 = .ok (.if_icmp .ne 15, 3) := by decide +kernel
theorem dX12_namesThere_45 : decode cX12_namesThere 45 = .ok (.aload_n 0, 1) := by decide +kernel
theorem dX12_namesThere_46 : decode cX12_namesThere 46 = .ok (.getfield 26, 3) := by decide +kernel
theorem dX12_namesThere_49 : decode cX12_namesThere 49 = .ok (.iload_n 2, 1) := by decide +kernel
theorem dX12_namesThere_50 : decode cX12_namesThere 50 = .ok (.iaload, 1) := by decide +kernel
theorem dX12_namesThere_51 : decode cX12_namesThere 51 = .ok (.bipush 10, 2) := by decide +kernel
theorem dX12_namesThere_53 : decode cX12_namesThere 53 = .ok (.idiv, 1) := by decide +kernel
theorem dX12_namesThere_54 : decode cX12_namesThere 54 = .ok (.goto 45, 3) := by decide +kernel
theorem dX12_namesThere_57 : decode cX12_namesThere 57 = .ok (.aload_n 0, 1) := by decide +kernel
theorem dX12_namesThere_58 : decode cX12_namesThere 58 = .ok (.getfield 23, 3) := by decide +kernel
theorem dX12_namesThere_61 : decode cX12_namesThere 61 = .ok (.iload_n 2, 1) := by decide +kernel
theorem dX12_namesThere_62 : decode cX12_namesThere 62 = .ok (.iaload, 1) := by decide +kernel
theorem dX12_namesThere_63 : decode cX12_namesThere 63 = .ok (.iconst 4, 1) := by decide +kernel
theorem dX12_namesThere_64 : decode cX12_namesThere 64 = .ok (.if_icmp .ne 12, 3) := by decide +kernel
theorem dX12_namesThere_67 : decode cX12_namesThere 67 = .ok (.aload_n 0, 1) := by decide +kernel
theorem dX12_namesThere_68 : decode cX12_namesThere 68 = .ok (.getfield 26, 3) := by decide +kernel
theorem dX12_namesThere_71 : decode cX12_namesThere 71 = .ok (.iload_n 2, 1) := by decide +kernel
theorem dX12_namesThere_72 : decode cX12_namesThere 72 = .ok (.iaload, 1) := by decide +kernel
theorem dX12_namesThere_73 : decode cX12_namesThere 73 = .ok (.goto 26, 3) := by decide +kernel
theorem dX12_namesThere_76 : decode cX12_namesThere 76 = .ok (.aload_n 0, 1) := by decide +kernel
theorem dX12_namesThere_77 : decode cX12_namesThere 77 = .ok (.getfield 23, 3) := by decide +kernel
theorem dX12_namesThere_80 : decode cX12_namesThere 80 = .ok (.iload_n 2, 1) := by decide +kernel
theorem dX12_namesThere_81 : decode cX12_namesThere 81 = .ok (.iaload, 1) := by decide +kernel
theorem dX12_namesThere_82 : decode cX12_namesThere 82 = .ok (.iconst 5, 1) := by decide +kernel
theorem dX12_namesThere_83 : decode cX12_namesThere 83 = .ok (.if_icmp .ne 15, 3) := by decide +kernel
theorem dX12_namesThere_86 : decode cX12_namesThere 86 = .ok (.aload_n 0, 1) := by decide +kernel
theorem dX12_namesThere_87 : decode cX12_namesThere 87 = .ok (.getfield 26, 3) := by decide +kernel
theorem dX12_namesThere_90 : decode cX12_namesThere 90 = .ok (.iload_n 2, 1) := by decide +kernel
theorem dX12_namesThere_91 : decode cX12_namesThere 91 = .ok (.iaload, 1) := by decide +kernel
theorem dX12_namesThere_92 : decode cX12_namesThere 92 = .ok (.bipush 100, 2) := by decide +kernel
theorem dX12_namesThere_94 : decode cX12_namesThere 94 = .ok (.idiv, 1) := by decide +kernel
theorem dX12_namesThere_95 : decode cX12_namesThere 95 = .ok (.goto 4, 3) := by decide +kernel
theorem dX12_namesThere_98 : decode cX12_namesThere 98 = .ok (.iconst (-1), 1) := by decide +kernel
theorem dX12_namesThere_99 : decode cX12_namesThere 99 = .ok (.istore_n 3, 1) := by decide +kernel
theorem dX12_namesThere_100 : decode cX12_namesThere 100 = .ok (.aload_n 0, 1) := by decide +kernel
theorem dX12_namesThere_101 : decode cX12_namesThere 101 = .ok (.getfield 23, 3) := by decide +kernel
theorem dX12_namesThere_104 : decode cX12_namesThere 104 = .ok (.iload_n 2, 1) := by decide +kernel
theorem dX12_namesThere_105 : decode cX12_namesThere 105 = .ok (.iaload, 1) := by decide +kernel
theorem dX12_namesThere_106 : decode cX12_namesThere 106 = .ok (.iconst 5, 1) := by decide +kernel
theorem dX12_namesThere_107 : decode cX12_namesThere 107 = .ok (.if_icmp .ne 15, 3) := by decide +kernel
theorem dX12_namesThere_110 : decode cX12_namesThere 110 = .ok (.aload_n 0, 1) := by decide +kernel
theorem dX12_namesThere_111 : decode cX12_namesThere 111 = .ok (.getfield 26, 3) := by decide +kernel
theorem dX12_namesThere_114 : decode cX12_namesThere 114 = .ok (.iload_n 2, 1) := by decide +kernel
theorem dX12_namesThere_115 : decode cX12_namesThere 115 = .ok (.iaload, 1) := by decide +kernel
theorem dX12_namesThere_116 : decode cX12_namesThere 116 = .ok (.bipush 100, 2) := by decide +kernel
theorem dX12_namesThere_118 : decode cX12_namesThere 118 = .ok (.irem, 1) := by decide +kernel
theorem dX12_namesThere_119 : decode cX12_namesThere 119 = .ok (.goto 4, 3) := by decide +kernel
theorem dX12_namesThere_122 : decode cX12_namesThere 122 = .ok (.iconst (-1), 1) := by decide +kernel
theorem dX12_namesThere_123 : decode cX12_namesThere 123 = .ok (.istore 4, 2) := by decide +kernel
theorem dX12_namesThere_125 : decode cX12_namesThere 125 = .ok (.iload_n 1, 1) := by decide +kernel
theorem dX12_namesThere_126 : decode cX12_namesThere 126 = .ok (.ifCond .eq 24, 3) := by decide +kernel
theorem dX12_namesThere_129 : decode cX12_namesThere 129 = .ok (.iload_n 3, 1) := by decide +kernel
theorem dX12_namesThere_130 : decode cX12_namesThere 130 = .ok (.aload_n 0, 1) := by decide +kernel
theorem dX12_namesThere_131 : decode cX12_namesThere 131 = .ok (.getfield 231, 3) := by decide +kernel
theorem dX12_namesThere_134 : decode cX12_namesThere 134 = .ok (.if_icmp .ge 16, 3) := by decide +kernel
theorem dX12_namesThere_137 : decode cX12_namesThere 137 = .ok (.iload 4, 2) := by decide +kernel
theorem dX12_namesThere_139 : decode cX12_namesThere 139 = .ok (.aload_n 0, 1) := by decide +kernel
theorem dX12_namesThere_140 : decode cX12_namesThere 140 = .ok (.getfield 231, 3) := by decide +kernel
theorem dX12_namesThere_143 : decode cX12_namesThere 143 = .ok (.if_icmp .ge 7, 3) := by decide +kernel
theorem dX12_namesThere_146 : decode cX12_namesThere 146 = .ok (.iconst 1, 1) := by decide +kernel
theorem dX12_namesThere_147 : decode cX12_namesThere 147 = .ok (.goto 4, 3) := by decide +kernel
theorem dX12_namesThere_150 : decode cX12_namesThere 150 = .ok (.iconst 0, 1) := by decide +kernel
theorem dX12_namesThere_151 : decode cX12_namesThere 151 = .ok (.istore_n 1, 1) := by decide +kernel
theorem dX12_namesThere_152 : decode cX12_namesThere 152 = .ok (.iinc 2 1, 3) := by decide +kernel
theorem dX12_namesThere_155 : decode cX12_namesThere 155 = .ok (.goto (-151), 3) := by decide +kernel
theorem dX12_namesThere_158 : decode cX12_namesThere 158 = .ok (.iload_n 1, 1) := by decide +kernel
theorem dX12_namesThere_159 : decode cX12_namesThere 159 = .ok (.ireturn, 1) := by decide +kernel
theorem dX12_search_0 : decode cX12_search 0 = .ok (.aload_n 0, 1) := by decide +kernel
theorem dX12_search_1 : decode cX12_search 1 = .ok (.iload_n 1, 1) := by decide +kernel
theorem dX12_search_2 : decode cX12_search 2 = .ok (.invokestatic 250, 3) := by decide +kernel
theorem dX12_search_5 : decode cX12_search 5 = .ok (.ifCond .eq 13, 3) := by decide +kernel
theorem dX12_search_8 : decode cX12_search 8 = .ok (.aload_n 0, 1) := by decide +kernel
theorem dX12_search_9 : decode cX12_search 9 = .ok (.bipush 20, 2) := by decide +kernel
theorem dX12_search_11 : decode cX12_search 11 = .ok (.invokevirtual 228, 3) := by decide +kernel
theorem dX12_search_14 : decode cX12_search 14 = .ok (.iconst (-1), 1) := by decide +kernel
theorem dX12_search_15 : decode cX12_search 15 = .ok (.if_icmp .eq 7, 3) := by decide +kernel
theorem dX12_search_18 : decode cX12_search 18 = .ok (.iconst 1, 1) := by decide +kernel
theorem dX12_search_19 : decode cX12_search 19 = .ok (.goto 15, 3) := by decide +kernel
theorem dX12_search_22 : decode cX12_search 22 = .ok (.aload_n 0, 1) := by decide +kernel
theorem dX12_search_23 : decode cX12_search 23 = .ok (.invokevirtual 323, 3) := by decide +kernel
theorem dX12_search_26 : decode cX12_search 26 = .ok (.ifCond .eq 7, 3) := by decide +kernel
theorem dX12_search_29 : decode cX12_search 29 = .ok (.iconst 0, 1) := by decide +kernel
theorem dX12_search_30 : decode cX12_search 30 = .ok (.goto 4, 3) := by decide +kernel
theorem dX12_search_33 : decode cX12_search 33 = .ok (.iconst 2, 1) := by decide +kernel
theorem dX12_search_34 : decode cX12_search 34 = .ok (.putfield 93, 3) := by decide +kernel
theorem dX12_search_37 : decode cX12_search 37 = .ok (.aload_n 0, 1) := by decide +kernel
theorem dX12_search_38 : decode cX12_search 38 = .ok (.getfield 93, 3) := by decide +kernel
theorem dX12_search_41 : decode cX12_search 41 = .ok (.ifCond .le 5, 3) := by decide +kernel
theorem dX12_search_44 : decode cX12_search 44 = .ok (.iconst 0, 1) := by decide +kernel
theorem dX12_search_45 : decode cX12_search 45 = .ok (.ireturn, 1) := by decide +kernel
theorem dX12_search_46 : decode cX12_search 46 = .ok (.aload_n 0, 1) := by decide +kernel
theorem dX12_search_47 : decode cX12_search 47 = .ok (.aload_n 0, 1) := by decide +kernel
theorem dX12_search_48 : decode cX12_search 48 = .ok (.getfield 142, 3) := by decide +kernel
theorem dX12_search_51 : decode cX12_search 51 = .ok (.putfield 326, 3) := by decide +kernel
theorem dX12_search_54 : decode cX12_search 54 = .ok (.iconst 0, 1) := by decide +kernel
theorem dX12_search_55 : decode cX12_search 55 = .ok (.istore_n 2, 1) := by decide +kernel
theorem dX12_search_56 : decode cX12_search 56 = .ok (.iload_n 2, 1) := by decide +kernel
theorem dX12_search_57 : decode cX12_search 57 = .ok (.aload_n 0, 1) := by decide +kernel
theorem dX12_search_58 : decode cX12_search 58 = .ok (.getfield 142, 3) := by decide +kernel
theorem dX12_search_61 : decode cX12_search 61 = .ok (.if_icmp .ge 33, 3) := by decide +kernel
theorem dX12_search_64 : decode cX12_search 64 = .ok (.aload_n 0, 1) := by decide +kernel
theorem dX12_search_65 : decode cX12_search 65 = .ok (.getfield 66, 3) := by decide +kernel
theorem dX12_search_68 : decode cX12_search 68 = .ok (.iload_n 2, 1) := by decide +kernel
theorem dX12_search_69 : decode cX12_search 69 = .ok (.aload_n 0, 1) := by decide +kernel
theorem dX12_search_70 : decode cX12_search 70 = .ok (.getfield 23, 3) := by decide +kernel
theorem dX12_search_73 : decode cX12_search 73 = .ok (.iload_n 2, 1) := by decide +kernel
theorem dX12_search_74 : decode cX12_search 74 = .ok (.iaload, 1) := by decide +kernel
theorem dX12_search_75 : decode cX12_search 75 = .ok (.iastore, 1) := by decide +kernel
theorem dX12_search_76 : decode cX12_search 76 = .ok (.aload_n 0, 1) := by decide +kernel
theorem dX12_search_77 : decode cX12_search 77 = .ok (.getfield 69, 3) := by decide +kernel
theorem dX12_search_80 : decode cX12_search 80 = .ok (.iload_n 2, 1) := by decide +kernel
theorem dX12_search_81 : decode cX12_search 81 = .ok (.aload_n 0, 1) := by decide +kernel
theorem dX12_search_82 : decode cX12_search 82 = .ok (.getfield 26, 3) := by decide +kernel
theorem dX12_search_85 : decode cX12_search 85 = .ok (.iload_n 2, 1) := by decide +kernel
theorem dX12_search_86 : decode cX12_search 86 = .ok (.iaload, 1) := by decide +kernel
theorem dX12_search_87 : decode cX12_search 87 = .ok (.iastore, 1) := by decide +kernel
theorem dX12_search_88 : decode cX12_search 88 = .ok (.iinc 2 1, 3) := by decide +kernel
theorem dX12_search_91 : decode cX12_search 91 = .ok (.goto (-35), 3) := by decide +kernel
theorem dX12_search_94 : decode cX12_search 94 = .ok (.aload_n 0, 1) := by decide +kernel
theorem dX12_search_95 : decode cX12_search 95 = .ok (.iconst 0, 1) := by decide +kernel
theorem dX12_search_96 : decode cX12_search 96 = .ok (.putfield 136, 3) := by decide +kernel
theorem dX12_search_99 : decode cX12_search 99 = .ok (.aload_n 0, 1) := by decide +kernel
theorem dX12_search_100 : decode cX12_search 100 = .ok (.iconst 1, 1) := by decide +kernel
theorem dX12_search_101 : decode cX12_search 101 = .ok (.putfield 329, 3) := by decide +kernel
theorem dX12_search_104 : decode cX12_search 104 = .ok (.aload_n 0, 1) := by decide +kernel
theorem dX12_search_105 : decode cX12_search 105 = .ok (.iload_n 1, 1) := by decide +kernel
theorem dX12_search_106 : decode cX12_search 106 = .ok (.putfield 332, 3) := by decide +kernel
theorem dX12_search_109 : decode cX12_search 109 = .ok (.aload_n 0, 1) := by decide +kernel
theorem dX12_search_110 : decode cX12_search 110 = .ok (.iload_n 1, 1) := by decide +kernel
theorem dX12_search_111 : decode cX12_search 111 = .ok (.aload_n 0, 1) := by decide +kernel
theorem dX12_search_112 : decode cX12_search 112 = .ok (.getfield 133, 3) := by decide +kernel
theorem dX12_search_115 : decode cX12_search 115 = .ok (.invokevirtual 300, 3) := by decide +kernel
theorem dX12_search_118 : decode cX12_search 118 = .ok (.aload_n 0, 1) := by decide +kernel
theorem dX12_search_119 : decode cX12_search 119 = .ok (.invokevirtual 320, 3) := by decide +kernel
theorem dX12_search_122 : decode cX12_search 122 = .ok (.ireturn, 1) := by decide +kernel
theorem dX12_isAnswered_0 : decode cX12_isAnswered 0 = .ok (.iload_n 1, 1) := by decide +kernel
theorem dX12_isAnswered_1 : decode cX12_isAnswered 1 = .ok (.iconst 1, 1) := by decide +kernel
theorem dX12_isAnswered_2 : decode cX12_isAnswered 2 = .ok (.if_icmp .ne 16, 3) := by decide +kernel
theorem dX12_isAnswered_5 : decode cX12_isAnswered 5 = .ok (.aload_n 0, 1) := by decide +kernel
theorem dX12_isAnswered_6 : decode cX12_isAnswered 6 = .ok (.invokevirtual 313, 3) := by decide +kernel
theorem dX12_isAnswered_9 : decode cX12_isAnswered 9 = .ok (.ifCond .ne 7, 3) := by decide +kernel
theorem dX12_isAnswered_12 : decode cX12_isAnswered 12 = .ok (.iconst 1, 1) := by decide +kernel
theorem dX12_isAnswered_13 : decode cX12_isAnswered 13 = .ok (.goto 4, 3) := by decide +kernel
theorem dX12_isAnswered_16 : decode cX12_isAnswered 16 = .ok (.iconst 0, 1) := by decide +kernel
theorem dX12_isAnswered_17 : decode cX12_isAnswered 17 = .ok (.ireturn, 1) := by decide +kernel
theorem dX12_isAnswered_18 : decode cX12_isAnswered 18 = .ok (.iload_n 1, 1) := by decide +kernel
theorem dX12_isAnswered_19 : decode cX12_isAnswered 19 = .ok (.iconst 2, 1) := by decide +kernel
theorem dX12_isAnswered_20 : decode cX12_isAnswered 20 = .ok (.if_icmp .ne 11, 3) := by decide +kernel
theorem dX12_isAnswered_23 : decode cX12_isAnswered 23 = .ok (.iload_n 2, 1) := by decide +kernel
theorem dX12_isAnswered_24 : decode cX12_isAnswered 24 = .ok (.sipush 10000, 3) := by decide +kernel
theorem dX12_isAnswered_27 : decode cX12_isAnswered 27 = .ok (.idiv, 1) := by decide +kernel
theorem dX12_isAnswered_28 : decode cX12_isAnswered 28 = .ok (.goto 28, 3) := by decide +kernel
theorem dX12_isAnswered_31 : decode cX12_isAnswered 31 = .ok (.iload_n 1, 1) := by decide +kernel
theorem dX12_isAnswered_32 : decode cX12_isAnswered 32 = .ok (.iconst 3, 1) := by decide +kernel
theorem dX12_isAnswered_33 : decode cX12_isAnswered 33 = .ok (.if_icmp .ne 10, 3) := by decide +kernel
theorem dX12_isAnswered_36 : decode cX12_isAnswered 36 = .ok (.iload_n 2, 1) := by decide +kernel
theorem dX12_isAnswered_37 : decode cX12_isAnswered 37 = .ok (.bipush 10, 2) := by decide +kernel
theorem dX12_isAnswered_39 : decode cX12_isAnswered 39 = .ok (.idiv, 1) := by decide +kernel
theorem dX12_isAnswered_40 : decode cX12_isAnswered 40 = .ok (.goto 16, 3) := by decide +kernel
theorem dX12_isAnswered_43 : decode cX12_isAnswered 43 = .ok (.iload_n 1, 1) := by decide +kernel
theorem dX12_isAnswered_44 : decode cX12_isAnswered 44 = .ok (.iconst 4, 1) := by decide +kernel
theorem dX12_isAnswered_45 : decode cX12_isAnswered 45 = .ok (.if_icmp .ne 7, 3) := by decide +kernel
theorem dX12_isAnswered_48 : decode cX12_isAnswered 48 = .ok (.iload_n 2, 1) := by decide +kernel
theorem dX12_isAnswered_49 : decode cX12_isAnswered 49 = .ok (.goto 7, 3) := by decide +kernel
theorem dX12_isAnswered_52 : decode cX12_isAnswered 52 = .ok (.iload_n 2, 1) := by decide +kernel
theorem dX12_isAnswered_53 : decode cX12_isAnswered 53 = .ok (.bipush 100, 2) := by decide +kernel
theorem dX12_isAnswered_55 : decode cX12_isAnswered 55 = .ok (.idiv, 1) := by decide +kernel
theorem dX12_isAnswered_56 : decode cX12_isAnswered 56 = .ok (.istore 4, 2) := by decide +kernel
theorem dX12_isAnswered_58 : decode cX12_isAnswered 58 = .ok (.aload_n 0, 1) := by decide +kernel
theorem dX12_isAnswered_59 : decode cX12_isAnswered 59 = .ok (.getfield 63, 3) := by decide +kernel
theorem dX12_isAnswered_62 : decode cX12_isAnswered 62 = .ok (.iload 4, 2) := by decide +kernel
theorem dX12_isAnswered_64 : decode cX12_isAnswered 64 = .ok (.iaload, 1) := by decide +kernel
theorem dX12_isAnswered_65 : decode cX12_isAnswered 65 = .ok (.istore 5, 2) := by decide +kernel
theorem dX12_isAnswered_67 : decode cX12_isAnswered 67 = .ok (.iload_n 1, 1) := by decide +kernel
theorem dX12_isAnswered_68 : decode cX12_isAnswered 68 = .ok (.iconst 4, 1) := by decide +kernel
theorem dX12_isAnswered_69 : decode cX12_isAnswered 69 = .ok (.if_icmp .ne 15, 3) := by decide +kernel
theorem dX12_isAnswered_72 : decode cX12_isAnswered 72 = .ok (.iload 5, 2) := by decide +kernel
theorem dX12_isAnswered_74 : decode cX12_isAnswered 74 = .ok (.iconst (-1), 1) := by decide +kernel
theorem dX12_isAnswered_75 : decode cX12_isAnswered 75 = .ok (.if_icmp .ne 7, 3) := by decide +kernel
theorem dX12_isAnswered_78 : decode cX12_isAnswered 78 = .ok (.iconst 1, 1) := by decide +kernel
theorem dX12_isAnswered_79 : decode cX12_isAnswered 79 = .ok (.goto 4, 3) := by decide +kernel
theorem dX12_isAnswered_82 : decode cX12_isAnswered 82 = .ok (.iconst 0, 1) := by decide +kernel
theorem dX12_isAnswered_83 : decode cX12_isAnswered 83 = .ok (.ireturn, 1) := by decide +kernel
theorem dX12_isAnswered_84 : decode cX12_isAnswered 84 = .ok (.iload 5, 2) := by decide +kernel
theorem dX12_isAnswered_86 : decode cX12_isAnswered 86 = .ok (.iconst (-1), 1) := by decide +kernel
theorem dX12_isAnswered_87 : decode cX12_isAnswered 87 = .ok (.if_icmp .ne 5, 3) := by decide +kernel
theorem dX12_isAnswered_90 : decode cX12_isAnswered 90 = .ok (.iconst 0, 1) := by decide +kernel
theorem dX12_isAnswered_91 : decode cX12_isAnswered 91 = .ok (.ireturn, 1) := by decide +kernel
theorem dX12_isAnswered_92 : decode cX12_isAnswered 92 = .ok (.iload_n 1, 1) := by decide +kernel
theorem dX12_isAnswered_93 : decode cX12_isAnswered 93 = .ok (.iconst 2, 1) := by decide +kernel
theorem dX12_isAnswered_94 : decode cX12_isAnswered 94 = .ok (.if_icmp .ne 23, 3) := by decide +kernel
theorem dX12_isAnswered_97 : decode cX12_isAnswered 97 = .ok (.iload_n 3, 1) := by decide +kernel
theorem dX12_isAnswered_98 : decode cX12_isAnswered 98 = .ok (.iload 5, 2) := by decide +kernel
theorem dX12_isAnswered_100 : decode cX12_isAnswered 100 = .ok (.invokestatic 126, 3) := by decide +kernel
theorem dX12_isAnswered_103 : decode cX12_isAnswered 103 = .ok (.iload_n 2, 1) := by decide +kernel
theorem dX12_isAnswered_104 : decode cX12_isAnswered 104 = .ok (.sipush 10000, 3) := by decide +kernel
theorem dX12_isAnswered_107 : decode cX12_isAnswered 107 = .ok (.irem, 1) := by decide +kernel
theorem dX12_isAnswered_108 : decode cX12_isAnswered 108 = .ok (.if_icmp .ne 7, 3) := by decide +kernel
theorem dX12_isAnswered_111 : decode cX12_isAnswered 111 = .ok (.iconst 1, 1) := by decide +kernel
theorem dX12_isAnswered_112 : decode cX12_isAnswered 112 = .ok (.goto 4, 3) := by decide +kernel
theorem dX12_isAnswered_115 : decode cX12_isAnswered 115 = .ok (.iconst 0, 1) := by decide +kernel
theorem dX12_isAnswered_116 : decode cX12_isAnswered 116 = .ok (.ireturn, 1) := by decide +kernel
theorem dX12_isAnswered_117 : decode cX12_isAnswered 117 = .ok (.iload_n 1, 1) := by decide +kernel
theorem dX12_isAnswered_118 : decode cX12_isAnswered 118 = .ok (.iconst 3, 1) := by decide +kernel
theorem dX12_isAnswered_119 : decode cX12_isAnswered 119 = .ok (.if_icmp .ne 26, 3) := by decide +kernel
theorem dX12_isAnswered_122 : decode cX12_isAnswered 122 = .ok (.iload_n 3, 1) := by decide +kernel
theorem dX12_isAnswered_123 : decode cX12_isAnswered 123 = .ok (.invokestatic 119, 3) := by decide +kernel
theorem dX12_isAnswered_126 : decode cX12_isAnswered 126 = .ok (.iload 5, 2) := by decide +kernel
theorem dX12_isAnswered_128 : decode cX12_isAnswered 128 = .ok (.iadd, 1) := by decide +kernel
theorem dX12_isAnswered_129 : decode cX12_isAnswered 129 = .ok (.invokestatic 262, 3) := by decide +kernel
theorem dX12_isAnswered_132 : decode cX12_isAnswered 132 = .ok (.iload_n 2, 1) := by decide +kernel
theorem dX12_isAnswered_133 : decode cX12_isAnswered 133 = .ok (.bipush 10, 2) := by decide +kernel
theorem dX12_isAnswered_135 : decode cX12_isAnswered 135 = .ok (.irem, 1) := by decide +kernel
theorem dX12_isAnswered_136 : decode cX12_isAnswered 136 = .ok (.if_icmp .ne 7, 3) := by decide +kernel
theorem dX12_isAnswered_139 : decode cX12_isAnswered 139 = .ok (.iconst 1, 1) := by decide +kernel
theorem dX12_isAnswered_140 : decode cX12_isAnswered 140 = .ok (.goto 4, 3) := by decide +kernel
theorem dX12_isAnswered_143 : decode cX12_isAnswered 143 = .ok (.iconst 0, 1) := by decide +kernel
theorem dX12_isAnswered_144 : decode cX12_isAnswered 144 = .ok (.ireturn, 1) := by decide +kernel
theorem dX12_isAnswered_145 : decode cX12_isAnswered 145 = .ok (.aload_n 0, 1) := by decide +kernel
theorem dX12_isAnswered_146 : decode cX12_isAnswered 146 = .ok (.getfield 63, 3) := by decide +kernel
theorem dX12_isAnswered_149 : decode cX12_isAnswered 149 = .ok (.iload_n 2, 1) := by decide +kernel
theorem dX12_isAnswered_150 : decode cX12_isAnswered 150 = .ok (.bipush 100, 2) := by decide +kernel
theorem dX12_isAnswered_152 : decode cX12_isAnswered 152 = .ok (.irem, 1) := by decide +kernel
theorem dX12_isAnswered_153 : decode cX12_isAnswered 153 = .ok (.iaload, 1) := by decide +kernel
theorem dX12_isAnswered_154 : decode cX12_isAnswered 154 = .ok (.iconst (-1), 1) := by decide +kernel
theorem dX12_isAnswered_155 : decode cX12_isAnswered 155 = .ok (.if_icmp .eq 21, 3) := by decide +kernel
theorem dX12_isAnswered_158 : decode cX12_isAnswered 158 = .ok (.iload 5, 2) := by decide +kernel
theorem dX12_isAnswered_160 : decode cX12_isAnswered 160 = .ok (.aload_n 0, 1) := by decide +kernel
theorem dX12_isAnswered_161 : decode cX12_isAnswered 161 = .ok (.getfield 63, 3) := by decide +kernel
theorem dX12_isAnswered_164 : decode cX12_isAnswered 164 = .ok (.iload_n 2, 1) := by decide +kernel
theorem dX12_isAnswered_165 : decode cX12_isAnswered 165 = .ok (.bipush 100, 2) := by decide +kernel
theorem dX12_isAnswered_167 : decode cX12_isAnswered 167 = .ok (.irem, 1) := by decide +kernel
theorem dX12_isAnswered_168 : decode cX12_isAnswered 168 = .ok (.iaload, 1) := by decide +kernel
theorem dX12_isAnswered_169 : decode cX12_isAnswered 169 = .ok (.if_icmp .ge 7, 3) := by decide +kernel
theorem dX12_isAnswered_172 : decode cX12_isAnswered 172 = .ok (.iconst 1, 1) := by decide +kernel
theorem dX12_isAnswered_173 : decode cX12_isAnswered 173 = .ok (.goto 4, 3) := by decide +kernel
theorem dX12_isAnswered_176 : decode cX12_isAnswered 176 = .ok (.iconst 0, 1) := by decide +kernel
theorem dX12_isAnswered_177 : decode cX12_isAnswered 177 = .ok (.ireturn, 1) := by decide +kernel
theorem dX12_holdsFor_0 : decode cX12_holdsFor 0 = .ok (.aload_n 0, 1) := by decide +kernel
theorem dX12_holdsFor_1 : decode cX12_holdsFor 1 = .ok (.iload_n 1, 1) := by decide +kernel
theorem dX12_holdsFor_2 : decode cX12_holdsFor 2 = .ok (.invokevirtual 310, 3) := by decide +kernel
theorem dX12_holdsFor_5 : decode cX12_holdsFor 5 = .ok (.iconst 0, 1) := by decide +kernel
theorem dX12_holdsFor_6 : decode cX12_holdsFor 6 = .ok (.istore_n 2, 1) := by decide +kernel
theorem dX12_holdsFor_7 : decode cX12_holdsFor 7 = .ok (.iconst 0, 1) := by decide +kernel
theorem dX12_holdsFor_8 : decode cX12_holdsFor 8 = .ok (.istore_n 3, 1) := by decide +kernel
theorem dX12_holdsFor_9 : decode cX12_holdsFor 9 = .ok (.iload_n 3, 1) := by decide +kernel
theorem dX12_holdsFor_10 : decode cX12_holdsFor 10 = .ok (.aload_n 0, 1) := by decide +kernel
theorem dX12_holdsFor_11 : decode cX12_holdsFor 11 = .ok (.getfield 326, 3) := by decide +kernel
theorem dX12_holdsFor_14 : decode cX12_holdsFor 14 = .ok (.if_icmp .ge 151, 3) := by decide +kernel
theorem dX12_holdsFor_17 : decode cX12_holdsFor 17 = .ok (.aload_n 0, 1) := by decide +kernel
theorem dX12_holdsFor_18 : decode cX12_holdsFor 18 = .ok (.getfield 66, 3) := by decide +kernel
theorem dX12_holdsFor_21 : decode cX12_holdsFor 21 = .ok (.iload_n 3, 1) := by decide +kernel
theorem dX12_holdsFor_22 : decode cX12_holdsFor 22 = .ok (.iaload, 1) := by decide +kernel
theorem dX12_holdsFor_23 : decode cX12_holdsFor 23 = .ok (.istore 4, 2) := by decide +kernel
theorem dX12_holdsFor_25 : decode cX12_holdsFor 25 = .ok (.iload 4, 2) := by decide +kernel
theorem dX12_holdsFor_27 : decode cX12_holdsFor 27 = .ok (.iconst 5, 1) := by decide +kernel
theorem dX12_holdsFor_28 : decode cX12_holdsFor 28 = .ok (.if_icmp .gt 28, 3) := by decide +kernel
theorem dX12_holdsFor_31 : decode cX12_holdsFor 31 = .ok (.aload_n 0, 1) := by decide +kernel
theorem dX12_holdsFor_32 : decode cX12_holdsFor 32 = .ok (.getfield 72, 3) := by decide +kernel
theorem dX12_holdsFor_35 : decode cX12_holdsFor 35 = .ok (.iload_n 2, 1) := by decide +kernel
theorem dX12_holdsFor_36 : decode cX12_holdsFor 36 = .ok (.aload_n 0, 1) := by decide +kernel
theorem dX12_holdsFor_37 : decode cX12_holdsFor 37 = .ok (.iload 4, 2) := by decide +kernel
theorem dX12_holdsFor_39 : decode cX12_holdsFor 39 = .ok (.aload_n 0, 1) := by decide +kernel
theorem dX12_holdsFor_40 : decode cX12_holdsFor 40 = .ok (.getfield 69, 3) := by decide +kernel
theorem dX12_holdsFor_43 : decode cX12_holdsFor 43 = .ok (.iload_n 3, 1) := by decide +kernel
theorem dX12_holdsFor_44 : decode cX12_holdsFor 44 = .ok (.iaload, 1) := by decide +kernel
theorem dX12_holdsFor_45 : decode cX12_holdsFor 45 = .ok (.iload_n 1, 1) := by decide +kernel
theorem dX12_holdsFor_46 : decode cX12_holdsFor 46 = .ok (.invokevirtual 335, 3) := by decide +kernel
theorem dX12_holdsFor_49 : decode cX12_holdsFor 49 = .ok (.bastore, 1) := by decide +kernel
theorem dX12_holdsFor_50 : decode cX12_holdsFor 50 = .ok (.iinc 2 1, 3) := by decide +kernel
theorem dX12_holdsFor_53 : decode cX12_holdsFor 53 = .ok (.goto 106, 3) := by decide +kernel
theorem dX12_holdsFor_56 : decode cX12_holdsFor 56 = .ok (.iload 4, 2) := by decide +kernel
theorem dX12_holdsFor_58 : decode cX12_holdsFor 58 = .ok (.bipush 6, 2) := by decide +kernel
theorem dX12_holdsFor_60 : decode cX12_holdsFor 60 = .ok (.if_icmp .ne 30, 3) := by decide +kernel
theorem dX12_holdsFor_63 : decode cX12_holdsFor 63 = .ok (.aload_n 0, 1) := by decide +kernel
theorem dX12_holdsFor_64 : decode cX12_holdsFor 64 = .ok (.getfield 72, 3) := by decide +kernel
theorem dX12_holdsFor_67 : decode cX12_holdsFor 67 = .ok (.iload_n 2, 1) := by decide +kernel
theorem dX12_holdsFor_68 : decode cX12_holdsFor 68 = .ok (.iconst 1, 1) := by decide +kernel
theorem dX12_holdsFor_69 : decode cX12_holdsFor 69 = .ok (.isub, 1) := by decide +kernel
theorem dX12_holdsFor_70 : decode cX12_holdsFor 70 = .ok (.aload_n 0, 1) := by decide +kernel
theorem dX12_holdsFor_71 : decode cX12_holdsFor 71 = .ok (.getfield 72, 3) := by decide +kernel
theorem dX12_holdsFor_74 : decode cX12_holdsFor 74 = .ok (.iload_n 2, 1) := by decide +kernel
theorem dX12_holdsFor_75 : decode cX12_holdsFor 75 = .ok (.iconst 1, 1) := by decide +kernel
theorem dX12_holdsFor_76 : decode cX12_holdsFor 76 = .ok (.isub, 1) := by decide +kernel
theorem dX12_holdsFor_77 : decode cX12_holdsFor 77 = .ok (.baload, 1) := by decide +kernel
theorem dX12_holdsFor_78 : decode cX12_holdsFor 78 = .ok (.ifCond .ne 7, 3) := by decide +kernel
theorem dX12_holdsFor_81 : decode cX12_holdsFor 81 = .ok (.iconst 1, 1) := by decide +kernel
theorem dX12_holdsFor_82 : decode cX12_holdsFor 82 = .ok (.goto 4, 3) := by decide +kernel
theorem dX12_holdsFor_85 : decode cX12_holdsFor 85 = .ok (.iconst 0, 1) := by decide +kernel
theorem dX12_holdsFor_86 : decode cX12_holdsFor 86 = .ok (.bastore, 1) := by decide +kernel
theorem dX12_holdsFor_87 : decode cX12_holdsFor 87 = .ok (.goto 72, 3) := by decide +kernel
theorem dX12_holdsFor_90 : decode cX12_holdsFor 90 = .ok (.iinc 2 (-1), 3) := by decide +kernel
theorem dX12_holdsFor_93 : decode cX12_holdsFor 93 = .ok (.aload_n 0, 1) := by decide +kernel
theorem dX12_holdsFor_94 : decode cX12_holdsFor 94 = .ok (.getfield 72, 3) := by decide +kernel
theorem dX12_holdsFor_97 : decode cX12_holdsFor 97 = .ok (.iload_n 2, 1) := by decide +kernel
theorem dX12_holdsFor_98 : decode cX12_holdsFor 98 = .ok (.iconst 1, 1) := by decide +kernel
theorem dX12_holdsFor_99 : decode cX12_holdsFor 99 = .ok (.isub, 1) := by decide +kernel
theorem dX12_holdsFor_100 : decode cX12_holdsFor 100 = .ok (.baload, 1) := by decide +kernel
theorem dX12_holdsFor_101 : decode cX12_holdsFor 101 = .ok (.istore 5, 2) := by decide +kernel
theorem dX12_holdsFor_103 : decode cX12_holdsFor 103 = .ok (.aload_n 0, 1) := by decide +kernel
theorem dX12_holdsFor_104 : decode cX12_holdsFor 104 = .ok (.getfield 72, 3) := by decide +kernel
theorem dX12_holdsFor_107 : decode cX12_holdsFor 107 = .ok (.iload_n 2, 1) := by decide +kernel
theorem dX12_holdsFor_108 : decode cX12_holdsFor 108 = .ok (.baload, 1) := by decide +kernel
theorem dX12_holdsFor_109 : decode cX12_holdsFor 109 = .ok (.istore 6, 2) := by decide +kernel
theorem dX12_holdsFor_111 : decode cX12_holdsFor 111 = .ok (.aload_n 0, 1) := by decide +kernel
theorem dX12_holdsFor_112 : decode cX12_holdsFor 112 = .ok (.getfield 72, 3) := by decide +kernel
theorem dX12_holdsFor_115 : decode cX12_holdsFor 115 = .ok (.iload_n 2, 1) := by decide +kernel
theorem dX12_holdsFor_116 : decode cX12_holdsFor 116 = .ok (.iconst 1, 1) := by decide +kernel
theorem dX12_holdsFor_117 : decode cX12_holdsFor 117 = .ok (.isub, 1) := by decide +kernel
theorem dX12_holdsFor_118 : decode cX12_holdsFor 118 = .ok (.iload 4, 2) := by decide +kernel
theorem dX12_holdsFor_120 : decode cX12_holdsFor 120 = .ok (.bipush 7, 2) := by decide +kernel
theorem dX12_holdsFor_122 : decode cX12_holdsFor 122 = .ok (.if_icmp .ne 21, 3) := by decide +kernel
theorem dX12_holdsFor_125 : decode cX12_holdsFor 125 = .ok (.iload 5, 2) := by decide +kernel
theorem dX12_holdsFor_127 : decode cX12_holdsFor 127 = .ok (.ifCond .eq 12, 3) := by decide +kernel
theorem dX12_holdsFor_130 : decode cX12_holdsFor 130 = .ok (.iload 6, 2) := by decide +kernel
theorem dX12_holdsFor_132 : decode cX12_holdsFor 132 = .ok (.ifCond .eq 7, 3) := by decide +kernel
theorem dX12_holdsFor_135 : decode cX12_holdsFor 135 = .ok (.iconst 1, 1) := by decide +kernel
theorem dX12_holdsFor_136 : decode cX12_holdsFor 136 = .ok (.goto 22, 3) := by decide +kernel
theorem dX12_holdsFor_139 : decode cX12_holdsFor 139 = .ok (.iconst 0, 1) := by decide +kernel
theorem dX12_holdsFor_140 : decode cX12_holdsFor 140 = .ok (.goto 18, 3) := by decide +kernel
theorem dX12_holdsFor_143 : decode cX12_holdsFor 143 = .ok (.iload 5, 2) := by decide +kernel
theorem dX12_holdsFor_145 : decode cX12_holdsFor 145 = .ok (.ifCond .ne 8, 3) := by decide +kernel
theorem dX12_holdsFor_148 : decode cX12_holdsFor 148 = .ok (.iload 6, 2) := by decide +kernel
theorem dX12_holdsFor_150 : decode cX12_holdsFor 150 = .ok (.ifCond .eq 7, 3) := by decide +kernel
theorem dX12_holdsFor_153 : decode cX12_holdsFor 153 = .ok (.iconst 1, 1) := by decide +kernel
theorem dX12_holdsFor_154 : decode cX12_holdsFor 154 = .ok (.goto 4, 3) := by decide +kernel
theorem dX12_holdsFor_157 : decode cX12_holdsFor 157 = .ok (.iconst 0, 1) := by decide +kernel
theorem dX12_holdsFor_158 : decode cX12_holdsFor 158 = .ok (.bastore, 1) := by decide +kernel
theorem dX12_holdsFor_159 : decode cX12_holdsFor 159 = .ok (.iinc 3 1, 3) := by decide +kernel
theorem dX12_holdsFor_162 : decode cX12_holdsFor 162 = .ok (.goto (-153), 3) := by decide +kernel
theorem dX12_holdsFor_165 : decode cX12_holdsFor 165 = .ok (.aload_n 0, 1) := by decide +kernel
theorem dX12_holdsFor_166 : decode cX12_holdsFor 166 = .ok (.getfield 72, 3) := by decide +kernel
theorem dX12_holdsFor_169 : decode cX12_holdsFor 169 = .ok (.iconst 0, 1) := by decide +kernel
theorem dX12_holdsFor_170 : decode cX12_holdsFor 170 = .ok (.baload, 1) := by decide +kernel
theorem dX12_holdsFor_171 : decode cX12_holdsFor 171 = .ok (.ireturn, 1) := by decide +kernel
theorem dX12_goOn_0 : decode cX12_goOn 0 = .ok (.aload_n 0, 1) := by decide +kernel
theorem dX12_goOn_1 : decode cX12_goOn 1 = .ok (.iload_n 1, 1) := by decide +kernel
theorem dX12_goOn_2 : decode cX12_goOn 2 = .ok (.iconst 1, 1) := by decide +kernel
theorem dX12_goOn_3 : decode cX12_goOn 3 = .ok (.ldc_w 338, 3) := by decide +kernel
theorem dX12_goOn_6 : decode cX12_goOn 6 = .ok (.invokestatic 115, 3) := by decide +kernel
theorem dX12_goOn_9 : decode cX12_goOn 9 = .ok (.ifCond .ne 7, 3) := by decide +kernel
theorem dX12_goOn_12 : decode cX12_goOn 12 = .ok (.iconst 1, 1) := by decide +kernel
theorem dX12_goOn_13 : decode cX12_goOn 13 = .ok (.goto 15, 3) := by decide +kernel
theorem dX12_goOn_16 : decode cX12_goOn 16 = .ok (.aload_n 0, 1) := by decide +kernel
theorem dX12_goOn_17 : decode cX12_goOn 17 = .ok (.getfield 329, 3) := by decide +kernel
theorem dX12_goOn_20 : decode cX12_goOn 20 = .ok (.ifCond .eq 7, 3) := by decide +kernel
theorem dX12_goOn_23 : decode cX12_goOn 23 = .ok (.iconst 0, 1) := by decide +kernel
theorem dX12_goOn_24 : decode cX12_goOn 24 = .ok (.goto 4, 3) := by decide +kernel
theorem dX12_goOn_27 : decode cX12_goOn 27 = .ok (.iconst 2, 1) := by decide +kernel
theorem dX12_goOn_28 : decode cX12_goOn 28 = .ok (.putfield 93, 3) := by decide +kernel
theorem dX12_goOn_31 : decode cX12_goOn 31 = .ok (.aload_n 0, 1) := by decide +kernel
theorem dX12_goOn_32 : decode cX12_goOn 32 = .ok (.getfield 93, 3) := by decide +kernel
theorem dX12_goOn_35 : decode cX12_goOn 35 = .ok (.ifCond .le 5, 3) := by decide +kernel
theorem dX12_goOn_38 : decode cX12_goOn 38 = .ok (.iconst 0, 1) := by decide +kernel
theorem dX12_goOn_39 : decode cX12_goOn 39 = .ok (.ireturn, 1) := by decide +kernel
theorem dX12_goOn_40 : decode cX12_goOn 40 = .ok (.iload_n 1, 1) := by decide +kernel
theorem dX12_goOn_41 : decode cX12_goOn 41 = .ok (.istore_n 2, 1) := by decide +kernel
theorem dX12_goOn_42 : decode cX12_goOn 42 = .ok (.aload_n 0, 1) := by decide +kernel
theorem dX12_goOn_43 : decode cX12_goOn 43 = .ok (.getfield 332, 3) := by decide +kernel
theorem dX12_goOn_46 : decode cX12_goOn 46 = .ok (.sipush 400, 3) := by decide +kernel
theorem dX12_goOn_49 : decode cX12_goOn 49 = .ok (.if_icmp .ge 76, 3) := by decide +kernel
theorem dX12_goOn_52 : decode cX12_goOn 52 = .ok (.aload_n 0, 1) := by decide +kernel
theorem dX12_goOn_53 : decode cX12_goOn 53 = .ok (.aload_n 0, 1) := by decide +kernel
theorem dX12_goOn_54 : decode cX12_goOn 54 = .ok (.getfield 332, 3) := by decide +kernel
theorem dX12_goOn_57 : decode cX12_goOn 57 = .ok (.aload_n 0, 1) := by decide +kernel
theorem dX12_goOn_58 : decode cX12_goOn 58 = .ok (.getfield 133, 3) := by decide +kernel
theorem dX12_goOn_61 : decode cX12_goOn 61 = .ok (.invokevirtual 300, 3) := by decide +kernel
theorem dX12_goOn_64 : decode cX12_goOn 64 = .ok (.aload_n 0, 1) := by decide +kernel
theorem dX12_goOn_65 : decode cX12_goOn 65 = .ok (.invokevirtual 320, 3) := by decide +kernel
theorem dX12_goOn_68 : decode cX12_goOn 68 = .ok (.istore_n 3, 1) := by decide +kernel
theorem dX12_goOn_69 : decode cX12_goOn 69 = .ok (.iload_n 3, 1) := by decide +kernel
theorem dX12_goOn_70 : decode cX12_goOn 70 = .ok (.iload_n 2, 1) := by decide +kernel
theorem dX12_goOn_71 : decode cX12_goOn 71 = .ok (.if_icmp .le 6, 3) := by decide +kernel
theorem dX12_goOn_74 : decode cX12_goOn 74 = .ok (.bipush (-2), 2) := by decide +kernel
theorem dX12_goOn_76 : decode cX12_goOn 76 = .ok (.ireturn, 1) := by decide +kernel
theorem dX12_goOn_77 : decode cX12_goOn 77 = .ok (.iload_n 2, 1) := by decide +kernel
theorem dX12_goOn_78 : decode cX12_goOn 78 = .ok (.iload_n 3, 1) := by decide +kernel
theorem dX12_goOn_79 : decode cX12_goOn 79 = .ok (.isub, 1) := by decide +kernel
theorem dX12_goOn_80 : decode cX12_goOn 80 = .ok (.istore_n 2, 1) := by decide +kernel
theorem dX12_goOn_81 : decode cX12_goOn 81 = .ok (.aload_n 0, 1) := by decide +kernel
theorem dX12_goOn_82 : decode cX12_goOn 82 = .ok (.dup, 1) := by decide +kernel
theorem dX12_goOn_83 : decode cX12_goOn 83 = .ok (.getfield 339, 3) := by decide +kernel
theorem dX12_goOn_86 : decode cX12_goOn 86 = .ok (.iload_n 3, 1) := by decide +kernel
theorem dX12_goOn_87 : decode cX12_goOn 87 = .ok (.i2l, 1) := by decide +kernel
theorem dX12_goOn_88 : decode cX12_goOn 88 = .ok (.ladd, 1) := by decide +kernel
theorem dX12_goOn_89 : decode cX12_goOn 89 = .ok (.putfield 339, 3) := by decide +kernel
theorem dX12_goOn_92 : decode cX12_goOn 92 = .ok (.aload_n 0, 1) := by decide +kernel
theorem dX12_goOn_93 : decode cX12_goOn 93 = .ok (.dup, 1) := by decide +kernel
theorem dX12_goOn_94 : decode cX12_goOn 94 = .ok (.getfield 332, 3) := by decide +kernel
theorem dX12_goOn_97 : decode cX12_goOn 97 = .ok (.iconst 1, 1) := by decide +kernel
theorem dX12_goOn_98 : decode cX12_goOn 98 = .ok (.iadd, 1) := by decide +kernel
theorem dX12_goOn_99 : decode cX12_goOn 99 = .ok (.putfield 332, 3) := by decide +kernel
theorem dX12_goOn_102 : decode cX12_goOn 102 = .ok (.aload_n 0, 1) := by decide +kernel
theorem dX12_goOn_103 : decode cX12_goOn 103 = .ok (.aload_n 0, 1) := by decide +kernel
theorem dX12_goOn_104 : decode cX12_goOn 104 = .ok (.getfield 332, 3) := by decide +kernel
theorem dX12_goOn_107 : decode cX12_goOn 107 = .ok (.iconst 1, 1) := by decide +kernel
theorem dX12_goOn_108 : decode cX12_goOn 108 = .ok (.isub, 1) := by decide +kernel
theorem dX12_goOn_109 : decode cX12_goOn 109 = .ok (.invokevirtual 343, 3) := by decide +kernel
theorem dX12_goOn_112 : decode cX12_goOn 112 = .ok (.ifCond .eq 10, 3) := by decide +kernel
theorem dX12_goOn_115 : decode cX12_goOn 115 = .ok (.aload_n 0, 1) := by decide +kernel
theorem dX12_goOn_116 : decode cX12_goOn 116 = .ok (.getfield 332, 3) := by decide +kernel
theorem dX12_goOn_119 : decode cX12_goOn 119 = .ok (.iconst 1, 1) := by decide +kernel
theorem dX12_goOn_120 : decode cX12_goOn 120 = .ok (.isub, 1) := by decide +kernel
theorem dX12_goOn_121 : decode cX12_goOn 121 = .ok (.ireturn, 1) := by decide +kernel
theorem dX12_goOn_122 : decode cX12_goOn 122 = .ok (.goto (-80), 3) := by decide +kernel
theorem dX12_goOn_125 : decode cX12_goOn 125 = .ok (.iconst (-1), 1) := by decide +kernel
theorem dX12_goOn_126 : decode cX12_goOn 126 = .ok (.ireturn, 1) := by decide +kernel
theorem dX12_spent_0 : decode cX12_spent 0 = .ok (.aload_n 0, 1) := by decide +kernel
theorem dX12_spent_1 : decode cX12_spent 1 = .ok (.iconst 0, 1) := by decide +kernel
theorem dX12_spent_2 : decode cX12_spent 2 = .ok (.putfield 93, 3) := by decide +kernel
theorem dX12_spent_5 : decode cX12_spent 5 = .ok (.aload_n 0, 1) := by decide +kernel
theorem dX12_spent_6 : decode cX12_spent 6 = .ok (.getfield 339, 3) := by decide +kernel
theorem dX12_spent_9 : decode cX12_spent 9 = .ok (.lreturn, 1) := by decide +kernel
theorem dX12_bells_0 : decode cX12_bells 0 = .ok (.aload_n 0, 1) := by decide +kernel
theorem dX12_bells_1 : decode cX12_bells 1 = .ok (.iload_n 1, 1) := by decide +kernel
theorem dX12_bells_2 : decode cX12_bells 2 = .ok (.iconst 0, 1) := by decide +kernel
theorem dX12_bells_3 : decode cX12_bells 3 = .ok (.iconst 5, 1) := by decide +kernel
theorem dX12_bells_4 : decode cX12_bells 4 = .ok (.invokestatic 115, 3) := by decide +kernel
theorem dX12_bells_7 : decode cX12_bells 7 = .ok (.ifCond .ne 7, 3) := by decide +kernel
theorem dX12_bells_10 : decode cX12_bells 10 = .ok (.iconst 1, 1) := by decide +kernel
theorem dX12_bells_11 : decode cX12_bells 11 = .ok (.goto 18, 3) := by decide +kernel
theorem dX12_bells_14 : decode cX12_bells 14 = .ok (.iload_n 2, 1) := by decide +kernel
theorem dX12_bells_15 : decode cX12_bells 15 = .ok (.iconst 0, 1) := by decide +kernel
theorem dX12_bells_16 : decode cX12_bells 16 = .ok (.bipush 6, 2) := by decide +kernel
theorem dX12_bells_18 : decode cX12_bells 18 = .ok (.invokestatic 115, 3) := by decide +kernel
theorem dX12_bells_21 : decode cX12_bells 21 = .ok (.ifCond .eq 7, 3) := by decide +kernel
theorem dX12_bells_24 : decode cX12_bells 24 = .ok (.iconst 0, 1) := by decide +kernel
theorem dX12_bells_25 : decode cX12_bells 25 = .ok (.goto 4, 3) := by decide +kernel
theorem dX12_bells_28 : decode cX12_bells 28 = .ok (.iconst 2, 1) := by decide +kernel
theorem dX12_bells_29 : decode cX12_bells 29 = .ok (.putfield 93, 3) := by decide +kernel
theorem dX12_bells_32 : decode cX12_bells 32 = .ok (.aload_n 0, 1) := by decide +kernel
theorem dX12_bells_33 : decode cX12_bells 33 = .ok (.getfield 93, 3) := by decide +kernel
theorem dX12_bells_36 : decode cX12_bells 36 = .ok (.ifCond .le 5, 3) := by decide +kernel
theorem dX12_bells_39 : decode cX12_bells 39 = .ok (.iconst 0, 1) := by decide +kernel
theorem dX12_bells_40 : decode cX12_bells 40 = .ok (.ireturn, 1) := by decide +kernel
theorem dX12_bells_41 : decode cX12_bells 41 = .ok (.aload_n 0, 1) := by decide +kernel
theorem dX12_bells_42 : decode cX12_bells 42 = .ok (.getfield 75, 3) := by decide +kernel
theorem dX12_bells_45 : decode cX12_bells 45 = .ok (.iload_n 1, 1) := by decide +kernel
theorem dX12_bells_46 : decode cX12_bells 46 = .ok (.iaload, 1) := by decide +kernel
theorem dX12_bells_47 : decode cX12_bells 47 = .ok (.istore_n 3, 1) := by decide +kernel
theorem dX12_bells_48 : decode cX12_bells 48 = .ok (.aload_n 0, 1) := by decide +kernel
theorem dX12_bells_49 : decode cX12_bells 49 = .ok (.getfield 75, 3) := by decide +kernel
theorem dX12_bells_52 : decode cX12_bells 52 = .ok (.iload_n 1, 1) := by decide +kernel
theorem dX12_bells_53 : decode cX12_bells 53 = .ok (.iload_n 2, 1) := by decide +kernel
theorem dX12_bells_54 : decode cX12_bells 54 = .ok (.iastore, 1) := by decide +kernel
theorem dX12_bells_55 : decode cX12_bells 55 = .ok (.iload_n 3, 1) := by decide +kernel
theorem dX12_bells_56 : decode cX12_bells 56 = .ok (.ireturn, 1) := by decide +kernel
theorem dX12_ringer_0 : decode cX12_ringer 0 = .ok (.aload_n 0, 1) := by decide +kernel
theorem dX12_ringer_1 : decode cX12_ringer 1 = .ok (.iload_n 1, 1) := by decide +kernel
theorem dX12_ringer_2 : decode cX12_ringer 2 = .ok (.iconst 0, 1) := by decide +kernel
theorem dX12_ringer_3 : decode cX12_ringer 3 = .ok (.iconst 5, 1) := by decide +kernel
theorem dX12_ringer_4 : decode cX12_ringer 4 = .ok (.invokestatic 115, 3) := by decide +kernel
theorem dX12_ringer_7 : decode cX12_ringer 7 = .ok (.ifCond .ne 7, 3) := by decide +kernel
theorem dX12_ringer_10 : decode cX12_ringer 10 = .ok (.iconst 1, 1) := by decide +kernel
theorem dX12_ringer_11 : decode cX12_ringer 11 = .ok (.goto 31, 3) := by decide +kernel
theorem dX12_ringer_14 : decode cX12_ringer 14 = .ok (.iload_n 2, 1) := by decide +kernel
theorem dX12_ringer_15 : decode cX12_ringer 15 = .ok (.iconst 0, 1) := by decide +kernel
theorem dX12_ringer_16 : decode cX12_ringer 16 = .ok (.bipush 6, 2) := by decide +kernel
theorem dX12_ringer_18 : decode cX12_ringer 18 = .ok (.invokestatic 115, 3) := by decide +kernel
theorem dX12_ringer_21 : decode cX12_ringer 21 = .ok (.ifCond .ne 7, 3) := by decide +kernel
theorem dX12_ringer_24 : decode cX12_ringer 24 = .ok (.iconst 2, 1) := by decide +kernel
theorem dX12_ringer_25 : decode cX12_ringer 25 = .ok (.goto 17, 3) := by decide +kernel
theorem dX12_ringer_28 : decode cX12_ringer 28 = .ok (.aload_n 0, 1) := by decide +kernel
theorem dX12_ringer_29 : decode cX12_ringer 29 = .ok (.getfield 346, 3) := by decide +kernel
theorem dX12_ringer_32 : decode cX12_ringer 32 = .ok (.bipush 24, 2) := by decide +kernel
theorem dX12_ringer_34 : decode cX12_ringer 34 = .ok (.if_icmp .ne 7, 3) := by decide +kernel
theorem dX12_ringer_37 : decode cX12_ringer 37 = .ok (.iconst 3, 1) := by decide +kernel
theorem dX12_ringer_38 : decode cX12_ringer 38 = .ok (.goto 4, 3) := by decide +kernel
theorem dX12_ringer_41 : decode cX12_ringer 41 = .ok (.iconst 0, 1) := by decide +kernel
theorem dX12_ringer_42 : decode cX12_ringer 42 = .ok (.putfield 93, 3) := by decide +kernel
theorem dX12_ringer_45 : decode cX12_ringer 45 = .ok (.aload_n 0, 1) := by decide +kernel
theorem dX12_ringer_46 : decode cX12_ringer 46 = .ok (.getfield 93, 3) := by decide +kernel
theorem dX12_ringer_49 : decode cX12_ringer 49 = .ok (.ifCond .le 5, 3) := by decide +kernel
theorem dX12_ringer_52 : decode cX12_ringer 52 = .ok (.iconst 0, 1) := by decide +kernel
theorem dX12_ringer_53 : decode cX12_ringer 53 = .ok (.ireturn, 1) := by decide +kernel
theorem dX12_ringer_54 : decode cX12_ringer 54 = .ok (.aload_n 0, 1) := by decide +kernel
theorem dX12_ringer_55 : decode cX12_ringer 55 = .ok (.getfield 78, 3) := by decide +kernel
theorem dX12_ringer_58 : decode cX12_ringer 58 = .ok (.aload_n 0, 1) := by decide +kernel
theorem dX12_ringer_59 : decode cX12_ringer 59 = .ok (.getfield 346, 3) := by decide +kernel
theorem dX12_ringer_62 : decode cX12_ringer 62 = .ok (.iload_n 1, 1) := by decide +kernel
theorem dX12_ringer_63 : decode cX12_ringer 63 = .ok (.iastore, 1) := by decide +kernel
theorem dX12_ringer_64 : decode cX12_ringer 64 = .ok (.aload_n 0, 1) := by decide +kernel
theorem dX12_ringer_65 : decode cX12_ringer 65 = .ok (.getfield 81, 3) := by decide +kernel
theorem dX12_ringer_68 : decode cX12_ringer 68 = .ok (.aload_n 0, 1) := by decide +kernel
theorem dX12_ringer_69 : decode cX12_ringer 69 = .ok (.getfield 346, 3) := by decide +kernel
theorem dX12_ringer_72 : decode cX12_ringer 72 = .ok (.iload_n 2, 1) := by decide +kernel
theorem dX12_ringer_73 : decode cX12_ringer 73 = .ok (.iastore, 1) := by decide +kernel
theorem dX12_ringer_74 : decode cX12_ringer 74 = .ok (.aload_n 0, 1) := by decide +kernel
theorem dX12_ringer_75 : decode cX12_ringer 75 = .ok (.dup, 1) := by decide +kernel
theorem dX12_ringer_76 : decode cX12_ringer 76 = .ok (.getfield 346, 3) := by decide +kernel
theorem dX12_ringer_79 : decode cX12_ringer 79 = .ok (.iconst 1, 1) := by decide +kernel
theorem dX12_ringer_80 : decode cX12_ringer 80 = .ok (.iadd, 1) := by decide +kernel
theorem dX12_ringer_81 : decode cX12_ringer 81 = .ok (.putfield 346, 3) := by decide +kernel
theorem dX12_ringer_84 : decode cX12_ringer 84 = .ok (.aload_n 0, 1) := by decide +kernel
theorem dX12_ringer_85 : decode cX12_ringer 85 = .ok (.getfield 346, 3) := by decide +kernel
theorem dX12_ringer_88 : decode cX12_ringer 88 = .ok (.iconst 1, 1) := by decide +kernel
theorem dX12_ringer_89 : decode cX12_ringer 89 = .ok (.isub, 1) := by decide +kernel
theorem dX12_ringer_90 : decode cX12_ringer 90 = .ok (.ireturn, 1) := by decide +kernel
theorem dX12_bestRinger_0 : decode cX12_bestRinger 0 = .ok (.iconst (-1), 1) := by decide +kernel
theorem dX12_bestRinger_1 : decode cX12_bestRinger 1 = .ok (.istore_n 3, 1) := by decide +kernel
theorem dX12_bestRinger_2 : decode cX12_bestRinger 2 = .ok (.aload_n 0, 1) := by decide +kernel
theorem dX12_bestRinger_3 : decode cX12_bestRinger 3 = .ok (.getfield 346, 3) := by decide +kernel
theorem dX12_bestRinger_6 : decode cX12_bestRinger 6 = .ok (.iconst 1, 1) := by decide +kernel
theorem dX12_bestRinger_7 : decode cX12_bestRinger 7 = .ok (.isub, 1) := by decide +kernel
theorem dX12_bestRinger_8 : decode cX12_bestRinger 8 = .ok (.istore 4, 2) := by decide +kernel
theorem dX12_bestRinger_10 : decode cX12_bestRinger 10 = .ok (.iload 4, 2) := by decide +kernel
theorem dX12_bestRinger_12 : decode cX12_bestRinger 12 = .ok (.ifCond .lt 98, 3) := by decide +kernel
theorem dX12_bestRinger_15 : decode cX12_bestRinger 15 = .ok (.aload_n 0, 1) := by decide +kernel
theorem dX12_bestRinger_16 : decode cX12_bestRinger 16 = .ok (.getfield 78, 3) := by decide +kernel
theorem dX12_bestRinger_19 : decode cX12_bestRinger 19 = .ok (.iload 4, 2) := by decide +kernel
theorem dX12_bestRinger_21 : decode cX12_bestRinger 21 = .ok (.iaload, 1) := by decide +kernel
theorem dX12_bestRinger_22 : decode cX12_bestRinger 22 = .ok (.iload_n 1, 1) := by decide +kernel
theorem dX12_bestRinger_23 : decode cX12_bestRinger 23 = .ok (.if_icmp .ne 36, 3) := by decide +kernel
theorem dX12_bestRinger_26 : decode cX12_bestRinger 26 = .ok (.aload_n 0, 1) := by decide +kernel
theorem dX12_bestRinger_27 : decode cX12_bestRinger 27 = .ok (.getfield 84, 3) := by decide +kernel
theorem dX12_bestRinger_30 : decode cX12_bestRinger 30 = .ok (.iload 4, 2) := by decide +kernel
theorem dX12_bestRinger_32 : decode cX12_bestRinger 32 = .ok (.iaload, 1) := by decide +kernel
theorem dX12_bestRinger_33 : decode cX12_bestRinger 33 = .ok (.ifCond .eq 22, 3) := by decide +kernel
theorem dX12_bestRinger_36 : decode cX12_bestRinger 36 = .ok (.iload_n 2, 1) := by decide +kernel
theorem dX12_bestRinger_37 : decode cX12_bestRinger 37 = .ok (.aload_n 0, 1) := by decide +kernel
theorem dX12_bestRinger_38 : decode cX12_bestRinger 38 = .ok (.getfield 87, 3) := by decide +kernel
theorem dX12_bestRinger_41 : decode cX12_bestRinger 41 = .ok (.iload 4, 2) := by decide +kernel
theorem dX12_bestRinger_43 : decode cX12_bestRinger 43 = .ok (.iaload, 1) := by decide +kernel
theorem dX12_bestRinger_44 : decode cX12_bestRinger 44 = .ok (.isub, 1) := by decide +kernel
theorem dX12_bestRinger_45 : decode cX12_bestRinger 45 = .ok (.aload_n 0, 1) := by decide +kernel
theorem dX12_bestRinger_46 : decode cX12_bestRinger 46 = .ok (.getfield 81, 3) := by decide +kernel
theorem dX12_bestRinger_49 : decode cX12_bestRinger 49 = .ok (.iload 4, 2) := by decide +kernel
theorem dX12_bestRinger_51 : decode cX12_bestRinger 51 = .ok (.iaload, 1) := by decide +kernel
theorem dX12_bestRinger_52 : decode cX12_bestRinger 52 = .ok (.if_icmp .le 7, 3) := by decide +kernel
theorem dX12_bestRinger_55 : decode cX12_bestRinger 55 = .ok (.iconst 1, 1) := by decide +kernel
theorem dX12_bestRinger_56 : decode cX12_bestRinger 56 = .ok (.goto 4, 3) := by decide +kernel
theorem dX12_bestRinger_59 : decode cX12_bestRinger 59 = .ok (.iconst 0, 1) := by decide +kernel
theorem dX12_bestRinger_60 : decode cX12_bestRinger 60 = .ok (.istore 5, 2) := by decide +kernel
theorem dX12_bestRinger_62 : decode cX12_bestRinger 62 = .ok (.iload 5, 2) := by decide +kernel
theorem dX12_bestRinger_64 : decode cX12_bestRinger 64 = .ok (.ifCond .eq 38, 3) := by decide +kernel
theorem dX12_bestRinger_67 : decode cX12_bestRinger 67 = .ok (.iload_n 3, 1) := by decide +kernel
theorem dX12_bestRinger_68 : decode cX12_bestRinger 68 = .ok (.iconst (-1), 1) := by decide +kernel
theorem dX12_bestRinger_69 : decode cX12_bestRinger 69 = .ok (.if_icmp .eq 28, 3) := by decide +kernel
theorem dX12_bestRinger_72 : decode cX12_bestRinger 72 = .ok (.aload_n 0, 1) := by decide +kernel
theorem dX12_bestRinger_73 : decode cX12_bestRinger 73 = .ok (.getfield 84, 3) := by decide +kernel
theorem dX12_bestRinger_76 : decode cX12_bestRinger 76 = .ok (.iload 4, 2) := by decide +kernel
theorem dX12_bestRinger_78 : decode cX12_bestRinger 78 = .ok (.iaload, 1) := by decide +kernel
theorem dX12_bestRinger_79 : decode cX12_bestRinger 79 = .ok (.aload_n 0, 1) := by decide +kernel
theorem dX12_bestRinger_80 : decode cX12_bestRinger 80 = .ok (.getfield 84, 3) := by decide +kernel
theorem dX12_bestRinger_83 : decode cX12_bestRinger 83 = .ok (.iload_n 3, 1) := by decide +kernel
theorem dX12_bestRinger_84 : decode cX12_bestRinger 84 = .ok (.iconst (-1), 1) := by decide +kernel
theorem dX12_bestRinger_85 : decode cX12_bestRinger 85 = .ok (.if_icmp .ne 7, 3) := by decide +kernel
theorem dX12_bestRinger_88 : decode cX12_bestRinger 88 = .ok (.iconst 0, 1) := by decide +kernel
theorem dX12_bestRinger_89 : decode cX12_bestRinger 89 = .ok (.goto 4, 3) := by decide +kernel
theorem dX12_bestRinger_92 : decode cX12_bestRinger 92 = .ok (.iload_n 3, 1) := by decide +kernel
theorem dX12_bestRinger_93 : decode cX12_bestRinger 93 = .ok (.iaload, 1) := by decide +kernel
theorem dX12_bestRinger_94 : decode cX12_bestRinger 94 = .ok (.if_icmp .gt 8, 3) := by decide +kernel
theorem dX12_bestRinger_97 : decode cX12_bestRinger 97 = .ok (.iload 4, 2) := by decide +kernel
theorem dX12_bestRinger_99 : decode cX12_bestRinger 99 = .ok (.goto 4, 3) := by decide +kernel
theorem dX12_bestRinger_102 : decode cX12_bestRinger 102 = .ok (.iload_n 3, 1) := by decide +kernel
theorem dX12_bestRinger_103 : decode cX12_bestRinger 103 = .ok (.istore_n 3, 1) := by decide +kernel
theorem dX12_bestRinger_104 : decode cX12_bestRinger 104 = .ok (.iinc 4 (-1), 3) := by decide +kernel
theorem dX12_bestRinger_107 : decode cX12_bestRinger 107 = .ok (.goto (-97), 3) := by decide +kernel
theorem dX12_bestRinger_110 : decode cX12_bestRinger 110 = .ok (.iload_n 3, 1) := by decide +kernel
theorem dX12_bestRinger_111 : decode cX12_bestRinger 111 = .ok (.ireturn, 1) := by decide +kernel
theorem dX12_peal_0 : decode cX12_peal 0 = .ok (.iconst 0, 1) := by decide +kernel
theorem dX12_peal_1 : decode cX12_peal 1 = .ok (.istore_n 3, 1) := by decide +kernel
theorem dX12_peal_2 : decode cX12_peal 2 = .ok (.iload_n 3, 1) := by decide +kernel
theorem dX12_peal_3 : decode cX12_peal 3 = .ok (.bipush 6, 2) := by decide +kernel
theorem dX12_peal_5 : decode cX12_peal 5 = .ok (.if_icmp .ge 123, 3) := by decide +kernel
theorem dX12_peal_8 : decode cX12_peal 8 = .ok (.aload_n 0, 1) := by decide +kernel
theorem dX12_peal_9 : decode cX12_peal 9 = .ok (.getfield 29, 3) := by decide +kernel
theorem dX12_peal_12 : decode cX12_peal 12 = .ok (.iload_n 1, 1) := by decide +kernel
theorem dX12_peal_13 : decode cX12_peal 13 = .ok (.iaload, 1) := by decide +kernel
theorem dX12_peal_14 : decode cX12_peal 14 = .ok (.aload_n 0, 1) := by decide +kernel
theorem dX12_peal_15 : decode cX12_peal 15 = .ok (.getfield 75, 3) := by decide +kernel
theorem dX12_peal_18 : decode cX12_peal 18 = .ok (.iload_n 3, 1) := by decide +kernel
theorem dX12_peal_19 : decode cX12_peal 19 = .ok (.iaload, 1) := by decide +kernel
theorem dX12_peal_20 : decode cX12_peal 20 = .ok (.if_icmp .ge 12, 3) := by decide +kernel
theorem dX12_peal_23 : decode cX12_peal 23 = .ok (.aload_n 0, 1) := by decide +kernel
theorem dX12_peal_24 : decode cX12_peal 24 = .ok (.getfield 29, 3) := by decide +kernel
theorem dX12_peal_27 : decode cX12_peal 27 = .ok (.iload_n 1, 1) := by decide +kernel
theorem dX12_peal_28 : decode cX12_peal 28 = .ok (.iaload, 1) := by decide +kernel
theorem dX12_peal_29 : decode cX12_peal 29 = .ok (.goto 9, 3) := by decide +kernel
theorem dX12_peal_32 : decode cX12_peal 32 = .ok (.aload_n 0, 1) := by decide +kernel
theorem dX12_peal_33 : decode cX12_peal 33 = .ok (.getfield 75, 3) := by decide +kernel
theorem dX12_peal_36 : decode cX12_peal 36 = .ok (.iload_n 3, 1) := by decide +kernel
theorem dX12_peal_37 : decode cX12_peal 37 = .ok (.iaload, 1) := by decide +kernel
theorem dX12_peal_38 : decode cX12_peal 38 = .ok (.istore 4, 2) := by decide +kernel
theorem dX12_peal_40 : decode cX12_peal 40 = .ok (.iconst 0, 1) := by decide +kernel
theorem dX12_peal_41 : decode cX12_peal 41 = .ok (.istore 5, 2) := by decide +kernel
theorem dX12_peal_43 : decode cX12_peal 43 = .ok (.iload 5, 2) := by decide +kernel
theorem dX12_peal_45 : decode cX12_peal 45 = .ok (.iload 4, 2) := by decide +kernel
theorem dX12_peal_47 : decode cX12_peal 47 = .ok (.if_icmp .ge 75, 3) := by decide +kernel
theorem dX12_peal_50 : decode cX12_peal 50 = .ok (.aload_n 0, 1) := by decide +kernel
theorem dX12_peal_51 : decode cX12_peal 51 = .ok (.iload_n 3, 1) := by decide +kernel
theorem dX12_peal_52 : decode cX12_peal 52 = .ok (.iload_n 2, 1) := by decide +kernel
theorem dX12_peal_53 : decode cX12_peal 53 = .ok (.invokevirtual 349, 3) := by decide +kernel
theorem dX12_peal_56 : decode cX12_peal 56 = .ok (.istore 6, 2) := by decide +kernel
theorem dX12_peal_58 : decode cX12_peal 58 = .ok (.aload_n 0, 1) := by decide +kernel
theorem dX12_peal_59 : decode cX12_peal 59 = .ok (.getfield 90, 3) := by decide +kernel
theorem dX12_peal_62 : decode cX12_peal 62 = .ok (.bipush 36, 2) := by decide +kernel
theorem dX12_peal_64 : decode cX12_peal 64 = .ok (.iload_n 1, 1) := by decide +kernel
theorem dX12_peal_65 : decode cX12_peal 65 = .ok (.imul, 1) := by decide +kernel
theorem dX12_peal_66 : decode cX12_peal 66 = .ok (.bipush 6, 2) := by decide +kernel
theorem dX12_peal_68 : decode cX12_peal 68 = .ok (.iload_n 3, 1) := by decide +kernel
theorem dX12_peal_69 : decode cX12_peal 69 = .ok (.imul, 1) := by decide +kernel
theorem dX12_peal_70 : decode cX12_peal 70 = .ok (.iadd, 1) := by decide +kernel
theorem dX12_peal_71 : decode cX12_peal 71 = .ok (.iload 5, 2) := by decide +kernel
theorem dX12_peal_73 : decode cX12_peal 73 = .ok (.iadd, 1) := by decide +kernel
theorem dX12_peal_74 : decode cX12_peal 74 = .ok (.iload 6, 2) := by decide +kernel
theorem dX12_peal_76 : decode cX12_peal 76 = .ok (.iastore, 1) := by decide +kernel
theorem dX12_peal_77 : decode cX12_peal 77 = .ok (.iload 6, 2) := by decide +kernel
theorem dX12_peal_79 : decode cX12_peal 79 = .ok (.iconst (-1), 1) := by decide +kernel
theorem dX12_peal_80 : decode cX12_peal 80 = .ok (.if_icmp .eq 36, 3) := by decide +kernel
theorem dX12_peal_83 : decode cX12_peal 83 = .ok (.aload_n 0, 1) := by decide +kernel
theorem dX12_peal_84 : decode cX12_peal 84 = .ok (.getfield 84, 3) := by decide +kernel
theorem dX12_peal_87 : decode cX12_peal 87 = .ok (.iload 6, 2) := by decide +kernel
theorem dX12_peal_89 : decode cX12_peal 89 = .ok (.dup2, 1) := by decide +kernel
theorem dX12_peal_90 : decode cX12_peal 90 = .ok (.iaload, 1) := by decide +kernel
theorem dX12_peal_91 : decode cX12_peal 91 = .ok (.iconst 1, 1) := by decide +kernel
theorem dX12_peal_92 : decode cX12_peal 92 = .ok (.iadd, 1) := by decide +kernel
theorem dX12_peal_93 : decode cX12_peal 93 = .ok (.iastore, 1) := by decide +kernel
theorem dX12_peal_94 : decode cX12_peal 94 = .ok (.aload_n 0, 1) := by decide +kernel
theorem dX12_peal_95 : decode cX12_peal 95 = .ok (.getfield 87, 3) := by decide +kernel
theorem dX12_peal_98 : decode cX12_peal 98 = .ok (.iload 6, 2) := by decide +kernel
theorem dX12_peal_100 : decode cX12_peal 100 = .ok (.aload_n 0, 1) := by decide +kernel
theorem dX12_peal_101 : decode cX12_peal 101 = .ok (.iload_n 1, 1) := by decide +kernel
theorem dX12_peal_102 : decode cX12_peal 102 = .ok (.invokevirtual 317, 3) := by decide +kernel
theorem dX12_peal_105 : decode cX12_peal 105 = .ok (.ifCond .eq 9, 3) := by decide +kernel
theorem dX12_peal_108 : decode cX12_peal 108 = .ok (.iload_n 2, 1) := by decide +kernel
theorem dX12_peal_109 : decode cX12_peal 109 = .ok (.iconst 1, 1) := by decide +kernel
theorem dX12_peal_110 : decode cX12_peal 110 = .ok (.iadd, 1) := by decide +kernel
theorem dX12_peal_111 : decode cX12_peal 111 = .ok (.goto 4, 3) := by decide +kernel
theorem dX12_peal_114 : decode cX12_peal 114 = .ok (.iload_n 2, 1) := by decide +kernel
theorem dX12_peal_115 : decode cX12_peal 115 = .ok (.iastore, 1) := by decide +kernel
theorem dX12_peal_116 : decode cX12_peal 116 = .ok (.iinc 5 1, 3) := by decide +kernel
theorem dX12_peal_119 : decode cX12_peal 119 = .ok (.goto (-76), 3) := by decide +kernel
theorem dX12_peal_122 : decode cX12_peal 122 = .ok (.iinc 3 1, 3) := by decide +kernel
theorem dX12_peal_125 : decode cX12_peal 125 = .ok (.goto (-123), 3) := by decide +kernel
theorem dX12_peal_128 : decode cX12_peal 128 = .ok (.return_, 1) := by decide +kernel
theorem dX12_ringsAll_0 : decode cX12_ringsAll 0 = .ok (.aload_n 0, 1) := by decide +kernel
theorem dX12_ringsAll_1 : decode cX12_ringsAll 1 = .ok (.iload_n 1, 1) := by decide +kernel
theorem dX12_ringsAll_2 : decode cX12_ringsAll 2 = .ok (.iconst 1, 1) := by decide +kernel
theorem dX12_ringsAll_3 : decode cX12_ringsAll 3 = .ok (.aload_n 0, 1) := by decide +kernel
theorem dX12_ringsAll_4 : decode cX12_ringsAll 4 = .ok (.getfield 133, 3) := by decide +kernel
theorem dX12_ringsAll_7 : decode cX12_ringsAll 7 = .ok (.isub, 1) := by decide +kernel
theorem dX12_ringsAll_8 : decode cX12_ringsAll 8 = .ok (.invokevirtual 300, 3) := by decide +kernel
theorem dX12_ringsAll_11 : decode cX12_ringsAll 11 = .ok (.aload_n 0, 1) := by decide +kernel
theorem dX12_ringsAll_12 : decode cX12_ringsAll 12 = .ok (.iload_n 1, 1) := by decide +kernel
theorem dX12_ringsAll_13 : decode cX12_ringsAll 13 = .ok (.invokevirtual 310, 3) := by decide +kernel
theorem dX12_ringsAll_16 : decode cX12_ringsAll 16 = .ok (.iconst 0, 1) := by decide +kernel
theorem dX12_ringsAll_17 : decode cX12_ringsAll 17 = .ok (.istore_n 2, 1) := by decide +kernel
theorem dX12_ringsAll_18 : decode cX12_ringsAll 18 = .ok (.iload_n 2, 1) := by decide +kernel
theorem dX12_ringsAll_19 : decode cX12_ringsAll 19 = .ok (.sipush 720, 3) := by decide +kernel
theorem dX12_ringsAll_22 : decode cX12_ringsAll 22 = .ok (.if_icmp .ge 17, 3) := by decide +kernel
theorem dX12_ringsAll_25 : decode cX12_ringsAll 25 = .ok (.aload_n 0, 1) := by decide +kernel
theorem dX12_ringsAll_26 : decode cX12_ringsAll 26 = .ok (.getfield 90, 3) := by decide +kernel
theorem dX12_ringsAll_29 : decode cX12_ringsAll 29 = .ok (.iload_n 2, 1) := by decide +kernel
theorem dX12_ringsAll_30 : decode cX12_ringsAll 30 = .ok (.bipush (-2), 2) := by decide +kernel
theorem dX12_ringsAll_32 : decode cX12_ringsAll 32 = .ok (.iastore, 1) := by decide +kernel
theorem dX12_ringsAll_33 : decode cX12_ringsAll 33 = .ok (.iinc 2 1, 3) := by decide +kernel
theorem dX12_ringsAll_36 : decode cX12_ringsAll 36 = .ok (.goto (-18), 3) := by decide +kernel
theorem dX12_ringsAll_39 : decode cX12_ringsAll 39 = .ok (.iconst 0, 1) := by decide +kernel
theorem dX12_ringsAll_40 : decode cX12_ringsAll 40 = .ok (.istore_n 2, 1) := by decide +kernel
theorem dX12_ringsAll_41 : decode cX12_ringsAll 41 = .ok (.iload_n 2, 1) := by decide +kernel
theorem dX12_ringsAll_42 : decode cX12_ringsAll 42 = .ok (.aload_n 0, 1) := by decide +kernel
theorem dX12_ringsAll_43 : decode cX12_ringsAll 43 = .ok (.getfield 346, 3) := by decide +kernel
theorem dX12_ringsAll_46 : decode cX12_ringsAll 46 = .ok (.if_icmp .ge 16, 3) := by decide +kernel
theorem dX12_ringsAll_49 : decode cX12_ringsAll 49 = .ok (.aload_n 0, 1) := by decide +kernel
theorem dX12_ringsAll_50 : decode cX12_ringsAll 50 = .ok (.getfield 84, 3) := by decide +kernel
theorem dX12_ringsAll_53 : decode cX12_ringsAll 53 = .ok (.iload_n 2, 1) := by decide +kernel
theorem dX12_ringsAll_54 : decode cX12_ringsAll 54 = .ok (.iconst 0, 1) := by decide +kernel
theorem dX12_ringsAll_55 : decode cX12_ringsAll 55 = .ok (.iastore, 1) := by decide +kernel
theorem dX12_ringsAll_56 : decode cX12_ringsAll 56 = .ok (.iinc 2 1, 3) := by decide +kernel
theorem dX12_ringsAll_59 : decode cX12_ringsAll 59 = .ok (.goto (-18), 3) := by decide +kernel
theorem dX12_ringsAll_62 : decode cX12_ringsAll 62 = .ok (.iconst 0, 1) := by decide +kernel
theorem dX12_ringsAll_63 : decode cX12_ringsAll 63 = .ok (.istore_n 2, 1) := by decide +kernel
theorem dX12_ringsAll_64 : decode cX12_ringsAll 64 = .ok (.iload_n 2, 1) := by decide +kernel
theorem dX12_ringsAll_65 : decode cX12_ringsAll 65 = .ok (.iload_n 1, 1) := by decide +kernel
theorem dX12_ringsAll_66 : decode cX12_ringsAll 66 = .ok (.invokestatic 123, 3) := by decide +kernel
theorem dX12_ringsAll_69 : decode cX12_ringsAll 69 = .ok (.if_icmp .ge 41, 3) := by decide +kernel
theorem dX12_ringsAll_72 : decode cX12_ringsAll 72 = .ok (.iconst 0, 1) := by decide +kernel
theorem dX12_ringsAll_73 : decode cX12_ringsAll 73 = .ok (.istore_n 3, 1) := by decide +kernel
theorem dX12_ringsAll_74 : decode cX12_ringsAll 74 = .ok (.iload_n 3, 1) := by decide +kernel
theorem dX12_ringsAll_75 : decode cX12_ringsAll 75 = .ok (.aload_n 0, 1) := by decide +kernel
theorem dX12_ringsAll_76 : decode cX12_ringsAll 76 = .ok (.getfield 231, 3) := by decide +kernel
theorem dX12_ringsAll_79 : decode cX12_ringsAll 79 = .ok (.if_icmp .ge 25, 3) := by decide +kernel
theorem dX12_ringsAll_82 : decode cX12_ringsAll 82 = .ok (.aload_n 0, 1) := by decide +kernel
theorem dX12_ringsAll_83 : decode cX12_ringsAll 83 = .ok (.getfield 63, 3) := by decide +kernel
theorem dX12_ringsAll_86 : decode cX12_ringsAll 86 = .ok (.iload_n 3, 1) := by decide +kernel
theorem dX12_ringsAll_87 : decode cX12_ringsAll 87 = .ok (.iaload, 1) := by decide +kernel
theorem dX12_ringsAll_88 : decode cX12_ringsAll 88 = .ok (.iload_n 2, 1) := by decide +kernel
theorem dX12_ringsAll_89 : decode cX12_ringsAll 89 = .ok (.if_icmp .ne 9, 3) := by decide +kernel
theorem dX12_ringsAll_92 : decode cX12_ringsAll 92 = .ok (.aload_n 0, 1) := by decide +kernel
theorem dX12_ringsAll_93 : decode cX12_ringsAll 93 = .ok (.iload_n 3, 1) := by decide +kernel
theorem dX12_ringsAll_94 : decode cX12_ringsAll 94 = .ok (.iload_n 2, 1) := by decide +kernel
theorem dX12_ringsAll_95 : decode cX12_ringsAll 95 = .ok (.invokevirtual 352, 3) := by decide +kernel
theorem dX12_ringsAll_98 : decode cX12_ringsAll 98 = .ok (.iinc 3 1, 3) := by decide +kernel
theorem dX12_ringsAll_101 : decode cX12_ringsAll 101 = .ok (.goto (-27), 3) := by decide +kernel
theorem dX12_ringsAll_104 : decode cX12_ringsAll 104 = .ok (.iinc 2 1, 3) := by decide +kernel
theorem dX12_ringsAll_107 : decode cX12_ringsAll 107 = .ok (.goto (-43), 3) := by decide +kernel
theorem dX12_ringsAll_110 : decode cX12_ringsAll 110 = .ok (.return_, 1) := by decide +kernel
theorem dX12_rings_0 : decode cX12_rings 0 = .ok (.aload_n 0, 1) := by decide +kernel
theorem dX12_rings_1 : decode cX12_rings 1 = .ok (.iload_n 1, 1) := by decide +kernel
theorem dX12_rings_2 : decode cX12_rings 2 = .ok (.invokevirtual 244, 3) := by decide +kernel
theorem dX12_rings_5 : decode cX12_rings 5 = .ok (.ifCond .eq 16, 3) := by decide +kernel
theorem dX12_rings_8 : decode cX12_rings 8 = .ok (.iload_n 3, 1) := by decide +kernel
theorem dX12_rings_9 : decode cX12_rings 9 = .ok (.iconst 0, 1) := by decide +kernel
theorem dX12_rings_10 : decode cX12_rings 10 = .ok (.iconst 5, 1) := by decide +kernel
theorem dX12_rings_11 : decode cX12_rings 11 = .ok (.invokestatic 115, 3) := by decide +kernel
theorem dX12_rings_14 : decode cX12_rings 14 = .ok (.ifCond .eq 7, 3) := by decide +kernel
theorem dX12_rings_17 : decode cX12_rings 17 = .ok (.iconst 1, 1) := by decide +kernel
theorem dX12_rings_18 : decode cX12_rings 18 = .ok (.goto 4, 3) := by decide +kernel
theorem dX12_rings_21 : decode cX12_rings 21 = .ok (.iconst 0, 1) := by decide +kernel
theorem dX12_rings_22 : decode cX12_rings 22 = .ok (.istore 5, 2) := by decide +kernel
theorem dX12_rings_24 : decode cX12_rings 24 = .ok (.aload_n 0, 1) := by decide +kernel
theorem dX12_rings_25 : decode cX12_rings 25 = .ok (.iload 5, 2) := by decide +kernel
theorem dX12_rings_27 : decode cX12_rings 27 = .ok (.ifCond .ne 7, 3) := by decide +kernel
theorem dX12_rings_30 : decode cX12_rings 30 = .ok (.iconst 1, 1) := by decide +kernel
theorem dX12_rings_31 : decode cX12_rings 31 = .ok (.goto 25, 3) := by decide +kernel
theorem dX12_rings_34 : decode cX12_rings 34 = .ok (.iload_n 2, 1) := by decide +kernel
theorem dX12_rings_35 : decode cX12_rings 35 = .ok (.invokestatic 250, 3) := by decide +kernel
theorem dX12_rings_38 : decode cX12_rings 38 = .ok (.ifCond .eq 17, 3) := by decide +kernel
theorem dX12_rings_41 : decode cX12_rings 41 = .ok (.iload 4, 2) := by decide +kernel
theorem dX12_rings_43 : decode cX12_rings 43 = .ok (.iconst 0, 1) := by decide +kernel
theorem dX12_rings_44 : decode cX12_rings 44 = .ok (.iconst 5, 1) := by decide +kernel
theorem dX12_rings_45 : decode cX12_rings 45 = .ok (.invokestatic 115, 3) := by decide +kernel
theorem dX12_rings_48 : decode cX12_rings 48 = .ok (.ifCond .eq 7, 3) := by decide +kernel
theorem dX12_rings_51 : decode cX12_rings 51 = .ok (.iconst 0, 1) := by decide +kernel
theorem dX12_rings_52 : decode cX12_rings 52 = .ok (.goto 4, 3) := by decide +kernel
theorem dX12_rings_55 : decode cX12_rings 55 = .ok (.iconst 2, 1) := by decide +kernel
theorem dX12_rings_56 : decode cX12_rings 56 = .ok (.putfield 93, 3) := by decide +kernel
theorem dX12_rings_59 : decode cX12_rings 59 = .ok (.aload_n 0, 1) := by decide +kernel
theorem dX12_rings_60 : decode cX12_rings 60 = .ok (.getfield 93, 3) := by decide +kernel
theorem dX12_rings_63 : decode cX12_rings 63 = .ok (.ifCond .le 5, 3) := by decide +kernel
theorem dX12_rings_66 : decode cX12_rings 66 = .ok (.iconst 0, 1) := by decide +kernel
theorem dX12_rings_67 : decode cX12_rings 67 = .ok (.ireturn, 1) := by decide +kernel
theorem dX12_rings_68 : decode cX12_rings 68 = .ok (.aload_n 0, 1) := by decide +kernel
theorem dX12_rings_69 : decode cX12_rings 69 = .ok (.iload_n 2, 1) := by decide +kernel
theorem dX12_rings_70 : decode cX12_rings 70 = .ok (.invokevirtual 355, 3) := by decide +kernel
theorem dX12_rings_73 : decode cX12_rings 73 = .ok (.aload_n 0, 1) := by decide +kernel
theorem dX12_rings_74 : decode cX12_rings 74 = .ok (.getfield 90, 3) := by decide +kernel
theorem dX12_rings_77 : decode cX12_rings 77 = .ok (.bipush 36, 2) := by decide +kernel
theorem dX12_rings_79 : decode cX12_rings 79 = .ok (.iload_n 1, 1) := by decide +kernel
theorem dX12_rings_80 : decode cX12_rings 80 = .ok (.imul, 1) := by decide +kernel
theorem dX12_rings_81 : decode cX12_rings 81 = .ok (.bipush 6, 2) := by decide +kernel
theorem dX12_rings_83 : decode cX12_rings 83 = .ok (.iload_n 3, 1) := by decide +kernel
theorem dX12_rings_84 : decode cX12_rings 84 = .ok (.imul, 1) := by decide +kernel
theorem dX12_rings_85 : decode cX12_rings 85 = .ok (.iadd, 1) := by decide +kernel
theorem dX12_rings_86 : decode cX12_rings 86 = .ok (.iload 4, 2) := by decide +kernel
theorem dX12_rings_88 : decode cX12_rings 88 = .ok (.iadd, 1) := by decide +kernel
theorem dX12_rings_89 : decode cX12_rings 89 = .ok (.iaload, 1) := by decide +kernel
theorem dX12_rings_90 : decode cX12_rings 90 = .ok (.istore 6, 2) := by decide +kernel
theorem dX12_rings_92 : decode cX12_rings 92 = .ok (.iload 6, 2) := by decide +kernel
theorem dX12_rings_94 : decode cX12_rings 94 = .ok (.ifCond .ge 7, 3) := by decide +kernel
theorem dX12_rings_97 : decode cX12_rings 97 = .ok (.iconst (-1), 1) := by decide +kernel
theorem dX12_rings_98 : decode cX12_rings 98 = .ok (.goto 5, 3) := by decide +kernel
theorem dX12_rings_101 : decode cX12_rings 101 = .ok (.iload 6, 2) := by decide +kernel
theorem dX12_rings_103 : decode cX12_rings 103 = .ok (.ireturn, 1) := by decide +kernel
theorem dX12_silent_0 : decode cX12_silent 0 = .ok (.aload_n 0, 1) := by decide +kernel
theorem dX12_silent_1 : decode cX12_silent 1 = .ok (.iload_n 1, 1) := by decide +kernel
theorem dX12_silent_2 : decode cX12_silent 2 = .ok (.invokestatic 250, 3) := by decide +kernel
theorem dX12_silent_5 : decode cX12_silent 5 = .ok (.ifCond .eq 7, 3) := by decide +kernel
theorem dX12_silent_8 : decode cX12_silent 8 = .ok (.iconst 0, 1) := by decide +kernel
theorem dX12_silent_9 : decode cX12_silent 9 = .ok (.goto 4, 3) := by decide +kernel
theorem dX12_silent_12 : decode cX12_silent 12 = .ok (.iconst 1, 1) := by decide +kernel
theorem dX12_silent_13 : decode cX12_silent 13 = .ok (.putfield 93, 3) := by decide +kernel
theorem dX12_silent_16 : decode cX12_silent 16 = .ok (.aload_n 0, 1) := by decide +kernel
theorem dX12_silent_17 : decode cX12_silent 17 = .ok (.getfield 93, 3) := by decide +kernel
theorem dX12_silent_20 : decode cX12_silent 20 = .ok (.ifCond .le 5, 3) := by decide +kernel
theorem dX12_silent_23 : decode cX12_silent 23 = .ok (.iconst 0, 1) := by decide +kernel
theorem dX12_silent_24 : decode cX12_silent 24 = .ok (.ireturn, 1) := by decide +kernel
theorem dX12_silent_25 : decode cX12_silent 25 = .ok (.aload_n 0, 1) := by decide +kernel
theorem dX12_silent_26 : decode cX12_silent 26 = .ok (.iload_n 1, 1) := by decide +kernel
theorem dX12_silent_27 : decode cX12_silent 27 = .ok (.invokevirtual 355, 3) := by decide +kernel
theorem dX12_silent_30 : decode cX12_silent 30 = .ok (.iconst 0, 1) := by decide +kernel
theorem dX12_silent_31 : decode cX12_silent 31 = .ok (.istore_n 2, 1) := by decide +kernel
theorem dX12_silent_32 : decode cX12_silent 32 = .ok (.iconst 0, 1) := by decide +kernel
theorem dX12_silent_33 : decode cX12_silent 33 = .ok (.istore_n 3, 1) := by decide +kernel
theorem dX12_silent_34 : decode cX12_silent 34 = .ok (.iload_n 3, 1) := by decide +kernel
theorem dX12_silent_35 : decode cX12_silent 35 = .ok (.bipush 36, 2) := by decide +kernel
theorem dX12_silent_37 : decode cX12_silent 37 = .ok (.aload_n 0, 1) := by decide +kernel
theorem dX12_silent_38 : decode cX12_silent 38 = .ok (.getfield 231, 3) := by decide +kernel
theorem dX12_silent_41 : decode cX12_silent 41 = .ok (.imul, 1) := by decide +kernel
theorem dX12_silent_42 : decode cX12_silent 42 = .ok (.if_icmp .ge 27, 3) := by decide +kernel
theorem dX12_silent_45 : decode cX12_silent 45 = .ok (.iload_n 2, 1) := by decide +kernel
theorem dX12_silent_46 : decode cX12_silent 46 = .ok (.aload_n 0, 1) := by decide +kernel
theorem dX12_silent_47 : decode cX12_silent 47 = .ok (.getfield 90, 3) := by decide +kernel
theorem dX12_silent_50 : decode cX12_silent 50 = .ok (.iload_n 3, 1) := by decide +kernel
theorem dX12_silent_51 : decode cX12_silent 51 = .ok (.iaload, 1) := by decide +kernel
theorem dX12_silent_52 : decode cX12_silent 52 = .ok (.iconst (-1), 1) := by decide +kernel
theorem dX12_silent_53 : decode cX12_silent 53 = .ok (.if_icmp .ne 7, 3) := by decide +kernel
theorem dX12_silent_56 : decode cX12_silent 56 = .ok (.iconst 1, 1) := by decide +kernel
theorem dX12_silent_57 : decode cX12_silent 57 = .ok (.goto 4, 3) := by decide +kernel
theorem dX12_silent_60 : decode cX12_silent 60 = .ok (.iconst 0, 1) := by decide +kernel
theorem dX12_silent_61 : decode cX12_silent 61 = .ok (.iadd, 1) := by decide +kernel
theorem dX12_silent_62 : decode cX12_silent 62 = .ok (.istore_n 2, 1) := by decide +kernel
theorem dX12_silent_63 : decode cX12_silent 63 = .ok (.iinc 3 1, 3) := by decide +kernel
theorem dX12_silent_66 : decode cX12_silent 66 = .ok (.goto (-32), 3) := by decide +kernel
theorem dX12_silent_69 : decode cX12_silent 69 = .ok (.iload_n 2, 1) := by decide +kernel
theorem dX12_silent_70 : decode cX12_silent 70 = .ok (.ireturn, 1) := by decide +kernel
theorem dX12_peals_0 : decode cX12_peals 0 = .ok (.aload_n 0, 1) := by decide +kernel
theorem dX12_peals_1 : decode cX12_peals 1 = .ok (.iload_n 1, 1) := by decide +kernel
theorem dX12_peals_2 : decode cX12_peals 2 = .ok (.iconst 0, 1) := by decide +kernel
theorem dX12_peals_3 : decode cX12_peals 3 = .ok (.aload_n 0, 1) := by decide +kernel
theorem dX12_peals_4 : decode cX12_peals 4 = .ok (.getfield 346, 3) := by decide +kernel
theorem dX12_peals_7 : decode cX12_peals 7 = .ok (.iconst 1, 1) := by decide +kernel
theorem dX12_peals_8 : decode cX12_peals 8 = .ok (.isub, 1) := by decide +kernel
theorem dX12_peals_9 : decode cX12_peals 9 = .ok (.invokestatic 115, 3) := by decide +kernel
theorem dX12_peals_12 : decode cX12_peals 12 = .ok (.ifCond .ne 7, 3) := by decide +kernel
theorem dX12_peals_15 : decode cX12_peals 15 = .ok (.iconst 1, 1) := by decide +kernel
theorem dX12_peals_16 : decode cX12_peals 16 = .ok (.goto 15, 3) := by decide +kernel
theorem dX12_peals_19 : decode cX12_peals 19 = .ok (.iload_n 2, 1) := by decide +kernel
theorem dX12_peals_20 : decode cX12_peals 20 = .ok (.invokestatic 250, 3) := by decide +kernel
theorem dX12_peals_23 : decode cX12_peals 23 = .ok (.ifCond .eq 7, 3) := by decide +kernel
theorem dX12_peals_26 : decode cX12_peals 26 = .ok (.iconst 0, 1) := by decide +kernel
theorem dX12_peals_27 : decode cX12_peals 27 = .ok (.goto 4, 3) := by decide +kernel
theorem dX12_peals_30 : decode cX12_peals 30 = .ok (.iconst 2, 1) := by decide +kernel
theorem dX12_peals_31 : decode cX12_peals 31 = .ok (.putfield 93, 3) := by decide +kernel
theorem dX12_peals_34 : decode cX12_peals 34 = .ok (.aload_n 0, 1) := by decide +kernel
theorem dX12_peals_35 : decode cX12_peals 35 = .ok (.getfield 93, 3) := by decide +kernel
theorem dX12_peals_38 : decode cX12_peals 38 = .ok (.ifCond .le 5, 3) := by decide +kernel
theorem dX12_peals_41 : decode cX12_peals 41 = .ok (.iconst 0, 1) := by decide +kernel
theorem dX12_peals_42 : decode cX12_peals 42 = .ok (.ireturn, 1) := by decide +kernel
theorem dX12_peals_43 : decode cX12_peals 43 = .ok (.aload_n 0, 1) := by decide +kernel
theorem dX12_peals_44 : decode cX12_peals 44 = .ok (.iload_n 2, 1) := by decide +kernel
theorem dX12_peals_45 : decode cX12_peals 45 = .ok (.invokevirtual 355, 3) := by decide +kernel
theorem dX12_peals_48 : decode cX12_peals 48 = .ok (.aload_n 0, 1) := by decide +kernel
theorem dX12_peals_49 : decode cX12_peals 49 = .ok (.getfield 84, 3) := by decide +kernel
theorem dX12_peals_52 : decode cX12_peals 52 = .ok (.iload_n 1, 1) := by decide +kernel
theorem dX12_peals_53 : decode cX12_peals 53 = .ok (.iaload, 1) := by decide +kernel
theorem dX12_peals_54 : decode cX12_peals 54 = .ok (.ireturn, 1) := by decide +kernel
