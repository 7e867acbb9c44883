theorem dX11_init_0 : decode cX11_init 0 = .ok (.aload_n 0, 1) := by decide +kernel
theorem dX11_init_1 : decode cX11_init 1 = .ok (.invokespecial 1, 3) := by decide +kernel
theorem dX11_init_4 : decode cX11_init 4 = .ok (.aload_n 0, 1) := by decide +kernel
theorem dX11_init_5 : decode cX11_init 5 = .ok (.sipush 257, 3) := by decide +kernel
theorem dX11_init_8 : decode cX11_init 8 = .ok (.newarray .int, 2) := by decide +kernel
theorem dX11_init_10 : decode cX11_init 10 = .ok (.putfield 9, 3) := by decide +kernel
theorem dX11_init_13 : decode cX11_init 13 = .ok (.aload_n 0, 1) := by decide +kernel
theorem dX11_init_14 : decode cX11_init 14 = .ok (.sipush 257, 3) := by decide +kernel
theorem dX11_init_17 : decode cX11_init 17 = .ok (.newarray .int, 2) := by decide +kernel
theorem dX11_init_19 : decode cX11_init 19 = .ok (.putfield 13, 3) := by decide +kernel
theorem dX11_init_22 : decode cX11_init 22 = .ok (.aload_n 0, 1) := by decide +kernel
theorem dX11_init_23 : decode cX11_init 23 = .ok (.sipush 257, 3) := by decide +kernel
theorem dX11_init_26 : decode cX11_init 26 = .ok (.newarray .int, 2) := by decide +kernel
theorem dX11_init_28 : decode cX11_init 28 = .ok (.putfield 16, 3) := by decide +kernel
theorem dX11_init_31 : decode cX11_init 31 = .ok (.aload_n 0, 1) := by decide +kernel
theorem dX11_init_32 : decode cX11_init 32 = .ok (.sipush 257, 3) := by decide +kernel
theorem dX11_init_35 : decode cX11_init 35 = .ok (.newarray .int, 2) := by decide +kernel
theorem dX11_init_37 : decode cX11_init 37 = .ok (.putfield 19, 3) := by decide +kernel
theorem dX11_init_40 : decode cX11_init 40 = .ok (.aload_n 0, 1) := by decide +kernel
theorem dX11_init_41 : decode cX11_init 41 = .ok (.sipush 257, 3) := by decide +kernel
theorem dX11_init_44 : decode cX11_init 44 = .ok (.newarray .int, 2) := by decide +kernel
theorem dX11_init_46 : decode cX11_init 46 = .ok (.putfield 22, 3) := by decide +kernel
theorem dX11_init_49 : decode cX11_init 49 = .ok (.aload_n 0, 1) := by decide +kernel
theorem dX11_init_50 : decode cX11_init 50 = .ok (.sipush 2056, 3) := by decide +kernel
theorem dX11_init_53 : decode cX11_init 53 = .ok (.newarray .int, 2) := by decide +kernel
theorem dX11_init_55 : decode cX11_init 55 = .ok (.putfield 25, 3) := by decide +kernel
theorem dX11_init_58 : decode cX11_init 58 = .ok (.aload_n 0, 1) := by decide +kernel
theorem dX11_init_59 : decode cX11_init 59 = .ok (.iconst 3, 1) := by decide +kernel
theorem dX11_init_60 : decode cX11_init 60 = .ok (.newarray .int, 2) := by decide +kernel
theorem dX11_init_62 : decode cX11_init 62 = .ok (.putfield 28, 3) := by decide +kernel
theorem dX11_init_65 : decode cX11_init 65 = .ok (.aload_n 0, 1) := by decide +kernel
theorem dX11_init_66 : decode cX11_init 66 = .ok (.aload_n 0, 1) := by decide +kernel
theorem dX11_init_67 : decode cX11_init 67 = .ok (.getfield 9, 3) := by decide +kernel
theorem dX11_init_70 : decode cX11_init 70 = .ok (.putfield 31, 3) := by decide +kernel
theorem dX11_init_73 : decode cX11_init 73 = .ok (.aload_n 0, 1) := by decide +kernel
theorem dX11_init_74 : decode cX11_init 74 = .ok (.bipush 24, 2) := by decide +kernel
theorem dX11_init_76 : decode cX11_init 76 = .ok (.newarray .int, 2) := by decide +kernel
theorem dX11_init_78 : decode cX11_init 78 = .ok (.putfield 34, 3) := by decide +kernel
theorem dX11_init_81 : decode cX11_init 81 = .ok (.aload_n 0, 1) := by decide +kernel
theorem dX11_init_82 : decode cX11_init 82 = .ok (.bipush 24, 2) := by decide +kernel
theorem dX11_init_84 : decode cX11_init 84 = .ok (.newarray .int, 2) := by decide +kernel
theorem dX11_init_86 : decode cX11_init 86 = .ok (.putfield 37, 3) := by decide +kernel
theorem dX11_init_89 : decode cX11_init 89 = .ok (.aload_n 0, 1) := by decide +kernel
theorem dX11_init_90 : decode cX11_init 90 = .ok (.sipush 200, 3) := by decide +kernel
theorem dX11_init_93 : decode cX11_init 93 = .ok (.newarray .int, 2) := by decide +kernel
theorem dX11_init_95 : decode cX11_init 95 = .ok (.putfield 40, 3) := by decide +kernel
theorem dX11_init_98 : decode cX11_init 98 = .ok (.aload_n 0, 1) := by decide +kernel
theorem dX11_init_99 : decode cX11_init 99 = .ok (.sipush 700, 3) := by decide +kernel
theorem dX11_init_102 : decode cX11_init 102 = .ok (.newarray .int, 2) := by decide +kernel
theorem dX11_init_104 : decode cX11_init 104 = .ok (.putfield 43, 3) := by decide +kernel
theorem dX11_init_107 : decode cX11_init 107 = .ok (.aload_n 0, 1) := by decide +kernel
theorem dX11_init_108 : decode cX11_init 108 = .ok (.iconst (-1), 1) := by decide +kernel
theorem dX11_init_109 : decode cX11_init 109 = .ok (.putfield 46, 3) := by decide +kernel
theorem dX11_init_112 : decode cX11_init 112 = .ok (.aload_n 0, 1) := by decide +kernel
theorem dX11_init_113 : decode cX11_init 113 = .ok (.bipush 60, 2) := by decide +kernel
theorem dX11_init_115 : decode cX11_init 115 = .ok (.newarray .int, 2) := by decide +kernel
theorem dX11_init_117 : decode cX11_init 117 = .ok (.putfield 50, 3) := by decide +kernel
theorem dX11_init_120 : decode cX11_init 120 = .ok (.aload_n 0, 1) := by decide +kernel
theorem dX11_init_121 : decode cX11_init 121 = .ok (.bipush 7, 2) := by decide +kernel
theorem dX11_init_123 : decode cX11_init 123 = .ok (.anewarray 53, 3) := by decide +kernel
theorem dX11_init_126 : decode cX11_init 126 = .ok (.dup, 1) := by decide +kernel
theorem dX11_init_127 : decode cX11_init 127 = .ok (.iconst 0, 1) := by decide +kernel
theorem dX11_init_128 : decode cX11_init 128 = .ok (.ldc 55, 2) := by decide +kernel
theorem dX11_init_130 : decode cX11_init 130 = .ok (.aastore, 1) := by decide +kernel
theorem dX11_init_131 : decode cX11_init 131 = .ok (.dup, 1) := by decide +kernel
theorem dX11_init_132 : decode cX11_init 132 = .ok (.iconst 1, 1) := by decide +kernel
theorem dX11_init_133 : decode cX11_init 133 = .ok (.ldc 57, 2) := by decide +kernel
theorem dX11_init_135 : decode cX11_init 135 = .ok (.aastore, 1) := by decide +kernel
theorem dX11_init_136 : decode cX11_init 136 = .ok (.dup, 1) := by decide +kernel
theorem dX11_init_137 : decode cX11_init 137 = .ok (.iconst 2, 1) := by decide +kernel
theorem dX11_init_138 : decode cX11_init 138 = .ok (.ldc 59, 2) := by decide +kernel
theorem dX11_init_140 : decode cX11_init 140 = .ok (.aastore, 1) := by decide +kernel
theorem dX11_init_141 : decode cX11_init 141 = .ok (.dup, 1) := by decide +kernel
theorem dX11_init_142 : decode cX11_init 142 = .ok (.iconst 3, 1) := by decide +kernel
theorem dX11_init_143 : decode cX11_init 143 = .ok (.ldc 61, 2) := by decide +kernel
theorem dX11_init_145 : decode cX11_init 145 = .ok (.aastore, 1) := by decide +kernel
theorem dX11_init_146 : decode cX11_init 146 = .ok (.dup, 1) := by decide +kernel
theorem dX11_init_147 : decode cX11_init 147 = .ok (.iconst 4, 1) := by decide +kernel
theorem dX11_init_148 : decode cX11_init 148 = .ok (.ldc 63, 2) := by decide +kernel
theorem dX11_init_150 : decode cX11_init 150 = .ok (.aastore, 1) := by decide +kernel
theorem dX11_init_151 : decode cX11_init 151 = .ok (.dup, 1) := by decide +kernel
theorem dX11_init_152 : decode cX11_init 152 = .ok (.iconst 5, 1) := by decide +kernel
theorem dX11_init_153 : decode cX11_init 153 = .ok (.ldc 65, 2) := by decide +kernel
theorem dX11_init_155 : decode cX11_init 155 = .ok (.aastore, 1) := by decide +kernel
theorem dX11_init_156 : decode cX11_init 156 = .ok (.dup, 1) := by decide +kernel
theorem dX11_init_157 : decode cX11_init 157 = .ok (.bipush 6, 2) := by decide +kernel
theorem dX11_init_159 : decode cX11_init 159 = .ok (.ldc 67, 2) := by decide +kernel
theorem dX11_init_161 : decode cX11_init 161 = .ok (.aastore, 1) := by decide +kernel
theorem dX11_init_162 : decode cX11_init 162 = .ok (.putfield 69, 3) := by decide +kernel
theorem dX11_init_165 : decode cX11_init 165 = .ok (.aload_n 0, 1) := by decide +kernel
theorem dX11_init_166 : decode cX11_init 166 = .ok (.iconst 3, 1) := by decide +kernel
theorem dX11_init_167 : decode cX11_init 167 = .ok (.iconst 2, 1) := by decide +kernel
theorem dX11_init_168 : decode cX11_init 168 = .ok (.iconst 2, 1) := by decide +kernel
theorem dX11_init_169 : decode cX11_init 169 = .ok (.iconst 2, 1) := by decide +kernel
theorem dX11_init_170 : decode cX11_init 170 = .ok (.invokevirtual 73, 3) := by decide +kernel
theorem dX11_init_173 : decode cX11_init 173 = .ok (.aload_n 0, 1) := by decide +kernel
theorem dX11_init_174 : decode cX11_init 174 = .ok (.bipush 10, 2) := by decide +kernel
theorem dX11_init_176 : decode cX11_init 176 = .ok (.iconst 0, 1) := by decide +kernel
theorem dX11_init_177 : decode cX11_init 177 = .ok (.invokevirtual 77, 3) := by decide +kernel
theorem dX11_init_180 : decode cX11_init 180 = .ok (.aload_n 0, 1) := by decide +kernel
theorem dX11_init_181 : decode cX11_init 181 = .ok (.bipush 20, 2) := by decide +kernel
theorem dX11_init_183 : decode cX11_init 183 = .ok (.iconst 0, 1) := by decide +kernel
theorem dX11_init_184 : decode cX11_init 184 = .ok (.invokevirtual 77, 3) := by decide +kernel
theorem dX11_init_187 : decode cX11_init 187 = .ok (.aload_n 0, 1) := by decide +kernel
theorem dX11_init_188 : decode cX11_init 188 = .ok (.bipush 30, 2) := by decide +kernel
theorem dX11_init_190 : decode cX11_init 190 = .ok (.iconst 4, 1) := by decide +kernel
theorem dX11_init_191 : decode cX11_init 191 = .ok (.invokevirtual 77, 3) := by decide +kernel
theorem dX11_init_194 : decode cX11_init 194 = .ok (.aload_n 0, 1) := by decide +kernel
theorem dX11_init_195 : decode cX11_init 195 = .ok (.bipush 50, 2) := by decide +kernel
theorem dX11_init_197 : decode cX11_init 197 = .ok (.iconst 0, 1) := by decide +kernel
theorem dX11_init_198 : decode cX11_init 198 = .ok (.invokevirtual 77, 3) := by decide +kernel
theorem dX11_init_201 : decode cX11_init 201 = .ok (.aload_n 0, 1) := by decide +kernel
theorem dX11_init_202 : decode cX11_init 202 = .ok (.bipush 40, 2) := by decide +kernel
theorem dX11_init_204 : decode cX11_init 204 = .ok (.iconst 0, 1) := by decide +kernel
theorem dX11_init_205 : decode cX11_init 205 = .ok (.invokevirtual 77, 3) := by decide +kernel
theorem dX11_init_208 : decode cX11_init 208 = .ok (.return_, 1) := by decide +kernel
theorem dX11_thrown_0 : decode cX11_thrown 0 = .ok (.aload_n 0, 1) := by decide +kernel
theorem dX11_thrown_1 : decode cX11_thrown 1 = .ok (.getfield 81, 3) := by decide +kernel
theorem dX11_thrown_4 : decode cX11_thrown 4 = .ok (.ireturn, 1) := by decide +kernel
theorem dX11_raise_0 : decode cX11_raise 0 = .ok (.aload_n 0, 1) := by decide +kernel
theorem dX11_raise_1 : decode cX11_raise 1 = .ok (.iload_n 1, 1) := by decide +kernel
theorem dX11_raise_2 : decode cX11_raise 2 = .ok (.putfield 81, 3) := by decide +kernel
theorem dX11_raise_5 : decode cX11_raise 5 = .ok (.iconst 0, 1) := by decide +kernel
theorem dX11_raise_6 : decode cX11_raise 6 = .ok (.ireturn, 1) := by decide +kernel
theorem dX11_inRange_0 : decode cX11_inRange 0 = .ok (.iload_n 0, 1) := by decide +kernel
theorem dX11_inRange_1 : decode cX11_inRange 1 = .ok (.iload_n 1, 1) := by decide +kernel
theorem dX11_inRange_2 : decode cX11_inRange 2 = .ok (.if_icmp .lt 12, 3) := by decide +kernel
theorem dX11_inRange_5 : decode cX11_inRange 5 = .ok (.iload_n 0, 1) := by decide +kernel
theorem dX11_inRange_6 : decode cX11_inRange 6 = .ok (.iload_n 2, 1) := by decide +kernel
theorem dX11_inRange_7 : decode cX11_inRange 7 = .ok (.if_icmp .gt 7, 3) := by decide +kernel
theorem dX11_inRange_10 : decode cX11_inRange 10 = .ok (.iconst 1, 1) := by decide +kernel
theorem dX11_inRange_11 : decode cX11_inRange 11 = .ok (.goto 4, 3) := by decide +kernel
theorem dX11_inRange_14 : decode cX11_inRange 14 = .ok (.iconst 0, 1) := by decide +kernel
theorem dX11_inRange_15 : decode cX11_inRange 15 = .ok (.ireturn, 1) := by decide +kernel
theorem dX11_lacks_0 : decode cX11_lacks 0 = .ok (.aload_n 0, 1) := by decide +kernel
theorem dX11_lacks_1 : decode cX11_lacks 1 = .ok (.iload_n 1, 1) := by decide +kernel
theorem dX11_lacks_2 : decode cX11_lacks 2 = .ok (.ifCond .eq 7, 3) := by decide +kernel
theorem dX11_lacks_5 : decode cX11_lacks 5 = .ok (.iconst 0, 1) := by decide +kernel
theorem dX11_lacks_6 : decode cX11_lacks 6 = .ok (.goto 4, 3) := by decide +kernel
theorem dX11_lacks_9 : decode cX11_lacks 9 = .ok (.iconst 1, 1) := by decide +kernel
theorem dX11_lacks_10 : decode cX11_lacks 10 = .ok (.putfield 81, 3) := by decide +kernel
theorem dX11_lacks_13 : decode cX11_lacks 13 = .ok (.iload_n 1, 1) := by decide +kernel
theorem dX11_lacks_14 : decode cX11_lacks 14 = .ok (.ifCond .ne 7, 3) := by decide +kernel
theorem dX11_lacks_17 : decode cX11_lacks 17 = .ok (.iconst 1, 1) := by decide +kernel
theorem dX11_lacks_18 : decode cX11_lacks 18 = .ok (.goto 4, 3) := by decide +kernel
theorem dX11_lacks_21 : decode cX11_lacks 21 = .ok (.iconst 0, 1) := by decide +kernel
theorem dX11_lacks_22 : decode cX11_lacks 22 = .ok (.ireturn, 1) := by decide +kernel
theorem dX11_begin_0 : decode cX11_begin 0 = .ok (.iconst 0, 1) := by decide +kernel
theorem dX11_begin_1 : decode cX11_begin 1 = .ok (.istore 5, 2) := by decide +kernel
theorem dX11_begin_3 : decode cX11_begin 3 = .ok (.iload 5, 2) := by decide +kernel
theorem dX11_begin_5 : decode cX11_begin 5 = .ok (.sipush 257, 3) := by decide +kernel
theorem dX11_begin_8 : decode cX11_begin 8 = .ok (.if_icmp .ge 17, 3) := by decide +kernel
theorem dX11_begin_11 : decode cX11_begin 11 = .ok (.aload_n 0, 1) := by decide +kernel
theorem dX11_begin_12 : decode cX11_begin 12 = .ok (.getfield 31, 3) := by decide +kernel
theorem dX11_begin_15 : decode cX11_begin 15 = .ok (.iload 5, 2) := by decide +kernel
theorem dX11_begin_17 : decode cX11_begin 17 = .ok (.iconst 0, 1) := by decide +kernel
theorem dX11_begin_18 : decode cX11_begin 18 = .ok (.iastore, 1) := by decide +kernel
theorem dX11_begin_19 : decode cX11_begin 19 = .ok (.iinc 5 1, 3) := by decide +kernel
theorem dX11_begin_22 : decode cX11_begin 22 = .ok (.goto (-19), 3) := by decide +kernel
theorem dX11_begin_25 : decode cX11_begin 25 = .ok (.aload_n 0, 1) := by decide +kernel
theorem dX11_begin_26 : decode cX11_begin 26 = .ok (.getfield 31, 3) := by decide +kernel
theorem dX11_begin_29 : decode cX11_begin 29 = .ok (.iconst 1, 1) := by decide +kernel
theorem dX11_begin_30 : decode cX11_begin 30 = .ok (.iload_n 1, 1) := by decide +kernel
theorem dX11_begin_31 : decode cX11_begin 31 = .ok (.iastore, 1) := by decide +kernel
theorem dX11_begin_32 : decode cX11_begin 32 = .ok (.aload_n 0, 1) := by decide +kernel
theorem dX11_begin_33 : decode cX11_begin 33 = .ok (.getfield 31, 3) := by decide +kernel
theorem dX11_begin_36 : decode cX11_begin 36 = .ok (.iconst 2, 1) := by decide +kernel
theorem dX11_begin_37 : decode cX11_begin 37 = .ok (.iload_n 2, 1) := by decide +kernel
theorem dX11_begin_38 : decode cX11_begin 38 = .ok (.iastore, 1) := by decide +kernel
theorem dX11_begin_39 : decode cX11_begin 39 = .ok (.aload_n 0, 1) := by decide +kernel
theorem dX11_begin_40 : decode cX11_begin 40 = .ok (.getfield 31, 3) := by decide +kernel
theorem dX11_begin_43 : decode cX11_begin 43 = .ok (.iconst 3, 1) := by decide +kernel
theorem dX11_begin_44 : decode cX11_begin 44 = .ok (.iload_n 3, 1) := by decide +kernel
theorem dX11_begin_45 : decode cX11_begin 45 = .ok (.iastore, 1) := by decide +kernel
theorem dX11_begin_46 : decode cX11_begin 46 = .ok (.aload_n 0, 1) := by decide +kernel
theorem dX11_begin_47 : decode cX11_begin 47 = .ok (.getfield 31, 3) := by decide +kernel
theorem dX11_begin_50 : decode cX11_begin 50 = .ok (.iconst 4, 1) := by decide +kernel
theorem dX11_begin_51 : decode cX11_begin 51 = .ok (.iload 4, 2) := by decide +kernel
theorem dX11_begin_53 : decode cX11_begin 53 = .ok (.iastore, 1) := by decide +kernel
theorem dX11_begin_54 : decode cX11_begin 54 = .ok (.return_, 1) := by decide +kernel
theorem dX11_tally_0 : decode cX11_tally 0 = .ok (.aload_n 0, 1) := by decide +kernel
theorem dX11_tally_1 : decode cX11_tally 1 = .ok (.getfield 31, 3) := by decide +kernel
theorem dX11_tally_4 : decode cX11_tally 4 = .ok (.bipush 9, 2) := by decide +kernel
theorem dX11_tally_6 : decode cX11_tally 6 = .ok (.iload_n 1, 1) := by decide +kernel
theorem dX11_tally_7 : decode cX11_tally 7 = .ok (.iadd, 1) := by decide +kernel
theorem dX11_tally_8 : decode cX11_tally 8 = .ok (.iconst 3, 1) := by decide +kernel
theorem dX11_tally_9 : decode cX11_tally 9 = .ok (.isub, 1) := by decide +kernel
theorem dX11_tally_10 : decode cX11_tally 10 = .ok (.dup2, 1) := by decide +kernel
theorem dX11_tally_11 : decode cX11_tally 11 = .ok (.iaload, 1) := by decide +kernel
theorem dX11_tally_12 : decode cX11_tally 12 = .ok (.iload_n 2, 1) := by decide +kernel
theorem dX11_tally_13 : decode cX11_tally 13 = .ok (.iadd, 1) := by decide +kernel
theorem dX11_tally_14 : decode cX11_tally 14 = .ok (.iastore, 1) := by decide +kernel
theorem dX11_tally_15 : decode cX11_tally 15 = .ok (.return_, 1) := by decide +kernel
theorem dX11_tallied_0 : decode cX11_tallied 0 = .ok (.aload_n 0, 1) := by decide +kernel
theorem dX11_tallied_1 : decode cX11_tallied 1 = .ok (.getfield 31, 3) := by decide +kernel
theorem dX11_tallied_4 : decode cX11_tallied 4 = .ok (.bipush 9, 2) := by decide +kernel
theorem dX11_tallied_6 : decode cX11_tallied 6 = .ok (.iload_n 1, 1) := by decide +kernel
theorem dX11_tallied_7 : decode cX11_tallied 7 = .ok (.iadd, 1) := by decide +kernel
theorem dX11_tallied_8 : decode cX11_tallied 8 = .ok (.iconst 3, 1) := by decide +kernel
theorem dX11_tallied_9 : decode cX11_tallied 9 = .ok (.isub, 1) := by decide +kernel
theorem dX11_tallied_10 : decode cX11_tallied 10 = .ok (.iaload, 1) := by decide +kernel
theorem dX11_tallied_11 : decode cX11_tallied 11 = .ok (.ireturn, 1) := by decide +kernel
theorem dX11_of_0 : decode cX11_of 0 = .ok (.aload_n 0, 1) := by decide +kernel
theorem dX11_of_1 : decode cX11_of 1 = .ok (.getfield 31, 3) := by decide +kernel
theorem dX11_of_4 : decode cX11_of 4 = .ok (.bipush 25, 2) := by decide +kernel
theorem dX11_of_6 : decode cX11_of 6 = .ok (.iconst 5, 1) := by decide +kernel
theorem dX11_of_7 : decode cX11_of 7 = .ok (.iload_n 1, 1) := by decide +kernel
theorem dX11_of_8 : decode cX11_of 8 = .ok (.imul, 1) := by decide +kernel
theorem dX11_of_9 : decode cX11_of 9 = .ok (.iadd, 1) := by decide +kernel
theorem dX11_of_10 : decode cX11_of 10 = .ok (.iload_n 2, 1) := by decide +kernel
theorem dX11_of_11 : decode cX11_of 11 = .ok (.iadd, 1) := by decide +kernel
theorem dX11_of_12 : decode cX11_of 12 = .ok (.iaload, 1) := by decide +kernel
theorem dX11_of_13 : decode cX11_of 13 = .ok (.ireturn, 1) := by decide +kernel
theorem dX11_lay_0 : decode cX11_lay 0 = .ok (.aload_n 0, 1) := by decide +kernel
theorem dX11_lay_1 : decode cX11_lay 1 = .ok (.getfield 31, 3) := by decide +kernel
theorem dX11_lay_4 : decode cX11_lay 4 = .ok (.bipush 25, 2) := by decide +kernel
theorem dX11_lay_6 : decode cX11_lay 6 = .ok (.iconst 5, 1) := by decide +kernel
theorem dX11_lay_7 : decode cX11_lay 7 = .ok (.iload_n 1, 1) := by decide +kernel
theorem dX11_lay_8 : decode cX11_lay 8 = .ok (.imul, 1) := by decide +kernel
theorem dX11_lay_9 : decode cX11_lay 9 = .ok (.iadd, 1) := by decide +kernel
theorem dX11_lay_10 : decode cX11_lay 10 = .ok (.iload_n 2, 1) := by decide +kernel
theorem dX11_lay_11 : decode cX11_lay 11 = .ok (.iadd, 1) := by decide +kernel
theorem dX11_lay_12 : decode cX11_lay 12 = .ok (.iload_n 3, 1) := by decide +kernel
theorem dX11_lay_13 : decode cX11_lay 13 = .ok (.iastore, 1) := by decide +kernel
theorem dX11_lay_14 : decode cX11_lay 14 = .ok (.return_, 1) := by decide +kernel
theorem dX11_ofSlip_0 : decode cX11_ofSlip 0 = .ok (.aload_n 0, 1) := by decide +kernel
theorem dX11_ofSlip_1 : decode cX11_ofSlip 1 = .ok (.getfield 31, 3) := by decide +kernel
theorem dX11_ofSlip_4 : decode cX11_ofSlip 4 = .ok (.sipush 193, 3) := by decide +kernel
theorem dX11_ofSlip_7 : decode cX11_ofSlip 7 = .ok (.iconst 4, 1) := by decide +kernel
theorem dX11_ofSlip_8 : decode cX11_ofSlip 8 = .ok (.iload_n 1, 1) := by decide +kernel
theorem dX11_ofSlip_9 : decode cX11_ofSlip 9 = .ok (.imul, 1) := by decide +kernel
theorem dX11_ofSlip_10 : decode cX11_ofSlip 10 = .ok (.iadd, 1) := by decide +kernel
theorem dX11_ofSlip_11 : decode cX11_ofSlip 11 = .ok (.iload_n 2, 1) := by decide +kernel
theorem dX11_ofSlip_12 : decode cX11_ofSlip 12 = .ok (.iadd, 1) := by decide +kernel
theorem dX11_ofSlip_13 : decode cX11_ofSlip 13 = .ok (.iaload, 1) := by decide +kernel
theorem dX11_ofSlip_14 : decode cX11_ofSlip 14 = .ok (.ireturn, 1) := by decide +kernel
theorem dX11_addFolder_0 : decode cX11_addFolder 0 = .ok (.aload_n 0, 1) := by decide +kernel
theorem dX11_addFolder_1 : decode cX11_addFolder 1 = .ok (.getfield 31, 3) := by decide +kernel
theorem dX11_addFolder_4 : decode cX11_addFolder 4 = .ok (.iconst 5, 1) := by decide +kernel
theorem dX11_addFolder_5 : decode cX11_addFolder 5 = .ok (.iaload, 1) := by decide +kernel
theorem dX11_addFolder_6 : decode cX11_addFolder 6 = .ok (.istore_n 3, 1) := by decide +kernel
theorem dX11_addFolder_7 : decode cX11_addFolder 7 = .ok (.aload_n 0, 1) := by decide +kernel
theorem dX11_addFolder_8 : decode cX11_addFolder 8 = .ok (.getfield 31, 3) := by decide +kernel
theorem dX11_addFolder_11 : decode cX11_addFolder 11 = .ok (.iconst 5, 1) := by decide +kernel
theorem dX11_addFolder_12 : decode cX11_addFolder 12 = .ok (.dup2, 1) := by decide +kernel
theorem dX11_addFolder_13 : decode cX11_addFolder 13 = .ok (.iaload, 1) := by decide +kernel
theorem dX11_addFolder_14 : decode cX11_addFolder 14 = .ok (.iconst 1, 1) := by decide +kernel
theorem dX11_addFolder_15 : decode cX11_addFolder 15 = .ok (.iadd, 1) := by decide +kernel
theorem dX11_addFolder_16 : decode cX11_addFolder 16 = .ok (.iastore, 1) := by decide +kernel
theorem dX11_addFolder_17 : decode cX11_addFolder 17 = .ok (.aload_n 0, 1) := by decide +kernel
theorem dX11_addFolder_18 : decode cX11_addFolder 18 = .ok (.iload_n 3, 1) := by decide +kernel
theorem dX11_addFolder_19 : decode cX11_addFolder 19 = .ok (.iconst 0, 1) := by decide +kernel
theorem dX11_addFolder_20 : decode cX11_addFolder 20 = .ok (.iload_n 1, 1) := by decide +kernel
theorem dX11_addFolder_21 : decode cX11_addFolder 21 = .ok (.invokevirtual 84, 3) := by decide +kernel
theorem dX11_addFolder_24 : decode cX11_addFolder 24 = .ok (.aload_n 0, 1) := by decide +kernel
theorem dX11_addFolder_25 : decode cX11_addFolder 25 = .ok (.iload_n 3, 1) := by decide +kernel
theorem dX11_addFolder_26 : decode cX11_addFolder 26 = .ok (.iconst 1, 1) := by decide +kernel
theorem dX11_addFolder_27 : decode cX11_addFolder 27 = .ok (.iload_n 2, 1) := by decide +kernel
theorem dX11_addFolder_28 : decode cX11_addFolder 28 = .ok (.invokevirtual 84, 3) := by decide +kernel
theorem dX11_addFolder_31 : decode cX11_addFolder 31 = .ok (.aload_n 0, 1) := by decide +kernel
theorem dX11_addFolder_32 : decode cX11_addFolder 32 = .ok (.iload_n 3, 1) := by decide +kernel
theorem dX11_addFolder_33 : decode cX11_addFolder 33 = .ok (.aload_n 0, 1) := by decide +kernel
theorem dX11_addFolder_34 : decode cX11_addFolder 34 = .ok (.getfield 31, 3) := by decide +kernel
theorem dX11_addFolder_37 : decode cX11_addFolder 37 = .ok (.bipush 6, 2) := by decide +kernel
theorem dX11_addFolder_39 : decode cX11_addFolder 39 = .ok (.iaload, 1) := by decide +kernel
theorem dX11_addFolder_40 : decode cX11_addFolder 40 = .ok (.invokevirtual 88, 3) := by decide +kernel
theorem dX11_addFolder_43 : decode cX11_addFolder 43 = .ok (.return_, 1) := by decide +kernel
theorem dX11_isFolder_0 : decode cX11_isFolder 0 = .ok (.iload_n 1, 1) := by decide +kernel
theorem dX11_isFolder_1 : decode cX11_isFolder 1 = .ok (.iconst 0, 1) := by decide +kernel
theorem dX11_isFolder_2 : decode cX11_isFolder 2 = .ok (.aload_n 0, 1) := by decide +kernel
theorem dX11_isFolder_3 : decode cX11_isFolder 3 = .ok (.getfield 31, 3) := by decide +kernel
theorem dX11_isFolder_6 : decode cX11_isFolder 6 = .ok (.iconst 5, 1) := by decide +kernel
theorem dX11_isFolder_7 : decode cX11_isFolder 7 = .ok (.iaload, 1) := by decide +kernel
theorem dX11_isFolder_8 : decode cX11_isFolder 8 = .ok (.iconst 1, 1) := by decide +kernel
theorem dX11_isFolder_9 : decode cX11_isFolder 9 = .ok (.isub, 1) := by decide +kernel
theorem dX11_isFolder_10 : decode cX11_isFolder 10 = .ok (.invokestatic 91, 3) := by decide +kernel
theorem dX11_isFolder_13 : decode cX11_isFolder 13 = .ok (.ireturn, 1) := by decide +kernel
theorem dX11_isReader_0 : decode cX11_isReader 0 = .ok (.iload_n 1, 1) := by decide +kernel
theorem dX11_isReader_1 : decode cX11_isReader 1 = .ok (.iconst 0, 1) := by decide +kernel
theorem dX11_isReader_2 : decode cX11_isReader 2 = .ok (.aload_n 0, 1) := by decide +kernel
theorem dX11_isReader_3 : decode cX11_isReader 3 = .ok (.getfield 31, 3) := by decide +kernel
theorem dX11_isReader_6 : decode cX11_isReader 6 = .ok (.iconst 3, 1) := by decide +kernel
theorem dX11_isReader_7 : decode cX11_isReader 7 = .ok (.iaload, 1) := by decide +kernel
theorem dX11_isReader_8 : decode cX11_isReader 8 = .ok (.iconst 1, 1) := by decide +kernel
theorem dX11_isReader_9 : decode cX11_isReader 9 = .ok (.isub, 1) := by decide +kernel
theorem dX11_isReader_10 : decode cX11_isReader 10 = .ok (.invokestatic 91, 3) := by decide +kernel
theorem dX11_isReader_13 : decode cX11_isReader 13 = .ok (.ireturn, 1) := by decide +kernel
theorem dX11_isIn_0 : decode cX11_isIn 0 = .ok (.aload_n 0, 1) := by decide +kernel
theorem dX11_isIn_1 : decode cX11_isIn 1 = .ok (.iload_n 1, 1) := by decide +kernel
theorem dX11_isIn_2 : decode cX11_isIn 2 = .ok (.iconst 2, 1) := by decide +kernel
theorem dX11_isIn_3 : decode cX11_isIn 3 = .ok (.invokevirtual 95, 3) := by decide +kernel
theorem dX11_isIn_6 : decode cX11_isIn 6 = .ok (.iload_n 2, 1) := by decide +kernel
theorem dX11_isIn_7 : decode cX11_isIn 7 = .ok (.if_icmp .ne 7, 3) := by decide +kernel
theorem dX11_isIn_10 : decode cX11_isIn 10 = .ok (.iconst 1, 1) := by decide +kernel
theorem dX11_isIn_11 : decode cX11_isIn 11 = .ok (.goto 4, 3) := by decide +kernel
theorem dX11_isIn_14 : decode cX11_isIn 14 = .ok (.iconst 0, 1) := by decide +kernel
theorem dX11_isIn_15 : decode cX11_isIn 15 = .ok (.ireturn, 1) := by decide +kernel
theorem dX11_folderMarked_0 : decode cX11_folderMarked 0 = .ok (.iconst 0, 1) := by decide +kernel
theorem dX11_folderMarked_1 : decode cX11_folderMarked 1 = .ok (.istore_n 2, 1) := by decide +kernel
theorem dX11_folderMarked_2 : decode cX11_folderMarked 2 = .ok (.iload_n 2, 1) := by decide +kernel
theorem dX11_folderMarked_3 : decode cX11_folderMarked 3 = .ok (.aload_n 0, 1) := by decide +kernel
theorem dX11_folderMarked_4 : decode cX11_folderMarked 4 = .ok (.getfield 31, 3) := by decide +kernel
theorem dX11_folderMarked_7 : decode cX11_folderMarked 7 = .ok (.iconst 5, 1) := by decide +kernel
theorem dX11_folderMarked_8 : decode cX11_folderMarked 8 = .ok (.iaload, 1) := by decide +kernel
theorem dX11_folderMarked_9 : decode cX11_folderMarked 9 = .ok (.if_icmp .ge 21, 3) := by decide +kernel
theorem dX11_folderMarked_12 : decode cX11_folderMarked 12 = .ok (.aload_n 0, 1) := by decide +kernel
theorem dX11_folderMarked_13 : decode cX11_folderMarked 13 = .ok (.iload_n 2, 1) := by decide +kernel
theorem dX11_folderMarked_14 : decode cX11_folderMarked 14 = .ok (.iconst 0, 1) := by decide +kernel
theorem dX11_folderMarked_15 : decode cX11_folderMarked 15 = .ok (.invokevirtual 95, 3) := by decide +kernel
theorem dX11_folderMarked_18 : decode cX11_folderMarked 18 = .ok (.iload_n 1, 1) := by decide +kernel
theorem dX11_folderMarked_19 : decode cX11_folderMarked 19 = .ok (.if_icmp .ne 5, 3) := by decide +kernel
theorem dX11_folderMarked_22 : decode cX11_folderMarked 22 = .ok (.iload_n 2, 1) := by decide +kernel
theorem dX11_folderMarked_23 : decode cX11_folderMarked 23 = .ok (.ireturn, 1) := by decide +kernel
theorem dX11_folderMarked_24 : decode cX11_folderMarked 24 = .ok (.iinc 2 1, 3) := by decide +kernel
theorem dX11_folderMarked_27 : decode cX11_folderMarked 27 = .ok (.goto (-25), 3) := by decide +kernel
theorem dX11_folderMarked_30 : decode cX11_folderMarked 30 = .ok (.iconst (-1), 1) := by decide +kernel
theorem dX11_folderMarked_31 : decode cX11_folderMarked 31 = .ok (.ireturn, 1) := by decide +kernel
theorem dX11_folderAt_0 : decode cX11_folderAt 0 = .ok (.aload_n 0, 1) := by decide +kernel
theorem dX11_folderAt_1 : decode cX11_folderAt 1 = .ok (.getfield 31, 3) := by decide +kernel
theorem dX11_folderAt_4 : decode cX11_folderAt 4 = .ok (.sipush 145, 3) := by decide +kernel
theorem dX11_folderAt_7 : decode cX11_folderAt 7 = .ok (.iload_n 1, 1) := by decide +kernel
theorem dX11_folderAt_8 : decode cX11_folderAt 8 = .ok (.iadd, 1) := by decide +kernel
theorem dX11_folderAt_9 : decode cX11_folderAt 9 = .ok (.iaload, 1) := by decide +kernel
theorem dX11_folderAt_10 : decode cX11_folderAt 10 = .ok (.ireturn, 1) := by decide +kernel
theorem dX11_markAt_0 : decode cX11_markAt 0 = .ok (.aload_n 0, 1) := by decide +kernel
theorem dX11_markAt_1 : decode cX11_markAt 1 = .ok (.aload_n 0, 1) := by decide +kernel
theorem dX11_markAt_2 : decode cX11_markAt 2 = .ok (.iload_n 1, 1) := by decide +kernel
theorem dX11_markAt_3 : decode cX11_markAt 3 = .ok (.invokevirtual 99, 3) := by decide +kernel
theorem dX11_markAt_6 : decode cX11_markAt 6 = .ok (.iconst 0, 1) := by decide +kernel
theorem dX11_markAt_7 : decode cX11_markAt 7 = .ok (.invokevirtual 95, 3) := by decide +kernel
theorem dX11_markAt_10 : decode cX11_markAt 10 = .ok (.ireturn, 1) := by decide +kernel
theorem dX11_insert_0 : decode cX11_insert 0 = .ok (.aload_n 0, 1) := by decide +kernel
theorem dX11_insert_1 : decode cX11_insert 1 = .ok (.getfield 31, 3) := by decide +kernel
theorem dX11_insert_4 : decode cX11_insert 4 = .ok (.bipush 6, 2) := by decide +kernel
theorem dX11_insert_6 : decode cX11_insert 6 = .ok (.iaload, 1) := by decide +kernel
theorem dX11_insert_7 : decode cX11_insert 7 = .ok (.istore_n 3, 1) := by decide +kernel
theorem dX11_insert_8 : decode cX11_insert 8 = .ok (.iload_n 3, 1) := by decide +kernel
theorem dX11_insert_9 : decode cX11_insert 9 = .ok (.iload_n 2, 1) := by decide +kernel
theorem dX11_insert_10 : decode cX11_insert 10 = .ok (.if_icmp .le 26, 3) := by decide +kernel
theorem dX11_insert_13 : decode cX11_insert 13 = .ok (.aload_n 0, 1) := by decide +kernel
theorem dX11_insert_14 : decode cX11_insert 14 = .ok (.getfield 31, 3) := by decide +kernel
theorem dX11_insert_17 : decode cX11_insert 17 = .ok (.sipush 145, 3) := by decide +kernel
theorem dX11_insert_20 : decode cX11_insert 20 = .ok (.iload_n 3, 1) := by decide +kernel
theorem dX11_insert_21 : decode cX11_insert 21 = .ok (.iadd, 1) := by decide +kernel
theorem dX11_insert_22 : decode cX11_insert 22 = .ok (.aload_n 0, 1) := by decide +kernel
theorem dX11_insert_23 : decode cX11_insert 23 = .ok (.iload_n 3, 1) := by decide +kernel
theorem dX11_insert_24 : decode cX11_insert 24 = .ok (.iconst 1, 1) := by decide +kernel
theorem dX11_insert_25 : decode cX11_insert 25 = .ok (.isub, 1) := by decide +kernel
theorem dX11_insert_26 : decode cX11_insert 26 = .ok (.invokevirtual 99, 3) := by decide +kernel
theorem dX11_insert_29 : decode cX11_insert 29 = .ok (.iastore, 1) := by decide +kernel
theorem dX11_insert_30 : decode cX11_insert 30 = .ok (.iinc 3 (-1), 3) := by decide +kernel
theorem dX11_insert_33 : decode cX11_insert 33 = .ok (.goto (-25), 3) := by decide +kernel
theorem dX11_insert_36 : decode cX11_insert 36 = .ok (.aload_n 0, 1) := by decide +kernel
theorem dX11_insert_37 : decode cX11_insert 37 = .ok (.getfield 31, 3) := by decide +kernel
theorem dX11_insert_40 : decode cX11_insert 40 = .ok (.sipush 145, 3) := by decide +kernel
theorem dX11_insert_43 : decode cX11_insert 43 = .ok (.iload_n 2, 1) := by decide +kernel
theorem dX11_insert_44 : decode cX11_insert 44 = .ok (.iadd, 1) := by decide +kernel
theorem dX11_insert_45 : decode cX11_insert 45 = .ok (.iload_n 1, 1) := by decide +kernel
theorem dX11_insert_46 : decode cX11_insert 46 = .ok (.iastore, 1) := by decide +kernel
theorem dX11_insert_47 : decode cX11_insert 47 = .ok (.aload_n 0, 1) := by decide +kernel
theorem dX11_insert_48 : decode cX11_insert 48 = .ok (.getfield 31, 3) := by decide +kernel
theorem dX11_insert_51 : decode cX11_insert 51 = .ok (.bipush 6, 2) := by decide +kernel
theorem dX11_insert_53 : decode cX11_insert 53 = .ok (.dup2, 1) := by decide +kernel
theorem dX11_insert_54 : decode cX11_insert 54 = .ok (.iaload, 1) := by decide +kernel
theorem dX11_insert_55 : decode cX11_insert 55 = .ok (.iconst 1, 1) := by decide +kernel
theorem dX11_insert_56 : decode cX11_insert 56 = .ok (.iadd, 1) := by decide +kernel
theorem dX11_insert_57 : decode cX11_insert 57 = .ok (.iastore, 1) := by decide +kernel
theorem dX11_insert_58 : decode cX11_insert 58 = .ok (.return_, 1) := by decide +kernel
theorem dX11_placeOf_0 : decode cX11_placeOf 0 = .ok (.iconst 0, 1) := by decide +kernel
theorem dX11_placeOf_1 : decode cX11_placeOf 1 = .ok (.istore_n 2, 1) := by decide +kernel
theorem dX11_placeOf_2 : decode cX11_placeOf 2 = .ok (.aload_n 0, 1) := by decide +kernel
theorem dX11_placeOf_3 : decode cX11_placeOf 3 = .ok (.iload_n 2, 1) := by decide +kernel
theorem dX11_placeOf_4 : decode cX11_placeOf 4 = .ok (.invokevirtual 99, 3) := by decide +kernel
theorem dX11_placeOf_7 : decode cX11_placeOf 7 = .ok (.iload_n 1, 1) := by decide +kernel
theorem dX11_placeOf_8 : decode cX11_placeOf 8 = .ok (.if_icmp .eq 9, 3) := by decide +kernel
theorem dX11_placeOf_11 : decode cX11_placeOf 11 = .ok (.iinc 2 1, 3) := by decide +kernel
theorem dX11_placeOf_14 : decode cX11_placeOf 14 = .ok (.goto (-12), 3) := by decide +kernel
theorem dX11_placeOf_17 : decode cX11_placeOf 17 = .ok (.iload_n 2, 1) := by decide +kernel
theorem dX11_placeOf_18 : decode cX11_placeOf 18 = .ok (.ireturn, 1) := by decide +kernel
theorem dX11_remove_0 : decode cX11_remove 0 = .ok (.aload_n 0, 1) := by decide +kernel
theorem dX11_remove_1 : decode cX11_remove 1 = .ok (.iload_n 1, 1) := by decide +kernel
theorem dX11_remove_2 : decode cX11_remove 2 = .ok (.invokevirtual 103, 3) := by decide +kernel
theorem dX11_remove_5 : decode cX11_remove 5 = .ok (.istore_n 2, 1) := by decide +kernel
theorem dX11_remove_6 : decode cX11_remove 6 = .ok (.aload_n 0, 1) := by decide +kernel
theorem dX11_remove_7 : decode cX11_remove 7 = .ok (.getfield 31, 3) := by decide +kernel
theorem dX11_remove_10 : decode cX11_remove 10 = .ok (.bipush 6, 2) := by decide +kernel
theorem dX11_remove_12 : decode cX11_remove 12 = .ok (.dup2, 1) := by decide +kernel
theorem dX11_remove_13 : decode cX11_remove 13 = .ok (.iaload, 1) := by decide +kernel
theorem dX11_remove_14 : decode cX11_remove 14 = .ok (.iconst 1, 1) := by decide +kernel
theorem dX11_remove_15 : decode cX11_remove 15 = .ok (.isub, 1) := by decide +kernel
theorem dX11_remove_16 : decode cX11_remove 16 = .ok (.iastore, 1) := by decide +kernel
theorem dX11_remove_17 : decode cX11_remove 17 = .ok (.iload_n 2, 1) := by decide +kernel
theorem dX11_remove_18 : decode cX11_remove 18 = .ok (.istore_n 3, 1) := by decide +kernel
theorem dX11_remove_19 : decode cX11_remove 19 = .ok (.iload_n 3, 1) := by decide +kernel
theorem dX11_remove_20 : decode cX11_remove 20 = .ok (.aload_n 0, 1) := by decide +kernel
theorem dX11_remove_21 : decode cX11_remove 21 = .ok (.getfield 31, 3) := by decide +kernel
theorem dX11_remove_24 : decode cX11_remove 24 = .ok (.bipush 6, 2) := by decide +kernel
theorem dX11_remove_26 : decode cX11_remove 26 = .ok (.iaload, 1) := by decide +kernel
theorem dX11_remove_27 : decode cX11_remove 27 = .ok (.if_icmp .ge 26, 3) := by decide +kernel
theorem dX11_remove_30 : decode cX11_remove 30 = .ok (.aload_n 0, 1) := by decide +kernel
theorem dX11_remove_31 : decode cX11_remove 31 = .ok (.getfield 31, 3) := by decide +kernel
theorem dX11_remove_34 : decode cX11_remove 34 = .ok (.sipush 145, 3) := by decide +kernel
theorem dX11_remove_37 : decode cX11_remove 37 = .ok (.iload_n 3, 1) := by decide +kernel
theorem dX11_remove_38 : decode cX11_remove 38 = .ok (.iadd, 1) := by decide +kernel
theorem dX11_remove_39 : decode cX11_remove 39 = .ok (.aload_n 0, 1) := by decide +kernel
theorem dX11_remove_40 : decode cX11_remove 40 = .ok (.iload_n 3, 1) := by decide +kernel
theorem dX11_remove_41 : decode cX11_remove 41 = .ok (.iconst 1, 1) := by decide +kernel
theorem dX11_remove_42 : decode cX11_remove 42 = .ok (.iadd, 1) := by decide +kernel
theorem dX11_remove_43 : decode cX11_remove 43 = .ok (.invokevirtual 99, 3) := by decide +kernel
theorem dX11_remove_46 : decode cX11_remove 46 = .ok (.iastore, 1) := by decide +kernel
theorem dX11_remove_47 : decode cX11_remove 47 = .ok (.iinc 3 1, 3) := by decide +kernel
theorem dX11_remove_50 : decode cX11_remove 50 = .ok (.goto (-31), 3) := by decide +kernel
theorem dX11_remove_53 : decode cX11_remove 53 = .ok (.iload_n 2, 1) := by decide +kernel
theorem dX11_remove_54 : decode cX11_remove 54 = .ok (.ireturn, 1) := by decide +kernel
theorem dX11_isWrong_0 : decode cX11_isWrong 0 = .ok (.aload_n 0, 1) := by decide +kernel
theorem dX11_isWrong_1 : decode cX11_isWrong 1 = .ok (.iload_n 1, 1) := by decide +kernel
theorem dX11_isWrong_2 : decode cX11_isWrong 2 = .ok (.invokevirtual 106, 3) := by decide +kernel
theorem dX11_isWrong_5 : decode cX11_isWrong 5 = .ok (.aload_n 0, 1) := by decide +kernel
theorem dX11_isWrong_6 : decode cX11_isWrong 6 = .ok (.iload_n 1, 1) := by decide +kernel
theorem dX11_isWrong_7 : decode cX11_isWrong 7 = .ok (.iconst 1, 1) := by decide +kernel
theorem dX11_isWrong_8 : decode cX11_isWrong 8 = .ok (.iadd, 1) := by decide +kernel
theorem dX11_isWrong_9 : decode cX11_isWrong 9 = .ok (.invokevirtual 106, 3) := by decide +kernel
theorem dX11_isWrong_12 : decode cX11_isWrong 12 = .ok (.if_icmp .le 7, 3) := by decide +kernel
theorem dX11_isWrong_15 : decode cX11_isWrong 15 = .ok (.iconst 1, 1) := by decide +kernel
theorem dX11_isWrong_16 : decode cX11_isWrong 16 = .ok (.goto 4, 3) := by decide +kernel
theorem dX11_isWrong_19 : decode cX11_isWrong 19 = .ok (.iconst 0, 1) := by decide +kernel
theorem dX11_isWrong_20 : decode cX11_isWrong 20 = .ok (.ireturn, 1) := by decide +kernel
theorem dX11_firstWrong_0 : decode cX11_firstWrong 0 = .ok (.iconst 0, 1) := by decide +kernel
theorem dX11_firstWrong_1 : decode cX11_firstWrong 1 = .ok (.istore_n 1, 1) := by decide +kernel
theorem dX11_firstWrong_2 : decode cX11_firstWrong 2 = .ok (.iload_n 1, 1) := by decide +kernel
theorem dX11_firstWrong_3 : decode cX11_firstWrong 3 = .ok (.iconst 1, 1) := by decide +kernel
theorem dX11_firstWrong_4 : decode cX11_firstWrong 4 = .ok (.iadd, 1) := by decide +kernel
theorem dX11_firstWrong_5 : decode cX11_firstWrong 5 = .ok (.aload_n 0, 1) := by decide +kernel
theorem dX11_firstWrong_6 : decode cX11_firstWrong 6 = .ok (.getfield 31, 3) := by decide +kernel
theorem dX11_firstWrong_9 : decode cX11_firstWrong 9 = .ok (.bipush 6, 2) := by decide +kernel
theorem dX11_firstWrong_11 : decode cX11_firstWrong 11 = .ok (.iaload, 1) := by decide +kernel
theorem dX11_firstWrong_12 : decode cX11_firstWrong 12 = .ok (.if_icmp .ge 19, 3) := by decide +kernel
theorem dX11_firstWrong_15 : decode cX11_firstWrong 15 = .ok (.aload_n 0, 1) := by decide +kernel
theorem dX11_firstWrong_16 : decode cX11_firstWrong 16 = .ok (.iload_n 1, 1) := by decide +kernel
theorem dX11_firstWrong_17 : decode cX11_firstWrong 17 = .ok (.invokevirtual 109, 3) := by decide +kernel
theorem dX11_firstWrong_20 : decode cX11_firstWrong 20 = .ok (.ifCond .eq 5, 3) := by decide +kernel
theorem dX11_firstWrong_23 : decode cX11_firstWrong 23 = .ok (.iload_n 1, 1) := by decide +kernel
theorem dX11_firstWrong_24 : decode cX11_firstWrong 24 = .ok (.ireturn, 1) := by decide +kernel
theorem dX11_firstWrong_25 : decode cX11_firstWrong 25 = .ok (.iinc 1 1, 3) := by decide +kernel
theorem dX11_firstWrong_28 : decode cX11_firstWrong 28 = .ok (.goto (-26), 3) := by decide +kernel
theorem dX11_firstWrong_31 : decode cX11_firstWrong 31 = .ok (.iconst (-1), 1) := by decide +kernel
theorem dX11_firstWrong_32 : decode cX11_firstWrong 32 = .ok (.ireturn, 1) := by decide +kernel
theorem dX11_countWrong_0 : decode cX11_countWrong 0 = .ok (.iconst 0, 1) := by decide +kernel
theorem dX11_countWrong_1 : decode cX11_countWrong 1 = .ok (.istore_n 1, 1) := by decide +kernel
theorem dX11_countWrong_2 : decode cX11_countWrong 2 = .ok (.iconst 0, 1) := by decide +kernel
theorem dX11_countWrong_3 : decode cX11_countWrong 3 = .ok (.istore_n 2, 1) := by decide +kernel
theorem dX11_countWrong_4 : decode cX11_countWrong 4 = .ok (.iload_n 2, 1) := by decide +kernel
theorem dX11_countWrong_5 : decode cX11_countWrong 5 = .ok (.iconst 1, 1) := by decide +kernel
theorem dX11_countWrong_6 : decode cX11_countWrong 6 = .ok (.iadd, 1) := by decide +kernel
theorem dX11_countWrong_7 : decode cX11_countWrong 7 = .ok (.aload_n 0, 1) := by decide +kernel
theorem dX11_countWrong_8 : decode cX11_countWrong 8 = .ok (.getfield 31, 3) := by decide +kernel
theorem dX11_countWrong_11 : decode cX11_countWrong 11 = .ok (.bipush 6, 2) := by decide +kernel
theorem dX11_countWrong_13 : decode cX11_countWrong 13 = .ok (.iaload, 1) := by decide +kernel
theorem dX11_countWrong_14 : decode cX11_countWrong 14 = .ok (.if_icmp .ge 25, 3) := by decide +kernel
theorem dX11_countWrong_17 : decode cX11_countWrong 17 = .ok (.iload_n 1, 1) := by decide +kernel
theorem dX11_countWrong_18 : decode cX11_countWrong 18 = .ok (.aload_n 0, 1) := by decide +kernel
theorem dX11_countWrong_19 : decode cX11_countWrong 19 = .ok (.iload_n 2, 1) := by decide +kernel
theorem dX11_countWrong_20 : decode cX11_countWrong 20 = .ok (.invokevirtual 109, 3) := by decide +kernel
theorem dX11_countWrong_23 : decode cX11_countWrong 23 = .ok (.ifCond .eq 7, 3) := by decide +kernel
theorem dX11_countWrong_26 : decode cX11_countWrong 26 = .ok (.iconst 1, 1) := by decide +kernel
theorem dX11_countWrong_27 : decode cX11_countWrong 27 = .ok (.goto 4, 3) := by decide +kernel
theorem dX11_countWrong_30 : decode cX11_countWrong 30 = .ok (.iconst 0, 1) := by decide +kernel
theorem dX11_countWrong_31 : decode cX11_countWrong 31 = .ok (.iadd, 1) := by decide +kernel
theorem dX11_countWrong_32 : decode cX11_countWrong 32 = .ok (.istore_n 1, 1) := by decide +kernel
theorem dX11_countWrong_33 : decode cX11_countWrong 33 = .ok (.iinc 2 1, 3) := by decide +kernel
theorem dX11_countWrong_36 : decode cX11_countWrong 36 = .ok (.goto (-32), 3) := by decide +kernel
theorem dX11_countWrong_39 : decode cX11_countWrong 39 = .ok (.iload_n 1, 1) := by decide +kernel
theorem dX11_countWrong_40 : decode cX11_countWrong 40 = .ok (.ireturn, 1) := by decide +kernel
theorem dX11_halve_0 : decode cX11_halve 0 = .ok (.iconst 0, 1) := by decide +kernel
theorem dX11_halve_1 : decode cX11_halve 1 = .ok (.istore_n 2, 1) := by decide +kernel
theorem dX11_halve_2 : decode cX11_halve 2 = .ok (.aload_n 0, 1) := by decide +kernel
theorem dX11_halve_3 : decode cX11_halve 3 = .ok (.getfield 31, 3) := by decide +kernel
theorem dX11_halve_6 : decode cX11_halve 6 = .ok (.bipush 6, 2) := by decide +kernel
theorem dX11_halve_8 : decode cX11_halve 8 = .ok (.iaload, 1) := by decide +kernel
theorem dX11_halve_9 : decode cX11_halve 9 = .ok (.iconst 1, 1) := by decide +kernel
theorem dX11_halve_10 : decode cX11_halve 10 = .ok (.isub, 1) := by decide +kernel
theorem dX11_halve_11 : decode cX11_halve 11 = .ok (.istore_n 3, 1) := by decide +kernel
theorem dX11_halve_12 : decode cX11_halve 12 = .ok (.aload_n 0, 1) := by decide +kernel
theorem dX11_halve_13 : decode cX11_halve 13 = .ok (.iconst 0, 1) := by decide +kernel
theorem dX11_halve_14 : decode cX11_halve 14 = .ok (.putfield 113, 3) := by decide +kernel
theorem dX11_halve_17 : decode cX11_halve 17 = .ok (.aload_n 0, 1) := by decide +kernel
theorem dX11_halve_18 : decode cX11_halve 18 = .ok (.iconst 0, 1) := by decide +kernel
theorem dX11_halve_19 : decode cX11_halve 19 = .ok (.putfield 116, 3) := by decide +kernel
theorem dX11_halve_22 : decode cX11_halve 22 = .ok (.iload_n 2, 1) := by decide +kernel
theorem dX11_halve_23 : decode cX11_halve 23 = .ok (.iload_n 3, 1) := by decide +kernel
theorem dX11_halve_24 : decode cX11_halve 24 = .ok (.if_icmp .gt 89, 3) := by decide +kernel
theorem dX11_halve_27 : decode cX11_halve 27 = .ok (.iload_n 2, 1) := by decide +kernel
theorem dX11_halve_28 : decode cX11_halve 28 = .ok (.iload_n 3, 1) := by decide +kernel
theorem dX11_halve_29 : decode cX11_halve 29 = .ok (.iadd, 1) := by decide +kernel
theorem dX11_halve_30 : decode cX11_halve 30 = .ok (.iconst 2, 1) := by decide +kernel
theorem dX11_halve_31 : decode cX11_halve 31 = .ok (.idiv, 1) := by decide +kernel
theorem dX11_halve_32 : decode cX11_halve 32 = .ok (.istore 4, 2) := by decide +kernel
theorem dX11_halve_34 : decode cX11_halve 34 = .ok (.aload_n 0, 1) := by decide +kernel
theorem dX11_halve_35 : decode cX11_halve 35 = .ok (.iload 4, 2) := by decide +kernel
theorem dX11_halve_37 : decode cX11_halve 37 = .ok (.invokevirtual 106, 3) := by decide +kernel
theorem dX11_halve_40 : decode cX11_halve 40 = .ok (.istore 5, 2) := by decide +kernel
theorem dX11_halve_42 : decode cX11_halve 42 = .ok (.aload_n 0, 1) := by decide +kernel
theorem dX11_halve_43 : decode cX11_halve 43 = .ok (.getfield 34, 3) := by decide +kernel
theorem dX11_halve_46 : decode cX11_halve 46 = .ok (.aload_n 0, 1) := by decide +kernel
theorem dX11_halve_47 : decode cX11_halve 47 = .ok (.getfield 113, 3) := by decide +kernel
theorem dX11_halve_50 : decode cX11_halve 50 = .ok (.iload 4, 2) := by decide +kernel
theorem dX11_halve_52 : decode cX11_halve 52 = .ok (.iastore, 1) := by decide +kernel
theorem dX11_halve_53 : decode cX11_halve 53 = .ok (.aload_n 0, 1) := by decide +kernel
theorem dX11_halve_54 : decode cX11_halve 54 = .ok (.dup, 1) := by decide +kernel
theorem dX11_halve_55 : decode cX11_halve 55 = .ok (.getfield 113, 3) := by decide +kernel
theorem dX11_halve_58 : decode cX11_halve 58 = .ok (.iconst 1, 1) := by decide +kernel
theorem dX11_halve_59 : decode cX11_halve 59 = .ok (.iadd, 1) := by decide +kernel
theorem dX11_halve_60 : decode cX11_halve 60 = .ok (.putfield 113, 3) := by decide +kernel
theorem dX11_halve_63 : decode cX11_halve 63 = .ok (.aload_n 0, 1) := by decide +kernel
theorem dX11_halve_64 : decode cX11_halve 64 = .ok (.iload 5, 2) := by decide +kernel
theorem dX11_halve_66 : decode cX11_halve 66 = .ok (.iload_n 1, 1) := by decide +kernel
theorem dX11_halve_67 : decode cX11_halve 67 = .ok (.if_icmp .lt 8, 3) := by decide +kernel
theorem dX11_halve_70 : decode cX11_halve 70 = .ok (.iload 4, 2) := by decide +kernel
theorem dX11_halve_72 : decode cX11_halve 72 = .ok (.goto 7, 3) := by decide +kernel
theorem dX11_halve_75 : decode cX11_halve 75 = .ok (.iload 4, 2) := by decide +kernel
theorem dX11_halve_77 : decode cX11_halve 77 = .ok (.iconst 1, 1) := by decide +kernel
theorem dX11_halve_78 : decode cX11_halve 78 = .ok (.iadd, 1) := by decide +kernel
theorem dX11_halve_79 : decode cX11_halve 79 = .ok (.putfield 116, 3) := by decide +kernel
theorem dX11_halve_82 : decode cX11_halve 82 = .ok (.iload 5, 2) := by decide +kernel
theorem dX11_halve_84 : decode cX11_halve 84 = .ok (.iload_n 1, 1) := by decide +kernel
theorem dX11_halve_85 : decode cX11_halve 85 = .ok (.if_icmp .ne 6, 3) := by decide +kernel
theorem dX11_halve_88 : decode cX11_halve 88 = .ok (.iload 4, 2) := by decide +kernel
theorem dX11_halve_90 : decode cX11_halve 90 = .ok (.ireturn, 1) := by decide +kernel
theorem dX11_halve_91 : decode cX11_halve 91 = .ok (.iload 5, 2) := by decide +kernel
theorem dX11_halve_93 : decode cX11_halve 93 = .ok (.iload_n 1, 1) := by decide +kernel
theorem dX11_halve_94 : decode cX11_halve 94 = .ok (.if_icmp .le 11, 3) := by decide +kernel
theorem dX11_halve_97 : decode cX11_halve 97 = .ok (.iload 4, 2) := by decide +kernel
theorem dX11_halve_99 : decode cX11_halve 99 = .ok (.iconst 1, 1) := by decide +kernel
theorem dX11_halve_100 : decode cX11_halve 100 = .ok (.isub, 1) := by decide +kernel
theorem dX11_halve_101 : decode cX11_halve 101 = .ok (.istore_n 3, 1) := by decide +kernel
theorem dX11_halve_102 : decode cX11_halve 102 = .ok (.goto 8, 3) := by decide +kernel
theorem dX11_halve_105 : decode cX11_halve 105 = .ok (.iload 4, 2) := by decide +kernel
theorem dX11_halve_107 : decode cX11_halve 107 = .ok (.iconst 1, 1) := by decide +kernel
theorem dX11_halve_108 : decode cX11_halve 108 = .ok (.iadd, 1) := by decide +kernel
theorem dX11_halve_109 : decode cX11_halve 109 = .ok (.istore_n 2, 1) := by decide +kernel
theorem dX11_halve_110 : decode cX11_halve 110 = .ok (.goto (-88), 3) := by decide +kernel
theorem dX11_halve_113 : decode cX11_halve 113 = .ok (.iconst (-1), 1) := by decide +kernel
theorem dX11_halve_114 : decode cX11_halve 114 = .ok (.ireturn, 1) := by decide +kernel
theorem dX11_countMissed_0 : decode cX11_countMissed 0 = .ok (.iconst 0, 1) := by decide +kernel
theorem dX11_countMissed_1 : decode cX11_countMissed 1 = .ok (.istore_n 1, 1) := by decide +kernel
theorem dX11_countMissed_2 : decode cX11_countMissed 2 = .ok (.iconst 0, 1) := by decide +kernel
theorem dX11_countMissed_3 : decode cX11_countMissed 3 = .ok (.istore_n 2, 1) := by decide +kernel
theorem dX11_countMissed_4 : decode cX11_countMissed 4 = .ok (.iload_n 2, 1) := by decide +kernel
theorem dX11_countMissed_5 : decode cX11_countMissed 5 = .ok (.aload_n 0, 1) := by decide +kernel
theorem dX11_countMissed_6 : decode cX11_countMissed 6 = .ok (.getfield 31, 3) := by decide +kernel
theorem dX11_countMissed_9 : decode cX11_countMissed 9 = .ok (.bipush 6, 2) := by decide +kernel
theorem dX11_countMissed_11 : decode cX11_countMissed 11 = .ok (.iaload, 1) := by decide +kernel
theorem dX11_countMissed_12 : decode cX11_countMissed 12 = .ok (.if_icmp .ge 30, 3) := by decide +kernel
theorem dX11_countMissed_15 : decode cX11_countMissed 15 = .ok (.iload_n 1, 1) := by decide +kernel
theorem dX11_countMissed_16 : decode cX11_countMissed 16 = .ok (.aload_n 0, 1) := by decide +kernel
theorem dX11_countMissed_17 : decode cX11_countMissed 17 = .ok (.aload_n 0, 1) := by decide +kernel
theorem dX11_countMissed_18 : decode cX11_countMissed 18 = .ok (.iload_n 2, 1) := by decide +kernel
theorem dX11_countMissed_19 : decode cX11_countMissed 19 = .ok (.invokevirtual 106, 3) := by decide +kernel
theorem dX11_countMissed_22 : decode cX11_countMissed 22 = .ok (.invokevirtual 119, 3) := by decide +kernel
theorem dX11_countMissed_25 : decode cX11_countMissed 25 = .ok (.iload_n 2, 1) := by decide +kernel
theorem dX11_countMissed_26 : decode cX11_countMissed 26 = .ok (.if_icmp .eq 7, 3) := by decide +kernel
theorem dX11_countMissed_29 : decode cX11_countMissed 29 = .ok (.iconst 1, 1) := by decide +kernel
theorem dX11_countMissed_30 : decode cX11_countMissed 30 = .ok (.goto 4, 3) := by decide +kernel
theorem dX11_countMissed_33 : decode cX11_countMissed 33 = .ok (.iconst 0, 1) := by decide +kernel
theorem dX11_countMissed_34 : decode cX11_countMissed 34 = .ok (.iadd, 1) := by decide +kernel
theorem dX11_countMissed_35 : decode cX11_countMissed 35 = .ok (.istore_n 1, 1) := by decide +kernel
theorem dX11_countMissed_36 : decode cX11_countMissed 36 = .ok (.iinc 2 1, 3) := by decide +kernel
theorem dX11_countMissed_39 : decode cX11_countMissed 39 = .ok (.goto (-35), 3) := by decide +kernel
theorem dX11_countMissed_42 : decode cX11_countMissed 42 = .ok (.iload_n 1, 1) := by decide +kernel
theorem dX11_countMissed_43 : decode cX11_countMissed 43 = .ok (.ireturn, 1) := by decide +kernel
theorem dX11_orderPlace_0 : decode cX11_orderPlace 0 = .ok (.iconst 0, 1) := by decide +kernel
theorem dX11_orderPlace_1 : decode cX11_orderPlace 1 = .ok (.istore_n 2, 1) := by decide +kernel
theorem dX11_orderPlace_2 : decode cX11_orderPlace 2 = .ok (.iconst 0, 1) := by decide +kernel
theorem dX11_orderPlace_3 : decode cX11_orderPlace 3 = .ok (.istore_n 3, 1) := by decide +kernel
theorem dX11_orderPlace_4 : decode cX11_orderPlace 4 = .ok (.iload_n 3, 1) := by decide +kernel
theorem dX11_orderPlace_5 : decode cX11_orderPlace 5 = .ok (.aload_n 0, 1) := by decide +kernel
theorem dX11_orderPlace_6 : decode cX11_orderPlace 6 = .ok (.getfield 31, 3) := by decide +kernel
theorem dX11_orderPlace_9 : decode cX11_orderPlace 9 = .ok (.bipush 6, 2) := by decide +kernel
theorem dX11_orderPlace_11 : decode cX11_orderPlace 11 = .ok (.iaload, 1) := by decide +kernel
theorem dX11_orderPlace_12 : decode cX11_orderPlace 12 = .ok (.if_icmp .ge 31, 3) := by decide +kernel
theorem dX11_orderPlace_15 : decode cX11_orderPlace 15 = .ok (.iload_n 2, 1) := by decide +kernel
theorem dX11_orderPlace_16 : decode cX11_orderPlace 16 = .ok (.aload_n 0, 1) := by decide +kernel
theorem dX11_orderPlace_17 : decode cX11_orderPlace 17 = .ok (.iload_n 3, 1) := by decide +kernel
theorem dX11_orderPlace_18 : decode cX11_orderPlace 18 = .ok (.invokevirtual 106, 3) := by decide +kernel
theorem dX11_orderPlace_21 : decode cX11_orderPlace 21 = .ok (.aload_n 0, 1) := by decide +kernel
theorem dX11_orderPlace_22 : decode cX11_orderPlace 22 = .ok (.iload_n 1, 1) := by decide +kernel
theorem dX11_orderPlace_23 : decode cX11_orderPlace 23 = .ok (.iconst 0, 1) := by decide +kernel
theorem dX11_orderPlace_24 : decode cX11_orderPlace 24 = .ok (.invokevirtual 95, 3) := by decide +kernel
theorem dX11_orderPlace_27 : decode cX11_orderPlace 27 = .ok (.if_icmp .ge 7, 3) := by decide +kernel
theorem dX11_orderPlace_30 : decode cX11_orderPlace 30 = .ok (.iconst 1, 1) := by decide +kernel
theorem dX11_orderPlace_31 : decode cX11_orderPlace 31 = .ok (.goto 4, 3) := by decide +kernel
theorem dX11_orderPlace_34 : decode cX11_orderPlace 34 = .ok (.iconst 0, 1) := by decide +kernel
theorem dX11_orderPlace_35 : decode cX11_orderPlace 35 = .ok (.iadd, 1) := by decide +kernel
theorem dX11_orderPlace_36 : decode cX11_orderPlace 36 = .ok (.istore_n 2, 1) := by decide +kernel
theorem dX11_orderPlace_37 : decode cX11_orderPlace 37 = .ok (.iinc 3 1, 3) := by decide +kernel
theorem dX11_orderPlace_40 : decode cX11_orderPlace 40 = .ok (.goto (-36), 3) := by decide +kernel
theorem dX11_orderPlace_43 : decode cX11_orderPlace 43 = .ok (.iload_n 2, 1) := by decide +kernel
theorem dX11_orderPlace_44 : decode cX11_orderPlace 44 = .ok (.ireturn, 1) := by decide +kernel
theorem dX11_countInversions_0 : decode cX11_countInversions 0 = .ok (.iconst 0, 1) := by decide +kernel
theorem dX11_countInversions_1 : decode cX11_countInversions 1 = .ok (.istore_n 1, 1) := by decide +kernel
theorem dX11_countInversions_2 : decode cX11_countInversions 2 = .ok (.iconst 0, 1) := by decide +kernel
theorem dX11_countInversions_3 : decode cX11_countInversions 3 = .ok (.istore_n 2, 1) := by decide +kernel
theorem dX11_countInversions_4 : decode cX11_countInversions 4 = .ok (.iload_n 2, 1) := by decide +kernel
theorem dX11_countInversions_5 : decode cX11_countInversions 5 = .ok (.aload_n 0, 1) := by decide +kernel
theorem dX11_countInversions_6 : decode cX11_countInversions 6 = .ok (.getfield 31, 3) := by decide +kernel
theorem dX11_countInversions_9 : decode cX11_countInversions 9 = .ok (.bipush 6, 2) := by decide +kernel
theorem dX11_countInversions_11 : decode cX11_countInversions 11 = .ok (.iaload, 1) := by decide +kernel
theorem dX11_countInversions_12 : decode cX11_countInversions 12 = .ok (.if_icmp .ge 43, 3) := by decide +kernel
theorem dX11_countInversions_15 : decode cX11_countInversions 15 = .ok (.iconst 0, 1) := by decide +kernel
theorem dX11_countInversions_16 : decode cX11_countInversions 16 = .ok (.istore_n 3, 1) := by decide +kernel
theorem dX11_countInversions_17 : decode cX11_countInversions 17 = .ok (.iload_n 3, 1) := by decide +kernel
theorem dX11_countInversions_18 : decode cX11_countInversions 18 = .ok (.iload_n 2, 1) := by decide +kernel
theorem dX11_countInversions_19 : decode cX11_countInversions 19 = .ok (.if_icmp .ge 30, 3) := by decide +kernel
theorem dX11_countInversions_22 : decode cX11_countInversions 22 = .ok (.iload_n 1, 1) := by decide +kernel
theorem dX11_countInversions_23 : decode cX11_countInversions 23 = .ok (.aload_n 0, 1) := by decide +kernel
theorem dX11_countInversions_24 : decode cX11_countInversions 24 = .ok (.iload_n 3, 1) := by decide +kernel
theorem dX11_countInversions_25 : decode cX11_countInversions 25 = .ok (.invokevirtual 106, 3) := by decide +kernel
theorem dX11_countInversions_28 : decode cX11_countInversions 28 = .ok (.aload_n 0, 1) := by decide +kernel
theorem dX11_countInversions_29 : decode cX11_countInversions 29 = .ok (.iload_n 2, 1) := by decide +kernel
theorem dX11_countInversions_30 : decode cX11_countInversions 30 = .ok (.invokevirtual 106, 3) := by decide +kernel
theorem dX11_countInversions_33 : decode cX11_countInversions 33 = .ok (.if_icmp .le 7, 3) := by decide +kernel
theorem dX11_countInversions_36 : decode cX11_countInversions 36 = .ok (.iconst 1, 1) := by decide +kernel
theorem dX11_countInversions_37 : decode cX11_countInversions 37 = .ok (.goto 4, 3) := by decide +kernel
theorem dX11_countInversions_40 : decode cX11_countInversions 40 = .ok (.iconst 0, 1) := by decide +kernel
theorem dX11_countInversions_41 : decode cX11_countInversions 41 = .ok (.iadd, 1) := by decide +kernel
theorem dX11_countInversions_42 : decode cX11_countInversions 42 = .ok (.istore_n 1, 1) := by decide +kernel
theorem dX11_countInversions_43 : decode cX11_countInversions 43 = .ok (.iinc 3 1, 3) := by decide +kernel
theorem dX11_countInversions_46 : decode cX11_countInversions 46 = .ok (.goto (-29), 3) := by decide +kernel
theorem dX11_countInversions_49 : decode cX11_countInversions 49 = .ok (.iinc 2 1, 3) := by decide +kernel
theorem dX11_countInversions_52 : decode cX11_countInversions 52 = .ok (.goto (-48), 3) := by decide +kernel
theorem dX11_countInversions_55 : decode cX11_countInversions 55 = .ok (.iload_n 1, 1) := by decide +kernel
theorem dX11_countInversions_56 : decode cX11_countInversions 56 = .ok (.ireturn, 1) := by decide +kernel
theorem dX11_swapOn_0 : decode cX11_swapOn 0 = .ok (.iconst 0, 1) := by decide +kernel
theorem dX11_swapOn_1 : decode cX11_swapOn 1 = .ok (.istore_n 2, 1) := by decide +kernel
theorem dX11_swapOn_2 : decode cX11_swapOn 2 = .ok (.iload_n 2, 1) := by decide +kernel
theorem dX11_swapOn_3 : decode cX11_swapOn 3 = .ok (.iload_n 1, 1) := by decide +kernel
theorem dX11_swapOn_4 : decode cX11_swapOn 4 = .ok (.if_icmp .ge 60, 3) := by decide +kernel
theorem dX11_swapOn_7 : decode cX11_swapOn 7 = .ok (.aload_n 0, 1) := by decide +kernel
theorem dX11_swapOn_8 : decode cX11_swapOn 8 = .ok (.invokevirtual 122, 3) := by decide +kernel
theorem dX11_swapOn_11 : decode cX11_swapOn 11 = .ok (.iconst (-1), 1) := by decide +kernel
theorem dX11_swapOn_12 : decode cX11_swapOn 12 = .ok (.if_icmp .eq 52, 3) := by decide +kernel
theorem dX11_swapOn_15 : decode cX11_swapOn 15 = .ok (.aload_n 0, 1) := by decide +kernel
theorem dX11_swapOn_16 : decode cX11_swapOn 16 = .ok (.invokevirtual 122, 3) := by decide +kernel
theorem dX11_swapOn_19 : decode cX11_swapOn 19 = .ok (.istore_n 3, 1) := by decide +kernel
theorem dX11_swapOn_20 : decode cX11_swapOn 20 = .ok (.aload_n 0, 1) := by decide +kernel
theorem dX11_swapOn_21 : decode cX11_swapOn 21 = .ok (.iload_n 3, 1) := by decide +kernel
theorem dX11_swapOn_22 : decode cX11_swapOn 22 = .ok (.invokevirtual 99, 3) := by decide +kernel
theorem dX11_swapOn_25 : decode cX11_swapOn 25 = .ok (.istore 4, 2) := by decide +kernel
theorem dX11_swapOn_27 : decode cX11_swapOn 27 = .ok (.aload_n 0, 1) := by decide +kernel
theorem dX11_swapOn_28 : decode cX11_swapOn 28 = .ok (.getfield 31, 3) := by decide +kernel
theorem dX11_swapOn_31 : decode cX11_swapOn 31 = .ok (.sipush 145, 3) := by decide +kernel
theorem dX11_swapOn_34 : decode cX11_swapOn 34 = .ok (.iload_n 3, 1) := by decide +kernel
theorem dX11_swapOn_35 : decode cX11_swapOn 35 = .ok (.iadd, 1) := by decide +kernel
theorem dX11_swapOn_36 : decode cX11_swapOn 36 = .ok (.aload_n 0, 1) := by decide +kernel
theorem dX11_swapOn_37 : decode cX11_swapOn 37 = .ok (.iload_n 3, 1) := by decide +kernel
theorem dX11_swapOn_38 : decode cX11_swapOn 38 = .ok (.iconst 1, 1) := by decide +kernel
theorem dX11_swapOn_39 : decode cX11_swapOn 39 = .ok (.iadd, 1) := by decide +kernel
theorem dX11_swapOn_40 : decode cX11_swapOn 40 = .ok (.invokevirtual 99, 3) := by decide +kernel
theorem dX11_swapOn_43 : decode cX11_swapOn 43 = .ok (.iastore, 1) := by decide +kernel
theorem dX11_swapOn_44 : decode cX11_swapOn 44 = .ok (.aload_n 0, 1) := by decide +kernel
theorem dX11_swapOn_45 : decode cX11_swapOn 45 = .ok (.getfield 31, 3) := by decide +kernel
theorem dX11_swapOn_48 : decode cX11_swapOn 48 = .ok (.sipush 145, 3) := by decide +kernel
theorem dX11_swapOn_51 : decode cX11_swapOn 51 = .ok (.iload_n 3, 1) := by decide +kernel
theorem dX11_swapOn_52 : decode cX11_swapOn 52 = .ok (.iadd, 1) := by decide +kernel
theorem dX11_swapOn_53 : decode cX11_swapOn 53 = .ok (.iconst 1, 1) := by decide +kernel
theorem dX11_swapOn_54 : decode cX11_swapOn 54 = .ok (.iadd, 1) := by decide +kernel
theorem dX11_swapOn_55 : decode cX11_swapOn 55 = .ok (.iload 4, 2) := by decide +kernel
theorem dX11_swapOn_57 : decode cX11_swapOn 57 = .ok (.iastore, 1) := by decide +kernel
theorem dX11_swapOn_58 : decode cX11_swapOn 58 = .ok (.iinc 2 1, 3) := by decide +kernel
theorem dX11_swapOn_61 : decode cX11_swapOn 61 = .ok (.goto (-59), 3) := by decide +kernel
theorem dX11_swapOn_64 : decode cX11_swapOn 64 = .ok (.iload_n 2, 1) := by decide +kernel
theorem dX11_swapOn_65 : decode cX11_swapOn 65 = .ok (.ireturn, 1) := by decide +kernel
theorem dX11_foldersOf_0 : decode cX11_foldersOf 0 = .ok (.iconst 0, 1) := by decide +kernel
theorem dX11_foldersOf_1 : decode cX11_foldersOf 1 = .ok (.istore_n 2, 1) := by decide +kernel
theorem dX11_foldersOf_2 : decode cX11_foldersOf 2 = .ok (.iconst 0, 1) := by decide +kernel
theorem dX11_foldersOf_3 : decode cX11_foldersOf 3 = .ok (.istore_n 3, 1) := by decide +kernel
theorem dX11_foldersOf_4 : decode cX11_foldersOf 4 = .ok (.iload_n 3, 1) := by decide +kernel
theorem dX11_foldersOf_5 : decode cX11_foldersOf 5 = .ok (.aload_n 0, 1) := by decide +kernel
theorem dX11_foldersOf_6 : decode cX11_foldersOf 6 = .ok (.getfield 31, 3) := by decide +kernel
theorem dX11_foldersOf_9 : decode cX11_foldersOf 9 = .ok (.iconst 5, 1) := by decide +kernel
theorem dX11_foldersOf_10 : decode cX11_foldersOf 10 = .ok (.iaload, 1) := by decide +kernel
theorem dX11_foldersOf_11 : decode cX11_foldersOf 11 = .ok (.if_icmp .ge 36, 3) := by decide +kernel
theorem dX11_foldersOf_14 : decode cX11_foldersOf 14 = .ok (.iload_n 2, 1) := by decide +kernel
theorem dX11_foldersOf_15 : decode cX11_foldersOf 15 = .ok (.aload_n 0, 1) := by decide +kernel
theorem dX11_foldersOf_16 : decode cX11_foldersOf 16 = .ok (.iload_n 3, 1) := by decide +kernel
theorem dX11_foldersOf_17 : decode cX11_foldersOf 17 = .ok (.iconst 1, 1) := by decide +kernel
theorem dX11_foldersOf_18 : decode cX11_foldersOf 18 = .ok (.invokevirtual 126, 3) := by decide +kernel
theorem dX11_foldersOf_21 : decode cX11_foldersOf 21 = .ok (.ifCond .eq 17, 3) := by decide +kernel
theorem dX11_foldersOf_24 : decode cX11_foldersOf 24 = .ok (.aload_n 0, 1) := by decide +kernel
theorem dX11_foldersOf_25 : decode cX11_foldersOf 25 = .ok (.iload_n 3, 1) := by decide +kernel
theorem dX11_foldersOf_26 : decode cX11_foldersOf 26 = .ok (.iconst 3, 1) := by decide +kernel
theorem dX11_foldersOf_27 : decode cX11_foldersOf 27 = .ok (.invokevirtual 95, 3) := by decide +kernel
theorem dX11_foldersOf_30 : decode cX11_foldersOf 30 = .ok (.iload_n 1, 1) := by decide +kernel
theorem dX11_foldersOf_31 : decode cX11_foldersOf 31 = .ok (.if_icmp .ne 7, 3) := by decide +kernel
theorem dX11_foldersOf_34 : decode cX11_foldersOf 34 = .ok (.iconst 1, 1) := by decide +kernel
theorem dX11_foldersOf_35 : decode cX11_foldersOf 35 = .ok (.goto 4, 3) := by decide +kernel
theorem dX11_foldersOf_38 : decode cX11_foldersOf 38 = .ok (.iconst 0, 1) := by decide +kernel
theorem dX11_foldersOf_39 : decode cX11_foldersOf 39 = .ok (.iadd, 1) := by decide +kernel
theorem dX11_foldersOf_40 : decode cX11_foldersOf 40 = .ok (.istore_n 2, 1) := by decide +kernel
theorem dX11_foldersOf_41 : decode cX11_foldersOf 41 = .ok (.iinc 3 1, 3) := by decide +kernel
theorem dX11_foldersOf_44 : decode cX11_foldersOf 44 = .ok (.goto (-40), 3) := by decide +kernel
theorem dX11_foldersOf_47 : decode cX11_foldersOf 47 = .ok (.iload_n 2, 1) := by decide +kernel
theorem dX11_foldersOf_48 : decode cX11_foldersOf 48 = .ok (.ireturn, 1) := by decide +kernel
theorem dX11_isClosed_0 : decode cX11_isClosed 0 = .ok (.aload_n 0, 1) := by decide +kernel
theorem dX11_isClosed_1 : decode cX11_isClosed 1 = .ok (.getfield 31, 3) := by decide +kernel
theorem dX11_isClosed_4 : decode cX11_isClosed 4 = .ok (.iconst 0, 1) := by decide +kernel
theorem dX11_isClosed_5 : decode cX11_isClosed 5 = .ok (.iaload, 1) := by decide +kernel
theorem dX11_isClosed_6 : decode cX11_isClosed 6 = .ok (.aload_n 0, 1) := by decide +kernel
theorem dX11_isClosed_7 : decode cX11_isClosed 7 = .ok (.iload_n 1, 1) := by decide +kernel
theorem dX11_isClosed_8 : decode cX11_isClosed 8 = .ok (.iconst 1, 1) := by decide +kernel
theorem dX11_isClosed_9 : decode cX11_isClosed 9 = .ok (.invokevirtual 95, 3) := by decide +kernel
theorem dX11_isClosed_12 : decode cX11_isClosed 12 = .ok (.if_icmp .ge 7, 3) := by decide +kernel
theorem dX11_isClosed_15 : decode cX11_isClosed 15 = .ok (.iconst 1, 1) := by decide +kernel
theorem dX11_isClosed_16 : decode cX11_isClosed 16 = .ok (.goto 4, 3) := by decide +kernel
theorem dX11_isClosed_19 : decode cX11_isClosed 19 = .ok (.iconst 0, 1) := by decide +kernel
theorem dX11_isClosed_20 : decode cX11_isClosed 20 = .ok (.ireturn, 1) := by decide +kernel
theorem dX11_slipOf_0 : decode cX11_slipOf 0 = .ok (.iconst 0, 1) := by decide +kernel
theorem dX11_slipOf_1 : decode cX11_slipOf 1 = .ok (.istore_n 3, 1) := by decide +kernel
theorem dX11_slipOf_2 : decode cX11_slipOf 2 = .ok (.iload_n 3, 1) := by decide +kernel
theorem dX11_slipOf_3 : decode cX11_slipOf 3 = .ok (.aload_n 0, 1) := by decide +kernel
theorem dX11_slipOf_4 : decode cX11_slipOf 4 = .ok (.getfield 31, 3) := by decide +kernel
theorem dX11_slipOf_7 : decode cX11_slipOf 7 = .ok (.bipush 8, 2) := by decide +kernel
theorem dX11_slipOf_9 : decode cX11_slipOf 9 = .ok (.iaload, 1) := by decide +kernel
theorem dX11_slipOf_10 : decode cX11_slipOf 10 = .ok (.if_icmp .ge 31, 3) := by decide +kernel
theorem dX11_slipOf_13 : decode cX11_slipOf 13 = .ok (.aload_n 0, 1) := by decide +kernel
theorem dX11_slipOf_14 : decode cX11_slipOf 14 = .ok (.iload_n 3, 1) := by decide +kernel
theorem dX11_slipOf_15 : decode cX11_slipOf 15 = .ok (.iconst 0, 1) := by decide +kernel
theorem dX11_slipOf_16 : decode cX11_slipOf 16 = .ok (.invokevirtual 130, 3) := by decide +kernel
theorem dX11_slipOf_19 : decode cX11_slipOf 19 = .ok (.iload_n 1, 1) := by decide +kernel
theorem dX11_slipOf_20 : decode cX11_slipOf 20 = .ok (.if_icmp .ne 15, 3) := by decide +kernel
theorem dX11_slipOf_23 : decode cX11_slipOf 23 = .ok (.aload_n 0, 1) := by decide +kernel
theorem dX11_slipOf_24 : decode cX11_slipOf 24 = .ok (.iload_n 3, 1) := by decide +kernel
theorem dX11_slipOf_25 : decode cX11_slipOf 25 = .ok (.iconst 1, 1) := by decide +kernel
theorem dX11_slipOf_26 : decode cX11_slipOf 26 = .ok (.invokevirtual 130, 3) := by decide +kernel
theorem dX11_slipOf_29 : decode cX11_slipOf 29 = .ok (.iload_n 2, 1) := by decide +kernel
theorem dX11_slipOf_30 : decode cX11_slipOf 30 = .ok (.if_icmp .ne 5, 3) := by decide +kernel
theorem dX11_slipOf_33 : decode cX11_slipOf 33 = .ok (.iload_n 3, 1) := by decide +kernel
theorem dX11_slipOf_34 : decode cX11_slipOf 34 = .ok (.ireturn, 1) := by decide +kernel
theorem dX11_slipOf_35 : decode cX11_slipOf 35 = .ok (.iinc 3 1, 3) := by decide +kernel
theorem dX11_slipOf_38 : decode cX11_slipOf 38 = .ok (.goto (-36), 3) := by decide +kernel
theorem dX11_slipOf_41 : decode cX11_slipOf 41 = .ok (.iconst (-1), 1) := by decide +kernel
theorem dX11_slipOf_42 : decode cX11_slipOf 42 = .ok (.ireturn, 1) := by decide +kernel
theorem dX11_isSlip_0 : decode cX11_isSlip 0 = .ok (.iload_n 1, 1) := by decide +kernel
theorem dX11_isSlip_1 : decode cX11_isSlip 1 = .ok (.iconst 0, 1) := by decide +kernel
theorem dX11_isSlip_2 : decode cX11_isSlip 2 = .ok (.aload_n 0, 1) := by decide +kernel
theorem dX11_isSlip_3 : decode cX11_isSlip 3 = .ok (.getfield 31, 3) := by decide +kernel
theorem dX11_isSlip_6 : decode cX11_isSlip 6 = .ok (.bipush 8, 2) := by decide +kernel
theorem dX11_isSlip_8 : decode cX11_isSlip 8 = .ok (.iaload, 1) := by decide +kernel
theorem dX11_isSlip_9 : decode cX11_isSlip 9 = .ok (.iconst 1, 1) := by decide +kernel
theorem dX11_isSlip_10 : decode cX11_isSlip 10 = .ok (.isub, 1) := by decide +kernel
theorem dX11_isSlip_11 : decode cX11_isSlip 11 = .ok (.invokestatic 91, 3) := by decide +kernel
theorem dX11_isSlip_14 : decode cX11_isSlip 14 = .ok (.ireturn, 1) := by decide +kernel
theorem dX11_addSlip_0 : decode cX11_addSlip 0 = .ok (.sipush 193, 3) := by decide +kernel
theorem dX11_addSlip_3 : decode cX11_addSlip 3 = .ok (.iconst 4, 1) := by decide +kernel
theorem dX11_addSlip_4 : decode cX11_addSlip 4 = .ok (.aload_n 0, 1) := by decide +kernel
theorem dX11_addSlip_5 : decode cX11_addSlip 5 = .ok (.getfield 31, 3) := by decide +kernel
theorem dX11_addSlip_8 : decode cX11_addSlip 8 = .ok (.bipush 8, 2) := by decide +kernel
theorem dX11_addSlip_10 : decode cX11_addSlip 10 = .ok (.iaload, 1) := by decide +kernel
theorem dX11_addSlip_11 : decode cX11_addSlip 11 = .ok (.imul, 1) := by decide +kernel
theorem dX11_addSlip_12 : decode cX11_addSlip 12 = .ok (.iadd, 1) := by decide +kernel
theorem dX11_addSlip_13 : decode cX11_addSlip 13 = .ok (.istore_n 3, 1) := by decide +kernel
theorem dX11_addSlip_14 : decode cX11_addSlip 14 = .ok (.aload_n 0, 1) := by decide +kernel
theorem dX11_addSlip_15 : decode cX11_addSlip 15 = .ok (.getfield 31, 3) := by decide +kernel
theorem dX11_addSlip_18 : decode cX11_addSlip 18 = .ok (.iload_n 3, 1) := by decide +kernel
theorem dX11_addSlip_19 : decode cX11_addSlip 19 = .ok (.iconst 0, 1) := by decide +kernel
theorem dX11_addSlip_20 : decode cX11_addSlip 20 = .ok (.iadd, 1) := by decide +kernel
theorem dX11_addSlip_21 : decode cX11_addSlip 21 = .ok (.iload_n 1, 1) := by decide +kernel
theorem dX11_addSlip_22 : decode cX11_addSlip 22 = .ok (.iastore, 1) := by decide +kernel
theorem dX11_addSlip_23 : decode cX11_addSlip 23 = .ok (.aload_n 0, 1) := by decide +kernel
theorem dX11_addSlip_24 : decode cX11_addSlip 24 = .ok (.getfield 31, 3) := by decide +kernel
theorem dX11_addSlip_27 : decode cX11_addSlip 27 = .ok (.iload_n 3, 1) := by decide +kernel
theorem dX11_addSlip_28 : decode cX11_addSlip 28 = .ok (.iconst 1, 1) := by decide +kernel
theorem dX11_addSlip_29 : decode cX11_addSlip 29 = .ok (.iadd, 1) := by decide +kernel
theorem dX11_addSlip_30 : decode cX11_addSlip 30 = .ok (.iload_n 2, 1) := by decide +kernel
theorem dX11_addSlip_31 : decode cX11_addSlip 31 = .ok (.iastore, 1) := by decide +kernel
theorem dX11_addSlip_32 : decode cX11_addSlip 32 = .ok (.aload_n 0, 1) := by decide +kernel
theorem dX11_addSlip_33 : decode cX11_addSlip 33 = .ok (.getfield 31, 3) := by decide +kernel
theorem dX11_addSlip_36 : decode cX11_addSlip 36 = .ok (.iload_n 3, 1) := by decide +kernel
theorem dX11_addSlip_37 : decode cX11_addSlip 37 = .ok (.iconst 2, 1) := by decide +kernel
theorem dX11_addSlip_38 : decode cX11_addSlip 38 = .ok (.iadd, 1) := by decide +kernel
theorem dX11_addSlip_39 : decode cX11_addSlip 39 = .ok (.aload_n 0, 1) := by decide +kernel
theorem dX11_addSlip_40 : decode cX11_addSlip 40 = .ok (.getfield 31, 3) := by decide +kernel
theorem dX11_addSlip_43 : decode cX11_addSlip 43 = .ok (.iconst 0, 1) := by decide +kernel
theorem dX11_addSlip_44 : decode cX11_addSlip 44 = .ok (.iaload, 1) := by decide +kernel
theorem dX11_addSlip_45 : decode cX11_addSlip 45 = .ok (.iastore, 1) := by decide +kernel
theorem dX11_addSlip_46 : decode cX11_addSlip 46 = .ok (.aload_n 0, 1) := by decide +kernel
theorem dX11_addSlip_47 : decode cX11_addSlip 47 = .ok (.getfield 31, 3) := by decide +kernel
theorem dX11_addSlip_50 : decode cX11_addSlip 50 = .ok (.iload_n 3, 1) := by decide +kernel
theorem dX11_addSlip_51 : decode cX11_addSlip 51 = .ok (.iconst 3, 1) := by decide +kernel
theorem dX11_addSlip_52 : decode cX11_addSlip 52 = .ok (.iadd, 1) := by decide +kernel
theorem dX11_addSlip_53 : decode cX11_addSlip 53 = .ok (.iconst 0, 1) := by decide +kernel
theorem dX11_addSlip_54 : decode cX11_addSlip 54 = .ok (.iastore, 1) := by decide +kernel
theorem dX11_addSlip_55 : decode cX11_addSlip 55 = .ok (.aload_n 0, 1) := by decide +kernel
theorem dX11_addSlip_56 : decode cX11_addSlip 56 = .ok (.getfield 31, 3) := by decide +kernel
theorem dX11_addSlip_59 : decode cX11_addSlip 59 = .ok (.bipush 8, 2) := by decide +kernel
theorem dX11_addSlip_61 : decode cX11_addSlip 61 = .ok (.dup2, 1) := by decide +kernel
theorem dX11_addSlip_62 : decode cX11_addSlip 62 = .ok (.iaload, 1) := by decide +kernel
theorem dX11_addSlip_63 : decode cX11_addSlip 63 = .ok (.iconst 1, 1) := by decide +kernel
theorem dX11_addSlip_64 : decode cX11_addSlip 64 = .ok (.iadd, 1) := by decide +kernel
theorem dX11_addSlip_65 : decode cX11_addSlip 65 = .ok (.iastore, 1) := by decide +kernel
theorem dX11_addSlip_66 : decode cX11_addSlip 66 = .ok (.return_, 1) := by decide +kernel
theorem dX11_removeSlip_0 : decode cX11_removeSlip 0 = .ok (.aload_n 0, 1) := by decide +kernel
theorem dX11_removeSlip_1 : decode cX11_removeSlip 1 = .ok (.getfield 31, 3) := by decide +kernel
theorem dX11_removeSlip_4 : decode cX11_removeSlip 4 = .ok (.bipush 8, 2) := by decide +kernel
theorem dX11_removeSlip_6 : decode cX11_removeSlip 6 = .ok (.dup2, 1) := by decide +kernel
theorem dX11_removeSlip_7 : decode cX11_removeSlip 7 = .ok (.iaload, 1) := by decide +kernel
theorem dX11_removeSlip_8 : decode cX11_removeSlip 8 = .ok (.iconst 1, 1) := by decide +kernel
theorem dX11_removeSlip_9 : decode cX11_removeSlip 9 = .ok (.isub, 1) := by decide +kernel
theorem dX11_removeSlip_10 : decode cX11_removeSlip 10 = .ok (.iastore, 1) := by decide +kernel
theorem dX11_removeSlip_11 : decode cX11_removeSlip 11 = .ok (.sipush 193, 3) := by decide +kernel
theorem dX11_removeSlip_14 : decode cX11_removeSlip 14 = .ok (.iconst 4, 1) := by decide +kernel
theorem dX11_removeSlip_15 : decode cX11_removeSlip 15 = .ok (.iload_n 1, 1) := by decide +kernel
theorem dX11_removeSlip_16 : decode cX11_removeSlip 16 = .ok (.imul, 1) := by decide +kernel
theorem dX11_removeSlip_17 : decode cX11_removeSlip 17 = .ok (.iadd, 1) := by decide +kernel
theorem dX11_removeSlip_18 : decode cX11_removeSlip 18 = .ok (.istore_n 2, 1) := by decide +kernel
theorem dX11_removeSlip_19 : decode cX11_removeSlip 19 = .ok (.iload_n 2, 1) := by decide +kernel
theorem dX11_removeSlip_20 : decode cX11_removeSlip 20 = .ok (.sipush 193, 3) := by decide +kernel
theorem dX11_removeSlip_23 : decode cX11_removeSlip 23 = .ok (.iconst 4, 1) := by decide +kernel
theorem dX11_removeSlip_24 : decode cX11_removeSlip 24 = .ok (.aload_n 0, 1) := by decide +kernel
theorem dX11_removeSlip_25 : decode cX11_removeSlip 25 = .ok (.getfield 31, 3) := by decide +kernel
theorem dX11_removeSlip_28 : decode cX11_removeSlip 28 = .ok (.bipush 8, 2) := by decide +kernel
theorem dX11_removeSlip_30 : decode cX11_removeSlip 30 = .ok (.iaload, 1) := by decide +kernel
theorem dX11_removeSlip_31 : decode cX11_removeSlip 31 = .ok (.imul, 1) := by decide +kernel
theorem dX11_removeSlip_32 : decode cX11_removeSlip 32 = .ok (.iadd, 1) := by decide +kernel
theorem dX11_removeSlip_33 : decode cX11_removeSlip 33 = .ok (.if_icmp .ge 23, 3) := by decide +kernel
theorem dX11_removeSlip_36 : decode cX11_removeSlip 36 = .ok (.aload_n 0, 1) := by decide +kernel
theorem dX11_removeSlip_37 : decode cX11_removeSlip 37 = .ok (.getfield 31, 3) := by decide +kernel
theorem dX11_removeSlip_40 : decode cX11_removeSlip 40 = .ok (.iload_n 2, 1) := by decide +kernel
theorem dX11_removeSlip_41 : decode cX11_removeSlip 41 = .ok (.aload_n 0, 1) := by decide +kernel
theorem dX11_removeSlip_42 : decode cX11_removeSlip 42 = .ok (.getfield 31, 3) := by decide +kernel
theorem dX11_removeSlip_45 : decode cX11_removeSlip 45 = .ok (.iload_n 2, 1) := by decide +kernel
theorem dX11_removeSlip_46 : decode cX11_removeSlip 46 = .ok (.iconst 4, 1) := by decide +kernel
theorem dX11_removeSlip_47 : decode cX11_removeSlip 47 = .ok (.iadd, 1) := by decide +kernel
theorem dX11_removeSlip_48 : decode cX11_removeSlip 48 = .ok (.iaload, 1) := by decide +kernel
theorem dX11_removeSlip_49 : decode cX11_removeSlip 49 = .ok (.iastore, 1) := by decide +kernel
theorem dX11_removeSlip_50 : decode cX11_removeSlip 50 = .ok (.iinc 2 1, 3) := by decide +kernel
theorem dX11_removeSlip_53 : decode cX11_removeSlip 53 = .ok (.goto (-34), 3) := by decide +kernel
theorem dX11_removeSlip_56 : decode cX11_removeSlip 56 = .ok (.return_, 1) := by decide +kernel
theorem dX11_idleness_0 : decode cX11_idleness 0 = .ok (.aload_n 0, 1) := by decide +kernel
theorem dX11_idleness_1 : decode cX11_idleness 1 = .ok (.iload_n 1, 1) := by decide +kernel
theorem dX11_idleness_2 : decode cX11_idleness 2 = .ok (.iconst 1, 1) := by decide +kernel
theorem dX11_idleness_3 : decode cX11_idleness 3 = .ok (.invokevirtual 130, 3) := by decide +kernel
theorem dX11_idleness_6 : decode cX11_idleness 6 = .ok (.istore_n 2, 1) := by decide +kernel
theorem dX11_idleness_7 : decode cX11_idleness 7 = .ok (.aload_n 0, 1) := by decide +kernel
theorem dX11_idleness_8 : decode cX11_idleness 8 = .ok (.iload_n 2, 1) := by decide +kernel
theorem dX11_idleness_9 : decode cX11_idleness 9 = .ok (.iconst 0, 1) := by decide +kernel
theorem dX11_idleness_10 : decode cX11_idleness 10 = .ok (.invokevirtual 126, 3) := by decide +kernel
theorem dX11_idleness_13 : decode cX11_idleness 13 = .ok (.ifCond .ne 18, 3) := by decide +kernel
theorem dX11_idleness_16 : decode cX11_idleness 16 = .ok (.aload_n 0, 1) := by decide +kernel
theorem dX11_idleness_17 : decode cX11_idleness 17 = .ok (.iload_n 2, 1) := by decide +kernel
theorem dX11_idleness_18 : decode cX11_idleness 18 = .ok (.iconst 1, 1) := by decide +kernel
theorem dX11_idleness_19 : decode cX11_idleness 19 = .ok (.invokevirtual 126, 3) := by decide +kernel
theorem dX11_idleness_22 : decode cX11_idleness 22 = .ok (.ifCond .eq 7, 3) := by decide +kernel
theorem dX11_idleness_25 : decode cX11_idleness 25 = .ok (.iconst 1, 1) := by decide +kernel
theorem dX11_idleness_26 : decode cX11_idleness 26 = .ok (.goto 4, 3) := by decide +kernel
theorem dX11_idleness_29 : decode cX11_idleness 29 = .ok (.iconst 2, 1) := by decide +kernel
theorem dX11_idleness_30 : decode cX11_idleness 30 = .ok (.ireturn, 1) := by decide +kernel
theorem dX11_idleness_31 : decode cX11_idleness 31 = .ok (.aload_n 0, 1) := by decide +kernel
theorem dX11_idleness_32 : decode cX11_idleness 32 = .ok (.iload_n 2, 1) := by decide +kernel
theorem dX11_idleness_33 : decode cX11_idleness 33 = .ok (.invokevirtual 133, 3) := by decide +kernel
theorem dX11_idleness_36 : decode cX11_idleness 36 = .ok (.ifCond .eq 5, 3) := by decide +kernel
theorem dX11_idleness_39 : decode cX11_idleness 39 = .ok (.iconst 3, 1) := by decide +kernel
theorem dX11_idleness_40 : decode cX11_idleness 40 = .ok (.ireturn, 1) := by decide +kernel
theorem dX11_idleness_41 : decode cX11_idleness 41 = .ok (.aload_n 0, 1) := by decide +kernel
theorem dX11_idleness_42 : decode cX11_idleness 42 = .ok (.aload_n 0, 1) := by decide +kernel
theorem dX11_idleness_43 : decode cX11_idleness 43 = .ok (.iload_n 1, 1) := by decide +kernel
theorem dX11_idleness_44 : decode cX11_idleness 44 = .ok (.iconst 0, 1) := by decide +kernel
theorem dX11_idleness_45 : decode cX11_idleness 45 = .ok (.invokevirtual 130, 3) := by decide +kernel
theorem dX11_idleness_48 : decode cX11_idleness 48 = .ok (.invokevirtual 136, 3) := by decide +kernel
theorem dX11_idleness_51 : decode cX11_idleness 51 = .ok (.aload_n 0, 1) := by decide +kernel
theorem dX11_idleness_52 : decode cX11_idleness 52 = .ok (.getfield 31, 3) := by decide +kernel
theorem dX11_idleness_55 : decode cX11_idleness 55 = .ok (.iconst 4, 1) := by decide +kernel
theorem dX11_idleness_56 : decode cX11_idleness 56 = .ok (.iaload, 1) := by decide +kernel
theorem dX11_idleness_57 : decode cX11_idleness 57 = .ok (.if_icmp .lt 7, 3) := by decide +kernel
theorem dX11_idleness_60 : decode cX11_idleness 60 = .ok (.iconst 4, 1) := by decide +kernel
theorem dX11_idleness_61 : decode cX11_idleness 61 = .ok (.goto 4, 3) := by decide +kernel
theorem dX11_idleness_64 : decode cX11_idleness 64 = .ok (.iconst 0, 1) := by decide +kernel
theorem dX11_idleness_65 : decode cX11_idleness 65 = .ok (.ireturn, 1) := by decide +kernel
theorem dX11_refile_0 : decode cX11_refile 0 = .ok (.iconst 0, 1) := by decide +kernel
theorem dX11_refile_1 : decode cX11_refile 1 = .ok (.istore_n 1, 1) := by decide +kernel
theorem dX11_refile_2 : decode cX11_refile 2 = .ok (.iload_n 1, 1) := by decide +kernel
theorem dX11_refile_3 : decode cX11_refile 3 = .ok (.aload_n 0, 1) := by decide +kernel
theorem dX11_refile_4 : decode cX11_refile 4 = .ok (.getfield 31, 3) := by decide +kernel
theorem dX11_refile_7 : decode cX11_refile 7 = .ok (.bipush 7, 2) := by decide +kernel
theorem dX11_refile_9 : decode cX11_refile 9 = .ok (.iaload, 1) := by decide +kernel
theorem dX11_refile_10 : decode cX11_refile 10 = .ok (.if_icmp .ge 57, 3) := by decide +kernel
theorem dX11_refile_13 : decode cX11_refile 13 = .ok (.aload_n 0, 1) := by decide +kernel
theorem dX11_refile_14 : decode cX11_refile 14 = .ok (.getfield 31, 3) := by decide +kernel
theorem dX11_refile_17 : decode cX11_refile 17 = .ok (.sipush 169, 3) := by decide +kernel
theorem dX11_refile_20 : decode cX11_refile 20 = .ok (.iload_n 1, 1) := by decide +kernel
theorem dX11_refile_21 : decode cX11_refile 21 = .ok (.iadd, 1) := by decide +kernel
theorem dX11_refile_22 : decode cX11_refile 22 = .ok (.iaload, 1) := by decide +kernel
theorem dX11_refile_23 : decode cX11_refile 23 = .ok (.istore_n 2, 1) := by decide +kernel
theorem dX11_refile_24 : decode cX11_refile 24 = .ok (.aload_n 0, 1) := by decide +kernel
theorem dX11_refile_25 : decode cX11_refile 25 = .ok (.aload_n 0, 1) := by decide +kernel
theorem dX11_refile_26 : decode cX11_refile 26 = .ok (.iload_n 2, 1) := by decide +kernel
theorem dX11_refile_27 : decode cX11_refile 27 = .ok (.iconst 0, 1) := by decide +kernel
theorem dX11_refile_28 : decode cX11_refile 28 = .ok (.invokevirtual 95, 3) := by decide +kernel
theorem dX11_refile_31 : decode cX11_refile 31 = .ok (.invokevirtual 119, 3) := by decide +kernel
theorem dX11_refile_34 : decode cX11_refile 34 = .ok (.istore_n 3, 1) := by decide +kernel
theorem dX11_refile_35 : decode cX11_refile 35 = .ok (.aload_n 0, 1) := by decide +kernel
theorem dX11_refile_36 : decode cX11_refile 36 = .ok (.bipush 7, 2) := by decide +kernel
theorem dX11_refile_38 : decode cX11_refile 38 = .ok (.aload_n 0, 1) := by decide +kernel
theorem dX11_refile_39 : decode cX11_refile 39 = .ok (.getfield 113, 3) := by decide +kernel
theorem dX11_refile_42 : decode cX11_refile 42 = .ok (.invokevirtual 139, 3) := by decide +kernel
theorem dX11_refile_45 : decode cX11_refile 45 = .ok (.aload_n 0, 1) := by decide +kernel
theorem dX11_refile_46 : decode cX11_refile 46 = .ok (.iload_n 2, 1) := by decide +kernel
theorem dX11_refile_47 : decode cX11_refile 47 = .ok (.iconst 2, 1) := by decide +kernel
theorem dX11_refile_48 : decode cX11_refile 48 = .ok (.iconst 0, 1) := by decide +kernel
theorem dX11_refile_49 : decode cX11_refile 49 = .ok (.invokevirtual 84, 3) := by decide +kernel
theorem dX11_refile_52 : decode cX11_refile 52 = .ok (.aload_n 0, 1) := by decide +kernel
theorem dX11_refile_53 : decode cX11_refile 53 = .ok (.iload_n 2, 1) := by decide +kernel
theorem dX11_refile_54 : decode cX11_refile 54 = .ok (.aload_n 0, 1) := by decide +kernel
theorem dX11_refile_55 : decode cX11_refile 55 = .ok (.getfield 116, 3) := by decide +kernel
theorem dX11_refile_58 : decode cX11_refile 58 = .ok (.invokevirtual 88, 3) := by decide +kernel
theorem dX11_refile_61 : decode cX11_refile 61 = .ok (.iinc 1 1, 3) := by decide +kernel
theorem dX11_refile_64 : decode cX11_refile 64 = .ok (.goto (-62), 3) := by decide +kernel
theorem dX11_refile_67 : decode cX11_refile 67 = .ok (.aload_n 0, 1) := by decide +kernel
theorem dX11_refile_68 : decode cX11_refile 68 = .ok (.bipush 8, 2) := by decide +kernel
theorem dX11_refile_70 : decode cX11_refile 70 = .ok (.aload_n 0, 1) := by decide +kernel
theorem dX11_refile_71 : decode cX11_refile 71 = .ok (.getfield 31, 3) := by decide +kernel
theorem dX11_refile_74 : decode cX11_refile 74 = .ok (.bipush 7, 2) := by decide +kernel
theorem dX11_refile_76 : decode cX11_refile 76 = .ok (.iaload, 1) := by decide +kernel
theorem dX11_refile_77 : decode cX11_refile 77 = .ok (.invokevirtual 139, 3) := by decide +kernel
theorem dX11_refile_80 : decode cX11_refile 80 = .ok (.aload_n 0, 1) := by decide +kernel
theorem dX11_refile_81 : decode cX11_refile 81 = .ok (.getfield 31, 3) := by decide +kernel
theorem dX11_refile_84 : decode cX11_refile 84 = .ok (.bipush 7, 2) := by decide +kernel
theorem dX11_refile_86 : decode cX11_refile 86 = .ok (.iconst 0, 1) := by decide +kernel
theorem dX11_refile_87 : decode cX11_refile 87 = .ok (.iastore, 1) := by decide +kernel
theorem dX11_refile_88 : decode cX11_refile 88 = .ok (.return_, 1) := by decide +kernel
theorem dX11_serve_0 : decode cX11_serve 0 = .ok (.aload_n 0, 1) := by decide +kernel
theorem dX11_serve_1 : decode cX11_serve 1 = .ok (.iload_n 1, 1) := by decide +kernel
theorem dX11_serve_2 : decode cX11_serve 2 = .ok (.iconst 1, 1) := by decide +kernel
theorem dX11_serve_3 : decode cX11_serve 3 = .ok (.invokevirtual 130, 3) := by decide +kernel
theorem dX11_serve_6 : decode cX11_serve 6 = .ok (.istore_n 2, 1) := by decide +kernel
theorem dX11_serve_7 : decode cX11_serve 7 = .ok (.aload_n 0, 1) := by decide +kernel
theorem dX11_serve_8 : decode cX11_serve 8 = .ok (.iload_n 1, 1) := by decide +kernel
theorem dX11_serve_9 : decode cX11_serve 9 = .ok (.iconst 0, 1) := by decide +kernel
theorem dX11_serve_10 : decode cX11_serve 10 = .ok (.invokevirtual 130, 3) := by decide +kernel
theorem dX11_serve_13 : decode cX11_serve 13 = .ok (.istore_n 3, 1) := by decide +kernel
theorem dX11_serve_14 : decode cX11_serve 14 = .ok (.aload_n 0, 1) := by decide +kernel
theorem dX11_serve_15 : decode cX11_serve 15 = .ok (.iload_n 2, 1) := by decide +kernel
theorem dX11_serve_16 : decode cX11_serve 16 = .ok (.invokevirtual 142, 3) := by decide +kernel
theorem dX11_serve_19 : decode cX11_serve 19 = .ok (.istore 4, 2) := by decide +kernel
theorem dX11_serve_21 : decode cX11_serve 21 = .ok (.aload_n 0, 1) := by decide +kernel
theorem dX11_serve_22 : decode cX11_serve 22 = .ok (.iload_n 2, 1) := by decide +kernel
theorem dX11_serve_23 : decode cX11_serve 23 = .ok (.iconst 2, 1) := by decide +kernel
theorem dX11_serve_24 : decode cX11_serve 24 = .ok (.iconst 1, 1) := by decide +kernel
theorem dX11_serve_25 : decode cX11_serve 25 = .ok (.invokevirtual 84, 3) := by decide +kernel
theorem dX11_serve_28 : decode cX11_serve 28 = .ok (.aload_n 0, 1) := by decide +kernel
theorem dX11_serve_29 : decode cX11_serve 29 = .ok (.iload_n 2, 1) := by decide +kernel
theorem dX11_serve_30 : decode cX11_serve 30 = .ok (.iconst 3, 1) := by decide +kernel
theorem dX11_serve_31 : decode cX11_serve 31 = .ok (.iload_n 3, 1) := by decide +kernel
theorem dX11_serve_32 : decode cX11_serve 32 = .ok (.invokevirtual 84, 3) := by decide +kernel
theorem dX11_serve_35 : decode cX11_serve 35 = .ok (.aload_n 0, 1) := by decide +kernel
theorem dX11_serve_36 : decode cX11_serve 36 = .ok (.iload_n 2, 1) := by decide +kernel
theorem dX11_serve_37 : decode cX11_serve 37 = .ok (.iconst 4, 1) := by decide +kernel
theorem dX11_serve_38 : decode cX11_serve 38 = .ok (.aload_n 0, 1) := by decide +kernel
theorem dX11_serve_39 : decode cX11_serve 39 = .ok (.iload_n 2, 1) := by decide +kernel
theorem dX11_serve_40 : decode cX11_serve 40 = .ok (.iconst 4, 1) := by decide +kernel
theorem dX11_serve_41 : decode cX11_serve 41 = .ok (.invokevirtual 95, 3) := by decide +kernel
theorem dX11_serve_44 : decode cX11_serve 44 = .ok (.iconst 1, 1) := by decide +kernel
theorem dX11_serve_45 : decode cX11_serve 45 = .ok (.iadd, 1) := by decide +kernel
theorem dX11_serve_46 : decode cX11_serve 46 = .ok (.invokevirtual 84, 3) := by decide +kernel
theorem dX11_serve_49 : decode cX11_serve 49 = .ok (.aload_n 0, 1) := by decide +kernel
theorem dX11_serve_50 : decode cX11_serve 50 = .ok (.getfield 31, 3) := by decide +kernel
theorem dX11_serve_53 : decode cX11_serve 53 = .ok (.bipush 17, 2) := by decide +kernel
theorem dX11_serve_55 : decode cX11_serve 55 = .ok (.iload_n 3, 1) := by decide +kernel
theorem dX11_serve_56 : decode cX11_serve 56 = .ok (.iadd, 1) := by decide +kernel
theorem dX11_serve_57 : decode cX11_serve 57 = .ok (.dup2, 1) := by decide +kernel
theorem dX11_serve_58 : decode cX11_serve 58 = .ok (.iaload, 1) := by decide +kernel
theorem dX11_serve_59 : decode cX11_serve 59 = .ok (.iconst 1, 1) := by decide +kernel
theorem dX11_serve_60 : decode cX11_serve 60 = .ok (.iadd, 1) := by decide +kernel
theorem dX11_serve_61 : decode cX11_serve 61 = .ok (.iastore, 1) := by decide +kernel
theorem dX11_serve_62 : decode cX11_serve 62 = .ok (.aload_n 0, 1) := by decide +kernel
theorem dX11_serve_63 : decode cX11_serve 63 = .ok (.iconst 4, 1) := by decide +kernel
theorem dX11_serve_64 : decode cX11_serve 64 = .ok (.iconst 1, 1) := by decide +kernel
theorem dX11_serve_65 : decode cX11_serve 65 = .ok (.invokevirtual 139, 3) := by decide +kernel
theorem dX11_serve_68 : decode cX11_serve 68 = .ok (.aload_n 0, 1) := by decide +kernel
theorem dX11_serve_69 : decode cX11_serve 69 = .ok (.bipush 10, 2) := by decide +kernel
theorem dX11_serve_71 : decode cX11_serve 71 = .ok (.aload_n 0, 1) := by decide +kernel
theorem dX11_serve_72 : decode cX11_serve 72 = .ok (.getfield 31, 3) := by decide +kernel
theorem dX11_serve_75 : decode cX11_serve 75 = .ok (.iconst 0, 1) := by decide +kernel
theorem dX11_serve_76 : decode cX11_serve 76 = .ok (.iaload, 1) := by decide +kernel
theorem dX11_serve_77 : decode cX11_serve 77 = .ok (.aload_n 0, 1) := by decide +kernel
theorem dX11_serve_78 : decode cX11_serve 78 = .ok (.iload_n 1, 1) := by decide +kernel
theorem dX11_serve_79 : decode cX11_serve 79 = .ok (.iconst 2, 1) := by decide +kernel
theorem dX11_serve_80 : decode cX11_serve 80 = .ok (.invokevirtual 130, 3) := by decide +kernel
theorem dX11_serve_83 : decode cX11_serve 83 = .ok (.isub, 1) := by decide +kernel
theorem dX11_serve_84 : decode cX11_serve 84 = .ok (.invokevirtual 139, 3) := by decide +kernel
theorem dX11_serve_87 : decode cX11_serve 87 = .ok (.aload_n 0, 1) := by decide +kernel
theorem dX11_serve_88 : decode cX11_serve 88 = .ok (.iload_n 1, 1) := by decide +kernel
theorem dX11_serve_89 : decode cX11_serve 89 = .ok (.invokevirtual 145, 3) := by decide +kernel
theorem dX11_serve_92 : decode cX11_serve 92 = .ok (.return_, 1) := by decide +kernel
theorem dX11_search_0 : decode cX11_search 0 = .ok (.aload_n 0, 1) := by decide +kernel
theorem dX11_search_1 : decode cX11_search 1 = .ok (.iload_n 1, 1) := by decide +kernel
theorem dX11_search_2 : decode cX11_search 2 = .ok (.iconst 3, 1) := by decide +kernel
theorem dX11_search_3 : decode cX11_search 3 = .ok (.invokevirtual 130, 3) := by decide +kernel
theorem dX11_search_6 : decode cX11_search 6 = .ok (.iconst 2, 1) := by decide +kernel
theorem dX11_search_7 : decode cX11_search 7 = .ok (.if_icmp .lt 12, 3) := by decide +kernel
theorem dX11_search_10 : decode cX11_search 10 = .ok (.aload_n 0, 1) := by decide +kernel
theorem dX11_search_11 : decode cX11_search 11 = .ok (.bipush 6, 2) := by decide +kernel
theorem dX11_search_13 : decode cX11_search 13 = .ok (.iconst 1, 1) := by decide +kernel
theorem dX11_search_14 : decode cX11_search 14 = .ok (.invokevirtual 139, 3) := by decide +kernel
theorem dX11_search_17 : decode cX11_search 17 = .ok (.iconst 1, 1) := by decide +kernel
theorem dX11_search_18 : decode cX11_search 18 = .ok (.ireturn, 1) := by decide +kernel
theorem dX11_search_19 : decode cX11_search 19 = .ok (.aload_n 0, 1) := by decide +kernel
theorem dX11_search_20 : decode cX11_search 20 = .ok (.aload_n 0, 1) := by decide +kernel
theorem dX11_search_21 : decode cX11_search 21 = .ok (.aload_n 0, 1) := by decide +kernel
theorem dX11_search_22 : decode cX11_search 22 = .ok (.iload_n 1, 1) := by decide +kernel
theorem dX11_search_23 : decode cX11_search 23 = .ok (.iconst 1, 1) := by decide +kernel
theorem dX11_search_24 : decode cX11_search 24 = .ok (.invokevirtual 130, 3) := by decide +kernel
theorem dX11_search_27 : decode cX11_search 27 = .ok (.iconst 0, 1) := by decide +kernel
theorem dX11_search_28 : decode cX11_search 28 = .ok (.invokevirtual 95, 3) := by decide +kernel
theorem dX11_search_31 : decode cX11_search 31 = .ok (.invokevirtual 119, 3) := by decide +kernel
theorem dX11_search_34 : decode cX11_search 34 = .ok (.iconst (-1), 1) := by decide +kernel
theorem dX11_search_35 : decode cX11_search 35 = .ok (.if_icmp .eq 7, 3) := by decide +kernel
theorem dX11_search_38 : decode cX11_search 38 = .ok (.iconst 1, 1) := by decide +kernel
theorem dX11_search_39 : decode cX11_search 39 = .ok (.goto 4, 3) := by decide +kernel
theorem dX11_search_42 : decode cX11_search 42 = .ok (.iconst 0, 1) := by decide +kernel
theorem dX11_search_43 : decode cX11_search 43 = .ok (.istore_n 2, 1) := by decide +kernel
theorem dX11_search_44 : decode cX11_search 44 = .ok (.aload_n 0, 1) := by decide +kernel
theorem dX11_search_45 : decode cX11_search 45 = .ok (.bipush 7, 2) := by decide +kernel
theorem dX11_search_47 : decode cX11_search 47 = .ok (.aload_n 0, 1) := by decide +kernel
theorem dX11_search_48 : decode cX11_search 48 = .ok (.getfield 113, 3) := by decide +kernel
theorem dX11_search_51 : decode cX11_search 51 = .ok (.invokevirtual 139, 3) := by decide +kernel
theorem dX11_search_54 : decode cX11_search 54 = .ok (.iload_n 2, 1) := by decide +kernel
theorem dX11_search_55 : decode cX11_search 55 = .ok (.ireturn, 1) := by decide +kernel
theorem dX11_searchAll_0 : decode cX11_searchAll 0 = .ok (.iconst 0, 1) := by decide +kernel
theorem dX11_searchAll_1 : decode cX11_searchAll 1 = .ok (.istore_n 2, 1) := by decide +kernel
theorem dX11_searchAll_2 : decode cX11_searchAll 2 = .ok (.iconst 0, 1) := by decide +kernel
theorem dX11_searchAll_3 : decode cX11_searchAll 3 = .ok (.istore_n 3, 1) := by decide +kernel
theorem dX11_searchAll_4 : decode cX11_searchAll 4 = .ok (.iload_n 3, 1) := by decide +kernel
theorem dX11_searchAll_5 : decode cX11_searchAll 5 = .ok (.aload_n 0, 1) := by decide +kernel
theorem dX11_searchAll_6 : decode cX11_searchAll 6 = .ok (.getfield 31, 3) := by decide +kernel
theorem dX11_searchAll_9 : decode cX11_searchAll 9 = .ok (.bipush 8, 2) := by decide +kernel
theorem dX11_searchAll_11 : decode cX11_searchAll 11 = .ok (.iaload, 1) := by decide +kernel
theorem dX11_searchAll_12 : decode cX11_searchAll 12 = .ok (.if_icmp .ge 71, 3) := by decide +kernel
theorem dX11_searchAll_15 : decode cX11_searchAll 15 = .ok (.iload_n 2, 1) := by decide +kernel
theorem dX11_searchAll_16 : decode cX11_searchAll 16 = .ok (.iload_n 1, 1) := by decide +kernel
theorem dX11_searchAll_17 : decode cX11_searchAll 17 = .ok (.if_icmp .ge 66, 3) := by decide +kernel
theorem dX11_searchAll_20 : decode cX11_searchAll 20 = .ok (.aload_n 0, 1) := by decide +kernel
theorem dX11_searchAll_21 : decode cX11_searchAll 21 = .ok (.iload_n 3, 1) := by decide +kernel
theorem dX11_searchAll_22 : decode cX11_searchAll 22 = .ok (.invokevirtual 149, 3) := by decide +kernel
theorem dX11_searchAll_25 : decode cX11_searchAll 25 = .ok (.ifCond .eq 9, 3) := by decide +kernel
theorem dX11_searchAll_28 : decode cX11_searchAll 28 = .ok (.iinc 3 1, 3) := by decide +kernel
theorem dX11_searchAll_31 : decode cX11_searchAll 31 = .ok (.goto (-27), 3) := by decide +kernel
theorem dX11_searchAll_34 : decode cX11_searchAll 34 = .ok (.iinc 2 1, 3) := by decide +kernel
theorem dX11_searchAll_37 : decode cX11_searchAll 37 = .ok (.aload_n 0, 1) := by decide +kernel
theorem dX11_searchAll_38 : decode cX11_searchAll 38 = .ok (.iload_n 3, 1) := by decide +kernel
theorem dX11_searchAll_39 : decode cX11_searchAll 39 = .ok (.invokevirtual 152, 3) := by decide +kernel
theorem dX11_searchAll_42 : decode cX11_searchAll 42 = .ok (.ifCond .eq 11, 3) := by decide +kernel
theorem dX11_searchAll_45 : decode cX11_searchAll 45 = .ok (.aload_n 0, 1) := by decide +kernel
theorem dX11_searchAll_46 : decode cX11_searchAll 46 = .ok (.iload_n 3, 1) := by decide +kernel
theorem dX11_searchAll_47 : decode cX11_searchAll 47 = .ok (.invokevirtual 155, 3) := by decide +kernel
theorem dX11_searchAll_50 : decode cX11_searchAll 50 = .ok (.goto (-46), 3) := by decide +kernel
theorem dX11_searchAll_53 : decode cX11_searchAll 53 = .ok (.aload_n 0, 1) := by decide +kernel
theorem dX11_searchAll_54 : decode cX11_searchAll 54 = .ok (.iconst 5, 1) := by decide +kernel
theorem dX11_searchAll_55 : decode cX11_searchAll 55 = .ok (.iconst 1, 1) := by decide +kernel
theorem dX11_searchAll_56 : decode cX11_searchAll 56 = .ok (.invokevirtual 139, 3) := by decide +kernel
theorem dX11_searchAll_59 : decode cX11_searchAll 59 = .ok (.aload_n 0, 1) := by decide +kernel
theorem dX11_searchAll_60 : decode cX11_searchAll 60 = .ok (.getfield 31, 3) := by decide +kernel
theorem dX11_searchAll_63 : decode cX11_searchAll 63 = .ok (.sipush 193, 3) := by decide +kernel
theorem dX11_searchAll_66 : decode cX11_searchAll 66 = .ok (.iconst 4, 1) := by decide +kernel
theorem dX11_searchAll_67 : decode cX11_searchAll 67 = .ok (.iload_n 3, 1) := by decide +kernel
theorem dX11_searchAll_68 : decode cX11_searchAll 68 = .ok (.imul, 1) := by decide +kernel
theorem dX11_searchAll_69 : decode cX11_searchAll 69 = .ok (.iadd, 1) := by decide +kernel
theorem dX11_searchAll_70 : decode cX11_searchAll 70 = .ok (.iconst 3, 1) := by decide +kernel
theorem dX11_searchAll_71 : decode cX11_searchAll 71 = .ok (.iadd, 1) := by decide +kernel
theorem dX11_searchAll_72 : decode cX11_searchAll 72 = .ok (.dup2, 1) := by decide +kernel
theorem dX11_searchAll_73 : decode cX11_searchAll 73 = .ok (.iaload, 1) := by decide +kernel
theorem dX11_searchAll_74 : decode cX11_searchAll 74 = .ok (.iconst 1, 1) := by decide +kernel
theorem dX11_searchAll_75 : decode cX11_searchAll 75 = .ok (.iadd, 1) := by decide +kernel
theorem dX11_searchAll_76 : decode cX11_searchAll 76 = .ok (.iastore, 1) := by decide +kernel
theorem dX11_searchAll_77 : decode cX11_searchAll 77 = .ok (.iinc 3 1, 3) := by decide +kernel
theorem dX11_searchAll_80 : decode cX11_searchAll 80 = .ok (.goto (-76), 3) := by decide +kernel
theorem dX11_searchAll_83 : decode cX11_searchAll 83 = .ok (.return_, 1) := by decide +kernel
theorem dX11_pass_0 : decode cX11_pass 0 = .ok (.aload_n 0, 1) := by decide +kernel
theorem dX11_pass_1 : decode cX11_pass 1 = .ok (.getfield 31, 3) := by decide +kernel
theorem dX11_pass_4 : decode cX11_pass 4 = .ok (.iconst 0, 1) := by decide +kernel
theorem dX11_pass_5 : decode cX11_pass 5 = .ok (.dup2, 1) := by decide +kernel
theorem dX11_pass_6 : decode cX11_pass 6 = .ok (.iaload, 1) := by decide +kernel
theorem dX11_pass_7 : decode cX11_pass 7 = .ok (.iconst 1, 1) := by decide +kernel
theorem dX11_pass_8 : decode cX11_pass 8 = .ok (.iadd, 1) := by decide +kernel
theorem dX11_pass_9 : decode cX11_pass 9 = .ok (.iastore, 1) := by decide +kernel
theorem dX11_pass_10 : decode cX11_pass 10 = .ok (.aload_n 0, 1) := by decide +kernel
theorem dX11_pass_11 : decode cX11_pass 11 = .ok (.getfield 31, 3) := by decide +kernel
theorem dX11_pass_14 : decode cX11_pass 14 = .ok (.iconst 0, 1) := by decide +kernel
theorem dX11_pass_15 : decode cX11_pass 15 = .ok (.iaload, 1) := by decide +kernel
theorem dX11_pass_16 : decode cX11_pass 16 = .ok (.aload_n 0, 1) := by decide +kernel
theorem dX11_pass_17 : decode cX11_pass 17 = .ok (.getfield 31, 3) := by decide +kernel
theorem dX11_pass_20 : decode cX11_pass 20 = .ok (.iconst 1, 1) := by decide +kernel
theorem dX11_pass_21 : decode cX11_pass 21 = .ok (.iaload, 1) := by decide +kernel
theorem dX11_pass_22 : decode cX11_pass 22 = .ok (.irem, 1) := by decide +kernel
theorem dX11_pass_23 : decode cX11_pass 23 = .ok (.ifCond .ne 7, 3) := by decide +kernel
theorem dX11_pass_26 : decode cX11_pass 26 = .ok (.aload_n 0, 1) := by decide +kernel
theorem dX11_pass_27 : decode cX11_pass 27 = .ok (.invokevirtual 158, 3) := by decide +kernel
theorem dX11_pass_30 : decode cX11_pass 30 = .ok (.aload_n 0, 1) := by decide +kernel
theorem dX11_pass_31 : decode cX11_pass 31 = .ok (.iload_n 1, 1) := by decide +kernel
theorem dX11_pass_32 : decode cX11_pass 32 = .ok (.invokevirtual 161, 3) := by decide +kernel
theorem dX11_pass_35 : decode cX11_pass 35 = .ok (.return_, 1) := by decide +kernel
theorem dX11_passOn_0 : decode cX11_passOn 0 = .ok (.aload_n 0, 1) := by decide +kernel
theorem dX11_passOn_1 : decode cX11_passOn 1 = .ok (.iconst 4, 1) := by decide +kernel
theorem dX11_passOn_2 : decode cX11_passOn 2 = .ok (.invokevirtual 164, 3) := by decide +kernel
theorem dX11_passOn_5 : decode cX11_passOn 5 = .ok (.istore_n 3, 1) := by decide +kernel
theorem dX11_passOn_6 : decode cX11_passOn 6 = .ok (.iconst 0, 1) := by decide +kernel
theorem dX11_passOn_7 : decode cX11_passOn 7 = .ok (.istore 4, 2) := by decide +kernel
theorem dX11_passOn_9 : decode cX11_passOn 9 = .ok (.iload 4, 2) := by decide +kernel
theorem dX11_passOn_11 : decode cX11_passOn 11 = .ok (.iload_n 1, 1) := by decide +kernel
theorem dX11_passOn_12 : decode cX11_passOn 12 = .ok (.if_icmp .ge 14, 3) := by decide +kernel
theorem dX11_passOn_15 : decode cX11_passOn 15 = .ok (.aload_n 0, 1) := by decide +kernel
theorem dX11_passOn_16 : decode cX11_passOn 16 = .ok (.iload_n 2, 1) := by decide +kernel
theorem dX11_passOn_17 : decode cX11_passOn 17 = .ok (.invokevirtual 167, 3) := by decide +kernel
theorem dX11_passOn_20 : decode cX11_passOn 20 = .ok (.iinc 4 1, 3) := by decide +kernel
theorem dX11_passOn_23 : decode cX11_passOn 23 = .ok (.goto (-14), 3) := by decide +kernel
theorem dX11_passOn_26 : decode cX11_passOn 26 = .ok (.aload_n 0, 1) := by decide +kernel
theorem dX11_passOn_27 : decode cX11_passOn 27 = .ok (.iconst 4, 1) := by decide +kernel
theorem dX11_passOn_28 : decode cX11_passOn 28 = .ok (.invokevirtual 164, 3) := by decide +kernel
theorem dX11_passOn_31 : decode cX11_passOn 31 = .ok (.iload_n 3, 1) := by decide +kernel
theorem dX11_passOn_32 : decode cX11_passOn 32 = .ok (.isub, 1) := by decide +kernel
theorem dX11_passOn_33 : decode cX11_passOn 33 = .ok (.ireturn, 1) := by decide +kernel
theorem dX11_countIn_0 : decode cX11_countIn 0 = .ok (.iconst 0, 1) := by decide +kernel
theorem dX11_countIn_1 : decode cX11_countIn 1 = .ok (.istore_n 2, 1) := by decide +kernel
theorem dX11_countIn_2 : decode cX11_countIn 2 = .ok (.iconst 0, 1) := by decide +kernel
theorem dX11_countIn_3 : decode cX11_countIn 3 = .ok (.istore_n 3, 1) := by decide +kernel
theorem dX11_countIn_4 : decode cX11_countIn 4 = .ok (.iload_n 3, 1) := by decide +kernel
theorem dX11_countIn_5 : decode cX11_countIn 5 = .ok (.aload_n 0, 1) := by decide +kernel
theorem dX11_countIn_6 : decode cX11_countIn 6 = .ok (.getfield 31, 3) := by decide +kernel
theorem dX11_countIn_9 : decode cX11_countIn 9 = .ok (.iconst 5, 1) := by decide +kernel
theorem dX11_countIn_10 : decode cX11_countIn 10 = .ok (.iaload, 1) := by decide +kernel
theorem dX11_countIn_11 : decode cX11_countIn 11 = .ok (.if_icmp .ge 26, 3) := by decide +kernel
theorem dX11_countIn_14 : decode cX11_countIn 14 = .ok (.iload_n 2, 1) := by decide +kernel
theorem dX11_countIn_15 : decode cX11_countIn 15 = .ok (.aload_n 0, 1) := by decide +kernel
theorem dX11_countIn_16 : decode cX11_countIn 16 = .ok (.iload_n 3, 1) := by decide +kernel
theorem dX11_countIn_17 : decode cX11_countIn 17 = .ok (.iload_n 1, 1) := by decide +kernel
theorem dX11_countIn_18 : decode cX11_countIn 18 = .ok (.invokevirtual 126, 3) := by decide +kernel
theorem dX11_countIn_21 : decode cX11_countIn 21 = .ok (.ifCond .eq 7, 3) := by decide +kernel
theorem dX11_countIn_24 : decode cX11_countIn 24 = .ok (.iconst 1, 1) := by decide +kernel
theorem dX11_countIn_25 : decode cX11_countIn 25 = .ok (.goto 4, 3) := by decide +kernel
theorem dX11_countIn_28 : decode cX11_countIn 28 = .ok (.iconst 0, 1) := by decide +kernel
theorem dX11_countIn_29 : decode cX11_countIn 29 = .ok (.iadd, 1) := by decide +kernel
theorem dX11_countIn_30 : decode cX11_countIn 30 = .ok (.istore_n 2, 1) := by decide +kernel
theorem dX11_countIn_31 : decode cX11_countIn 31 = .ok (.iinc 3 1, 3) := by decide +kernel
theorem dX11_countIn_34 : decode cX11_countIn 34 = .ok (.goto (-30), 3) := by decide +kernel
theorem dX11_countIn_37 : decode cX11_countIn 37 = .ok (.iload_n 2, 1) := by decide +kernel
theorem dX11_countIn_38 : decode cX11_countIn 38 = .ok (.ireturn, 1) := by decide +kernel
theorem dX11_daysToRefiling_0 : decode cX11_daysToRefiling 0 = .ok (.aload_n 0, 1) := by decide +kernel
theorem dX11_daysToRefiling_1 : decode cX11_daysToRefiling 1 = .ok (.getfield 31, 3) := by decide +kernel
theorem dX11_daysToRefiling_4 : decode cX11_daysToRefiling 4 = .ok (.iconst 1, 1) := by decide +kernel
theorem dX11_daysToRefiling_5 : decode cX11_daysToRefiling 5 = .ok (.iaload, 1) := by decide +kernel
theorem dX11_daysToRefiling_6 : decode cX11_daysToRefiling 6 = .ok (.aload_n 0, 1) := by decide +kernel
theorem dX11_daysToRefiling_7 : decode cX11_daysToRefiling 7 = .ok (.getfield 31, 3) := by decide +kernel
theorem dX11_daysToRefiling_10 : decode cX11_daysToRefiling 10 = .ok (.iconst 0, 1) := by decide +kernel
theorem dX11_daysToRefiling_11 : decode cX11_daysToRefiling 11 = .ok (.iaload, 1) := by decide +kernel
theorem dX11_daysToRefiling_12 : decode cX11_daysToRefiling 12 = .ok (.aload_n 0, 1) := by decide +kernel
theorem dX11_daysToRefiling_13 : decode cX11_daysToRefiling 13 = .ok (.getfield 31, 3) := by decide +kernel
theorem dX11_daysToRefiling_16 : decode cX11_daysToRefiling 16 = .ok (.iconst 1, 1) := by decide +kernel
theorem dX11_daysToRefiling_17 : decode cX11_daysToRefiling 17 = .ok (.iaload, 1) := by decide +kernel
theorem dX11_daysToRefiling_18 : decode cX11_daysToRefiling 18 = .ok (.irem, 1) := by decide +kernel
theorem dX11_daysToRefiling_19 : decode cX11_daysToRefiling 19 = .ok (.isub, 1) := by decide +kernel
theorem dX11_daysToRefiling_20 : decode cX11_daysToRefiling 20 = .ok (.ireturn, 1) := by decide +kernel
theorem dX11_size_0 : decode cX11_size 0 = .ok (.aload_n 0, 1) := by decide +kernel
theorem dX11_size_1 : decode cX11_size 1 = .ok (.iload_n 1, 1) := by decide +kernel
theorem dX11_size_2 : decode cX11_size 2 = .ok (.iconst 0, 1) := by decide +kernel
theorem dX11_size_3 : decode cX11_size 3 = .ok (.bipush 11, 2) := by decide +kernel
theorem dX11_size_5 : decode cX11_size 5 = .ok (.invokestatic 91, 3) := by decide +kernel
theorem dX11_size_8 : decode cX11_size 8 = .ok (.invokevirtual 170, 3) := by decide +kernel
theorem dX11_size_11 : decode cX11_size 11 = .ok (.ifCond .eq 5, 3) := by decide +kernel
theorem dX11_size_14 : decode cX11_size 14 = .ok (.iconst 0, 1) := by decide +kernel
theorem dX11_size_15 : decode cX11_size 15 = .ok (.ireturn, 1) := by decide +kernel
theorem dX11_size_16 : decode cX11_size 16 = .ok (.iload_n 1, 1) := by decide +kernel
theorem dX11_size_17 : decode cX11_size 17 = .ok (.tableswitch 67 7 11 #[35, 41, 49, 57, 62], 35) := by decide +kernel
theorem dX11_size_52 : decode cX11_size 52 = .ok (.aload_n 0, 1) := by decide +kernel
theorem dX11_size_53 : decode cX11_size 53 = .ok (.iconst 1, 1) := by decide +kernel
theorem dX11_size_54 : decode cX11_size 54 = .ok (.invokevirtual 174, 3) := by decide +kernel
theorem dX11_size_57 : decode cX11_size 57 = .ok (.ireturn, 1) := by decide +kernel
theorem dX11_size_58 : decode cX11_size 58 = .ok (.aload_n 0, 1) := by decide +kernel
theorem dX11_size_59 : decode cX11_size 59 = .ok (.getfield 31, 3) := by decide +kernel
theorem dX11_size_62 : decode cX11_size 62 = .ok (.bipush 7, 2) := by decide +kernel
theorem dX11_size_64 : decode cX11_size 64 = .ok (.iaload, 1) := by decide +kernel
theorem dX11_size_65 : decode cX11_size 65 = .ok (.ireturn, 1) := by decide +kernel
theorem dX11_size_66 : decode cX11_size 66 = .ok (.aload_n 0, 1) := by decide +kernel
theorem dX11_size_67 : decode cX11_size 67 = .ok (.getfield 31, 3) := by decide +kernel
theorem dX11_size_70 : decode cX11_size 70 = .ok (.bipush 8, 2) := by decide +kernel
theorem dX11_size_72 : decode cX11_size 72 = .ok (.iaload, 1) := by decide +kernel
theorem dX11_size_73 : decode cX11_size 73 = .ok (.ireturn, 1) := by decide +kernel
theorem dX11_size_74 : decode cX11_size 74 = .ok (.aload_n 0, 1) := by decide +kernel
theorem dX11_size_75 : decode cX11_size 75 = .ok (.invokevirtual 177, 3) := by decide +kernel
theorem dX11_size_78 : decode cX11_size 78 = .ok (.ireturn, 1) := by decide +kernel
theorem dX11_size_79 : decode cX11_size 79 = .ok (.aload_n 0, 1) := by decide +kernel
theorem dX11_size_80 : decode cX11_size 80 = .ok (.invokevirtual 180, 3) := by decide +kernel
theorem dX11_size_83 : decode cX11_size 83 = .ok (.ireturn, 1) := by decide +kernel
theorem dX11_size_84 : decode cX11_size 84 = .ok (.aload_n 0, 1) := by decide +kernel
theorem dX11_size_85 : decode cX11_size 85 = .ok (.getfield 31, 3) := by decide +kernel
theorem dX11_size_88 : decode cX11_size 88 = .ok (.iload_n 1, 1) := by decide +kernel
theorem dX11_size_89 : decode cX11_size 89 = .ok (.iaload, 1) := by decide +kernel
theorem dX11_size_90 : decode cX11_size 90 = .ok (.ireturn, 1) := by decide +kernel
theorem dX11_account_0 : decode cX11_account 0 = .ok (.aload_n 0, 1) := by decide +kernel
theorem dX11_account_1 : decode cX11_account 1 = .ok (.iload_n 1, 1) := by decide +kernel
theorem dX11_account_2 : decode cX11_account 2 = .ok (.iconst 0, 1) := by decide +kernel
theorem dX11_account_3 : decode cX11_account 3 = .ok (.bipush 10, 2) := by decide +kernel
theorem dX11_account_5 : decode cX11_account 5 = .ok (.invokestatic 91, 3) := by decide +kernel
theorem dX11_account_8 : decode cX11_account 8 = .ok (.invokevirtual 170, 3) := by decide +kernel
theorem dX11_account_11 : decode cX11_account 11 = .ok (.ifCond .eq 5, 3) := by decide +kernel
theorem dX11_account_14 : decode cX11_account 14 = .ok (.iconst 0, 1) := by decide +kernel
theorem dX11_account_15 : decode cX11_account 15 = .ok (.ireturn, 1) := by decide +kernel
theorem dX11_account_16 : decode cX11_account 16 = .ok (.iload_n 1, 1) := by decide +kernel
theorem dX11_account_17 : decode cX11_account 17 = .ok (.iconst 3, 1) := by decide +kernel
theorem dX11_account_18 : decode cX11_account 18 = .ok (.if_icmp .ge 12, 3) := by decide +kernel
theorem dX11_account_21 : decode cX11_account 21 = .ok (.aload_n 0, 1) := by decide +kernel
theorem dX11_account_22 : decode cX11_account 22 = .ok (.getfield 28, 3) := by decide +kernel
theorem dX11_account_25 : decode cX11_account 25 = .ok (.iload_n 1, 1) := by decide +kernel
theorem dX11_account_26 : decode cX11_account 26 = .ok (.iaload, 1) := by decide +kernel
theorem dX11_account_27 : decode cX11_account 27 = .ok (.goto 8, 3) := by decide +kernel
theorem dX11_account_30 : decode cX11_account 30 = .ok (.aload_n 0, 1) := by decide +kernel
theorem dX11_account_31 : decode cX11_account 31 = .ok (.iload_n 1, 1) := by decide +kernel
theorem dX11_account_32 : decode cX11_account 32 = .ok (.invokevirtual 164, 3) := by decide +kernel
theorem dX11_account_35 : decode cX11_account 35 = .ok (.ireturn, 1) := by decide +kernel
theorem dX11_trolleyPlace_0 : decode cX11_trolleyPlace 0 = .ok (.iconst 0, 1) := by decide +kernel
theorem dX11_trolleyPlace_1 : decode cX11_trolleyPlace 1 = .ok (.istore_n 2, 1) := by decide +kernel
theorem dX11_trolleyPlace_2 : decode cX11_trolleyPlace 2 = .ok (.aload_n 0, 1) := by decide +kernel
theorem dX11_trolleyPlace_3 : decode cX11_trolleyPlace 3 = .ok (.getfield 31, 3) := by decide +kernel
theorem dX11_trolleyPlace_6 : decode cX11_trolleyPlace 6 = .ok (.sipush 169, 3) := by decide +kernel
theorem dX11_trolleyPlace_9 : decode cX11_trolleyPlace 9 = .ok (.iload_n 2, 1) := by decide +kernel
theorem dX11_trolleyPlace_10 : decode cX11_trolleyPlace 10 = .ok (.iadd, 1) := by decide +kernel
theorem dX11_trolleyPlace_11 : decode cX11_trolleyPlace 11 = .ok (.iaload, 1) := by decide +kernel
theorem dX11_trolleyPlace_12 : decode cX11_trolleyPlace 12 = .ok (.iload_n 1, 1) := by decide +kernel
theorem dX11_trolleyPlace_13 : decode cX11_trolleyPlace 13 = .ok (.if_icmp .eq 9, 3) := by decide +kernel
theorem dX11_trolleyPlace_16 : decode cX11_trolleyPlace 16 = .ok (.iinc 2 1, 3) := by decide +kernel
theorem dX11_trolleyPlace_19 : decode cX11_trolleyPlace 19 = .ok (.goto (-17), 3) := by decide +kernel
theorem dX11_trolleyPlace_22 : decode cX11_trolleyPlace 22 = .ok (.iload_n 2, 1) := by decide +kernel
theorem dX11_trolleyPlace_23 : decode cX11_trolleyPlace 23 = .ok (.ireturn, 1) := by decide +kernel
theorem dX11_whereIs_0 : decode cX11_whereIs 0 = .ok (.aload_n 0, 1) := by decide +kernel
theorem dX11_whereIs_1 : decode cX11_whereIs 1 = .ok (.iload_n 1, 1) := by decide +kernel
theorem dX11_whereIs_2 : decode cX11_whereIs 2 = .ok (.iconst 2, 1) := by decide +kernel
theorem dX11_whereIs_3 : decode cX11_whereIs 3 = .ok (.invokevirtual 95, 3) := by decide +kernel
theorem dX11_whereIs_6 : decode cX11_whereIs 6 = .ok (.lookupswitch 39 #[(0, 26), (1, 32)], 26) := by decide +kernel
theorem dX11_whereIs_32 : decode cX11_whereIs 32 = .ok (.aload_n 0, 1) := by decide +kernel
theorem dX11_whereIs_33 : decode cX11_whereIs 33 = .ok (.iload_n 1, 1) := by decide +kernel
theorem dX11_whereIs_34 : decode cX11_whereIs 34 = .ok (.invokevirtual 103, 3) := by decide +kernel
theorem dX11_whereIs_37 : decode cX11_whereIs 37 = .ok (.ireturn, 1) := by decide +kernel
theorem dX11_whereIs_38 : decode cX11_whereIs 38 = .ok (.aload_n 0, 1) := by decide +kernel
theorem dX11_whereIs_39 : decode cX11_whereIs 39 = .ok (.iload_n 1, 1) := by decide +kernel
theorem dX11_whereIs_40 : decode cX11_whereIs 40 = .ok (.iconst 3, 1) := by decide +kernel
theorem dX11_whereIs_41 : decode cX11_whereIs 41 = .ok (.invokevirtual 95, 3) := by decide +kernel
theorem dX11_whereIs_44 : decode cX11_whereIs 44 = .ok (.ireturn, 1) := by decide +kernel
theorem dX11_whereIs_45 : decode cX11_whereIs 45 = .ok (.aload_n 0, 1) := by decide +kernel
theorem dX11_whereIs_46 : decode cX11_whereIs 46 = .ok (.iload_n 1, 1) := by decide +kernel
theorem dX11_whereIs_47 : decode cX11_whereIs 47 = .ok (.invokevirtual 183, 3) := by decide +kernel
theorem dX11_whereIs_50 : decode cX11_whereIs 50 = .ok (.ireturn, 1) := by decide +kernel
theorem dX11_slipsWith_0 : decode cX11_slipsWith 0 = .ok (.iconst 0, 1) := by decide +kernel
theorem dX11_slipsWith_1 : decode cX11_slipsWith 1 = .ok (.istore_n 3, 1) := by decide +kernel
theorem dX11_slipsWith_2 : decode cX11_slipsWith 2 = .ok (.iconst 0, 1) := by decide +kernel
theorem dX11_slipsWith_3 : decode cX11_slipsWith 3 = .ok (.istore 4, 2) := by decide +kernel
theorem dX11_slipsWith_5 : decode cX11_slipsWith 5 = .ok (.iload 4, 2) := by decide +kernel
theorem dX11_slipsWith_7 : decode cX11_slipsWith 7 = .ok (.aload_n 0, 1) := by decide +kernel
theorem dX11_slipsWith_8 : decode cX11_slipsWith 8 = .ok (.getfield 31, 3) := by decide +kernel
theorem dX11_slipsWith_11 : decode cX11_slipsWith 11 = .ok (.bipush 8, 2) := by decide +kernel
theorem dX11_slipsWith_13 : decode cX11_slipsWith 13 = .ok (.iaload, 1) := by decide +kernel
theorem dX11_slipsWith_14 : decode cX11_slipsWith 14 = .ok (.if_icmp .ge 28, 3) := by decide +kernel
theorem dX11_slipsWith_17 : decode cX11_slipsWith 17 = .ok (.iload_n 3, 1) := by decide +kernel
theorem dX11_slipsWith_18 : decode cX11_slipsWith 18 = .ok (.aload_n 0, 1) := by decide +kernel
theorem dX11_slipsWith_19 : decode cX11_slipsWith 19 = .ok (.iload 4, 2) := by decide +kernel
theorem dX11_slipsWith_21 : decode cX11_slipsWith 21 = .ok (.iload_n 1, 1) := by decide +kernel
theorem dX11_slipsWith_22 : decode cX11_slipsWith 22 = .ok (.invokevirtual 130, 3) := by decide +kernel
theorem dX11_slipsWith_25 : decode cX11_slipsWith 25 = .ok (.iload_n 2, 1) := by decide +kernel
theorem dX11_slipsWith_26 : decode cX11_slipsWith 26 = .ok (.if_icmp .ne 7, 3) := by decide +kernel
theorem dX11_slipsWith_29 : decode cX11_slipsWith 29 = .ok (.iconst 1, 1) := by decide +kernel
theorem dX11_slipsWith_30 : decode cX11_slipsWith 30 = .ok (.goto 4, 3) := by decide +kernel
theorem dX11_slipsWith_33 : decode cX11_slipsWith 33 = .ok (.iconst 0, 1) := by decide +kernel
theorem dX11_slipsWith_34 : decode cX11_slipsWith 34 = .ok (.iadd, 1) := by decide +kernel
theorem dX11_slipsWith_35 : decode cX11_slipsWith 35 = .ok (.istore_n 3, 1) := by decide +kernel
theorem dX11_slipsWith_36 : decode cX11_slipsWith 36 = .ok (.iinc 4 1, 3) := by decide +kernel
theorem dX11_slipsWith_39 : decode cX11_slipsWith 39 = .ok (.goto (-34), 3) := by decide +kernel
theorem dX11_slipsWith_42 : decode cX11_slipsWith 42 = .ok (.iload_n 3, 1) := by decide +kernel
theorem dX11_slipsWith_43 : decode cX11_slipsWith 43 = .ok (.ireturn, 1) := by decide +kernel
theorem dX11_folder_0 : decode cX11_folder 0 = .ok (.aload_n 0, 1) := by decide +kernel
theorem dX11_folder_1 : decode cX11_folder 1 = .ok (.aload_n 0, 1) := by decide +kernel
theorem dX11_folder_2 : decode cX11_folder 2 = .ok (.iload_n 1, 1) := by decide +kernel
theorem dX11_folder_3 : decode cX11_folder 3 = .ok (.invokevirtual 186, 3) := by decide +kernel
theorem dX11_folder_6 : decode cX11_folder 6 = .ok (.invokevirtual 170, 3) := by decide +kernel
theorem dX11_folder_9 : decode cX11_folder 9 = .ok (.ifCond .eq 5, 3) := by decide +kernel
theorem dX11_folder_12 : decode cX11_folder 12 = .ok (.iconst 0, 1) := by decide +kernel
theorem dX11_folder_13 : decode cX11_folder 13 = .ok (.ireturn, 1) := by decide +kernel
theorem dX11_folder_14 : decode cX11_folder 14 = .ok (.iload_n 2, 1) := by decide +kernel
theorem dX11_folder_15 : decode cX11_folder 15 = .ok (.tableswitch 82 0 6 #[41, 41, 41, 48, 54, 61, 68], 41) := by decide +kernel
theorem dX11_folder_56 : decode cX11_folder 56 = .ok (.aload_n 0, 1) := by decide +kernel
theorem dX11_folder_57 : decode cX11_folder 57 = .ok (.iload_n 1, 1) := by decide +kernel
theorem dX11_folder_58 : decode cX11_folder 58 = .ok (.iload_n 2, 1) := by decide +kernel
theorem dX11_folder_59 : decode cX11_folder 59 = .ok (.invokevirtual 95, 3) := by decide +kernel
theorem dX11_folder_62 : decode cX11_folder 62 = .ok (.ireturn, 1) := by decide +kernel
theorem dX11_folder_63 : decode cX11_folder 63 = .ok (.aload_n 0, 1) := by decide +kernel
theorem dX11_folder_64 : decode cX11_folder 64 = .ok (.iload_n 1, 1) := by decide +kernel
theorem dX11_folder_65 : decode cX11_folder 65 = .ok (.invokevirtual 189, 3) := by decide +kernel
theorem dX11_folder_68 : decode cX11_folder 68 = .ok (.ireturn, 1) := by decide +kernel
theorem dX11_folder_69 : decode cX11_folder 69 = .ok (.aload_n 0, 1) := by decide +kernel
theorem dX11_folder_70 : decode cX11_folder 70 = .ok (.iconst 1, 1) := by decide +kernel
theorem dX11_folder_71 : decode cX11_folder 71 = .ok (.iload_n 1, 1) := by decide +kernel
theorem dX11_folder_72 : decode cX11_folder 72 = .ok (.invokevirtual 192, 3) := by decide +kernel
theorem dX11_folder_75 : decode cX11_folder 75 = .ok (.ireturn, 1) := by decide +kernel
theorem dX11_folder_76 : decode cX11_folder 76 = .ok (.aload_n 0, 1) := by decide +kernel
theorem dX11_folder_77 : decode cX11_folder 77 = .ok (.iload_n 1, 1) := by decide +kernel
theorem dX11_folder_78 : decode cX11_folder 78 = .ok (.iconst 4, 1) := by decide +kernel
theorem dX11_folder_79 : decode cX11_folder 79 = .ok (.invokevirtual 95, 3) := by decide +kernel
theorem dX11_folder_82 : decode cX11_folder 82 = .ok (.ireturn, 1) := by decide +kernel
theorem dX11_folder_83 : decode cX11_folder 83 = .ok (.aload_n 0, 1) := by decide +kernel
theorem dX11_folder_84 : decode cX11_folder 84 = .ok (.iload_n 1, 1) := by decide +kernel
theorem dX11_folder_85 : decode cX11_folder 85 = .ok (.invokevirtual 133, 3) := by decide +kernel
theorem dX11_folder_88 : decode cX11_folder 88 = .ok (.ifCond .eq 7, 3) := by decide +kernel
theorem dX11_folder_91 : decode cX11_folder 91 = .ok (.iconst 1, 1) := by decide +kernel
theorem dX11_folder_92 : decode cX11_folder 92 = .ok (.goto 4, 3) := by decide +kernel
theorem dX11_folder_95 : decode cX11_folder 95 = .ok (.iconst 0, 1) := by decide +kernel
theorem dX11_folder_96 : decode cX11_folder 96 = .ok (.ireturn, 1) := by decide +kernel
theorem dX11_folder_97 : decode cX11_folder 97 = .ok (.aload_n 0, 1) := by decide +kernel
theorem dX11_folder_98 : decode cX11_folder 98 = .ok (.iconst 2, 1) := by decide +kernel
theorem dX11_folder_99 : decode cX11_folder 99 = .ok (.invokevirtual 195, 3) := by decide +kernel
theorem dX11_folder_102 : decode cX11_folder 102 = .ok (.ireturn, 1) := by decide +kernel
theorem dX11_marked_0 : decode cX11_marked 0 = .ok (.aload_n 0, 1) := by decide +kernel
theorem dX11_marked_1 : decode cX11_marked 1 = .ok (.iconst 0, 1) := by decide +kernel
theorem dX11_marked_2 : decode cX11_marked 2 = .ok (.putfield 81, 3) := by decide +kernel
theorem dX11_marked_5 : decode cX11_marked 5 = .ok (.aload_n 0, 1) := by decide +kernel
theorem dX11_marked_6 : decode cX11_marked 6 = .ok (.iload_n 1, 1) := by decide +kernel
theorem dX11_marked_7 : decode cX11_marked 7 = .ok (.invokevirtual 198, 3) := by decide +kernel
theorem dX11_marked_10 : decode cX11_marked 10 = .ok (.ireturn, 1) := by decide +kernel
theorem dX11_at_0 : decode cX11_at 0 = .ok (.aload_n 0, 1) := by decide +kernel
theorem dX11_at_1 : decode cX11_at 1 = .ok (.iconst 0, 1) := by decide +kernel
theorem dX11_at_2 : decode cX11_at 2 = .ok (.putfield 81, 3) := by decide +kernel
theorem dX11_at_5 : decode cX11_at 5 = .ok (.iload_n 1, 1) := by decide +kernel
theorem dX11_at_6 : decode cX11_at 6 = .ok (.iconst 0, 1) := by decide +kernel
theorem dX11_at_7 : decode cX11_at 7 = .ok (.aload_n 0, 1) := by decide +kernel
theorem dX11_at_8 : decode cX11_at 8 = .ok (.getfield 31, 3) := by decide +kernel
theorem dX11_at_11 : decode cX11_at 11 = .ok (.bipush 6, 2) := by decide +kernel
theorem dX11_at_13 : decode cX11_at 13 = .ok (.iaload, 1) := by decide +kernel
theorem dX11_at_14 : decode cX11_at 14 = .ok (.iconst 1, 1) := by decide +kernel
theorem dX11_at_15 : decode cX11_at 15 = .ok (.isub, 1) := by decide +kernel
theorem dX11_at_16 : decode cX11_at 16 = .ok (.invokestatic 91, 3) := by decide +kernel
theorem dX11_at_19 : decode cX11_at 19 = .ok (.ifCond .eq 11, 3) := by decide +kernel
theorem dX11_at_22 : decode cX11_at 22 = .ok (.aload_n 0, 1) := by decide +kernel
theorem dX11_at_23 : decode cX11_at 23 = .ok (.iload_n 1, 1) := by decide +kernel
theorem dX11_at_24 : decode cX11_at 24 = .ok (.invokevirtual 99, 3) := by decide +kernel
theorem dX11_at_27 : decode cX11_at 27 = .ok (.goto 4, 3) := by decide +kernel
theorem dX11_at_30 : decode cX11_at 30 = .ok (.iconst (-1), 1) := by decide +kernel
theorem dX11_at_31 : decode cX11_at 31 = .ok (.ireturn, 1) := by decide +kernel
theorem dX11_reader_0 : decode cX11_reader 0 = .ok (.aload_n 0, 1) := by decide +kernel
theorem dX11_reader_1 : decode cX11_reader 1 = .ok (.aload_n 0, 1) := by decide +kernel
theorem dX11_reader_2 : decode cX11_reader 2 = .ok (.iload_n 1, 1) := by decide +kernel
theorem dX11_reader_3 : decode cX11_reader 3 = .ok (.invokevirtual 201, 3) := by decide +kernel
theorem dX11_reader_6 : decode cX11_reader 6 = .ok (.invokevirtual 170, 3) := by decide +kernel
theorem dX11_reader_9 : decode cX11_reader 9 = .ok (.ifCond .eq 5, 3) := by decide +kernel
theorem dX11_reader_12 : decode cX11_reader 12 = .ok (.iconst 0, 1) := by decide +kernel
theorem dX11_reader_13 : decode cX11_reader 13 = .ok (.ireturn, 1) := by decide +kernel
theorem dX11_reader_14 : decode cX11_reader 14 = .ok (.iload_n 2, 1) := by decide +kernel
theorem dX11_reader_15 : decode cX11_reader 15 = .ok (.tableswitch 48 0 2 #[25, 31, 38], 25) := by decide +kernel
theorem dX11_reader_40 : decode cX11_reader 40 = .ok (.aload_n 0, 1) := by decide +kernel
theorem dX11_reader_41 : decode cX11_reader 41 = .ok (.iload_n 1, 1) := by decide +kernel
theorem dX11_reader_42 : decode cX11_reader 42 = .ok (.invokevirtual 136, 3) := by decide +kernel
theorem dX11_reader_45 : decode cX11_reader 45 = .ok (.ireturn, 1) := by decide +kernel
theorem dX11_reader_46 : decode cX11_reader 46 = .ok (.aload_n 0, 1) := by decide +kernel
theorem dX11_reader_47 : decode cX11_reader 47 = .ok (.iconst 0, 1) := by decide +kernel
theorem dX11_reader_48 : decode cX11_reader 48 = .ok (.iload_n 1, 1) := by decide +kernel
theorem dX11_reader_49 : decode cX11_reader 49 = .ok (.invokevirtual 192, 3) := by decide +kernel
theorem dX11_reader_52 : decode cX11_reader 52 = .ok (.ireturn, 1) := by decide +kernel
theorem dX11_reader_53 : decode cX11_reader 53 = .ok (.aload_n 0, 1) := by decide +kernel
theorem dX11_reader_54 : decode cX11_reader 54 = .ok (.getfield 31, 3) := by decide +kernel
theorem dX11_reader_57 : decode cX11_reader 57 = .ok (.bipush 17, 2) := by decide +kernel
theorem dX11_reader_59 : decode cX11_reader 59 = .ok (.iload_n 1, 1) := by decide +kernel
theorem dX11_reader_60 : decode cX11_reader 60 = .ok (.iadd, 1) := by decide +kernel
theorem dX11_reader_61 : decode cX11_reader 61 = .ok (.iaload, 1) := by decide +kernel
theorem dX11_reader_62 : decode cX11_reader 62 = .ok (.ireturn, 1) := by decide +kernel
theorem dX11_reader_63 : decode cX11_reader 63 = .ok (.aload_n 0, 1) := by decide +kernel
theorem dX11_reader_64 : decode cX11_reader 64 = .ok (.iconst 2, 1) := by decide +kernel
theorem dX11_reader_65 : decode cX11_reader 65 = .ok (.invokevirtual 195, 3) := by decide +kernel
theorem dX11_reader_68 : decode cX11_reader 68 = .ok (.ireturn, 1) := by decide +kernel
theorem dX11_waiting_0 : decode cX11_waiting 0 = .ok (.aload_n 0, 1) := by decide +kernel
theorem dX11_waiting_1 : decode cX11_waiting 1 = .ok (.iload_n 2, 1) := by decide +kernel
theorem dX11_waiting_2 : decode cX11_waiting 2 = .ok (.iconst 0, 1) := by decide +kernel
theorem dX11_waiting_3 : decode cX11_waiting 3 = .ok (.iconst 4, 1) := by decide +kernel
theorem dX11_waiting_4 : decode cX11_waiting 4 = .ok (.invokestatic 91, 3) := by decide +kernel
theorem dX11_waiting_7 : decode cX11_waiting 7 = .ok (.invokevirtual 170, 3) := by decide +kernel
theorem dX11_waiting_10 : decode cX11_waiting 10 = .ok (.ifCond .eq 5, 3) := by decide +kernel
theorem dX11_waiting_13 : decode cX11_waiting 13 = .ok (.iconst 0, 1) := by decide +kernel
theorem dX11_waiting_14 : decode cX11_waiting 14 = .ok (.ireturn, 1) := by decide +kernel
theorem dX11_waiting_15 : decode cX11_waiting 15 = .ok (.aload_n 0, 1) := by decide +kernel
theorem dX11_waiting_16 : decode cX11_waiting 16 = .ok (.iload_n 1, 1) := by decide +kernel
theorem dX11_waiting_17 : decode cX11_waiting 17 = .ok (.invokevirtual 204, 3) := by decide +kernel
theorem dX11_waiting_20 : decode cX11_waiting 20 = .ok (.ifCond .ne 5, 3) := by decide +kernel
theorem dX11_waiting_23 : decode cX11_waiting 23 = .ok (.iconst (-1), 1) := by decide +kernel
theorem dX11_waiting_24 : decode cX11_waiting 24 = .ok (.ireturn, 1) := by decide +kernel
theorem dX11_waiting_25 : decode cX11_waiting 25 = .ok (.iload_n 2, 1) := by decide +kernel
theorem dX11_waiting_26 : decode cX11_waiting 26 = .ok (.iconst 4, 1) := by decide +kernel
theorem dX11_waiting_27 : decode cX11_waiting 27 = .ok (.if_icmp .ge 12, 3) := by decide +kernel
theorem dX11_waiting_30 : decode cX11_waiting 30 = .ok (.aload_n 0, 1) := by decide +kernel
theorem dX11_waiting_31 : decode cX11_waiting 31 = .ok (.iload_n 1, 1) := by decide +kernel
theorem dX11_waiting_32 : decode cX11_waiting 32 = .ok (.iload_n 2, 1) := by decide +kernel
theorem dX11_waiting_33 : decode cX11_waiting 33 = .ok (.invokevirtual 130, 3) := by decide +kernel
theorem dX11_waiting_36 : decode cX11_waiting 36 = .ok (.goto 8, 3) := by decide +kernel
theorem dX11_waiting_39 : decode cX11_waiting 39 = .ok (.aload_n 0, 1) := by decide +kernel
theorem dX11_waiting_40 : decode cX11_waiting 40 = .ok (.iload_n 1, 1) := by decide +kernel
theorem dX11_waiting_41 : decode cX11_waiting 41 = .ok (.invokevirtual 149, 3) := by decide +kernel
theorem dX11_waiting_44 : decode cX11_waiting 44 = .ok (.ireturn, 1) := by decide +kernel
theorem dX11_timesIn_0 : decode cX11_timesIn 0 = .ok (.iconst 0, 1) := by decide +kernel
theorem dX11_timesIn_1 : decode cX11_timesIn 1 = .ok (.istore 4, 2) := by decide +kernel
theorem dX11_timesIn_3 : decode cX11_timesIn 3 = .ok (.iconst 0, 1) := by decide +kernel
theorem dX11_timesIn_4 : decode cX11_timesIn 4 = .ok (.istore 5, 2) := by decide +kernel
theorem dX11_timesIn_6 : decode cX11_timesIn 6 = .ok (.iload 5, 2) := by decide +kernel
theorem dX11_timesIn_8 : decode cX11_timesIn 8 = .ok (.iload_n 2, 1) := by decide +kernel
theorem dX11_timesIn_9 : decode cX11_timesIn 9 = .ok (.if_icmp .ge 32, 3) := by decide +kernel
theorem dX11_timesIn_12 : decode cX11_timesIn 12 = .ok (.iload 4, 2) := by decide +kernel
theorem dX11_timesIn_14 : decode cX11_timesIn 14 = .ok (.aload_n 0, 1) := by decide +kernel
theorem dX11_timesIn_15 : decode cX11_timesIn 15 = .ok (.getfield 31, 3) := by decide +kernel
theorem dX11_timesIn_18 : decode cX11_timesIn 18 = .ok (.iload_n 1, 1) := by decide +kernel
theorem dX11_timesIn_19 : decode cX11_timesIn 19 = .ok (.iload 5, 2) := by decide +kernel
theorem dX11_timesIn_21 : decode cX11_timesIn 21 = .ok (.iadd, 1) := by decide +kernel
theorem dX11_timesIn_22 : decode cX11_timesIn 22 = .ok (.iaload, 1) := by decide +kernel
theorem dX11_timesIn_23 : decode cX11_timesIn 23 = .ok (.iload_n 3, 1) := by decide +kernel
theorem dX11_timesIn_24 : decode cX11_timesIn 24 = .ok (.if_icmp .ne 7, 3) := by decide +kernel
theorem dX11_timesIn_27 : decode cX11_timesIn 27 = .ok (.iconst 1, 1) := by decide +kernel
theorem dX11_timesIn_28 : decode cX11_timesIn 28 = .ok (.goto 4, 3) := by decide +kernel
theorem dX11_timesIn_31 : decode cX11_timesIn 31 = .ok (.iconst 0, 1) := by decide +kernel
theorem dX11_timesIn_32 : decode cX11_timesIn 32 = .ok (.iadd, 1) := by decide +kernel
theorem dX11_timesIn_33 : decode cX11_timesIn 33 = .ok (.istore 4, 2) := by decide +kernel
theorem dX11_timesIn_35 : decode cX11_timesIn 35 = .ok (.iinc 5 1, 3) := by decide +kernel
theorem dX11_timesIn_38 : decode cX11_timesIn 38 = .ok (.goto (-32), 3) := by decide +kernel
theorem dX11_timesIn_41 : decode cX11_timesIn 41 = .ok (.iload 4, 2) := by decide +kernel
theorem dX11_timesIn_43 : decode cX11_timesIn 43 = .ok (.ireturn, 1) := by decide +kernel
theorem dX11_gap_0 : decode cX11_gap 0 = .ok (.aload_n 0, 1) := by decide +kernel
theorem dX11_gap_1 : decode cX11_gap 1 = .ok (.iconst 0, 1) := by decide +kernel
theorem dX11_gap_2 : decode cX11_gap 2 = .ok (.putfield 81, 3) := by decide +kernel
theorem dX11_gap_5 : decode cX11_gap 5 = .ok (.iconst 0, 1) := by decide +kernel
theorem dX11_gap_6 : decode cX11_gap 6 = .ok (.istore_n 1, 1) := by decide +kernel
theorem dX11_gap_7 : decode cX11_gap 7 = .ok (.iconst 0, 1) := by decide +kernel
theorem dX11_gap_8 : decode cX11_gap 8 = .ok (.istore_n 2, 1) := by decide +kernel
theorem dX11_gap_9 : decode cX11_gap 9 = .ok (.iload_n 2, 1) := by decide +kernel
theorem dX11_gap_10 : decode cX11_gap 10 = .ok (.aload_n 0, 1) := by decide +kernel
theorem dX11_gap_11 : decode cX11_gap 11 = .ok (.getfield 31, 3) := by decide +kernel
theorem dX11_gap_14 : decode cX11_gap 14 = .ok (.iconst 5, 1) := by decide +kernel
theorem dX11_gap_15 : decode cX11_gap 15 = .ok (.iaload, 1) := by decide +kernel
theorem dX11_gap_16 : decode cX11_gap 16 = .ok (.if_icmp .ge 69, 3) := by decide +kernel
theorem dX11_gap_19 : decode cX11_gap 19 = .ok (.aload_n 0, 1) := by decide +kernel
theorem dX11_gap_20 : decode cX11_gap 20 = .ok (.sipush 145, 3) := by decide +kernel
theorem dX11_gap_23 : decode cX11_gap 23 = .ok (.aload_n 0, 1) := by decide +kernel
theorem dX11_gap_24 : decode cX11_gap 24 = .ok (.getfield 31, 3) := by decide +kernel
theorem dX11_gap_27 : decode cX11_gap 27 = .ok (.bipush 6, 2) := by decide +kernel
theorem dX11_gap_29 : decode cX11_gap 29 = .ok (.iaload, 1) := by decide +kernel
theorem dX11_gap_30 : decode cX11_gap 30 = .ok (.iload_n 2, 1) := by decide +kernel
theorem dX11_gap_31 : decode cX11_gap 31 = .ok (.invokevirtual 207, 3) := by decide +kernel
theorem dX11_gap_34 : decode cX11_gap 34 = .ok (.aload_n 0, 1) := by decide +kernel
theorem dX11_gap_35 : decode cX11_gap 35 = .ok (.sipush 169, 3) := by decide +kernel
theorem dX11_gap_38 : decode cX11_gap 38 = .ok (.aload_n 0, 1) := by decide +kernel
theorem dX11_gap_39 : decode cX11_gap 39 = .ok (.getfield 31, 3) := by decide +kernel
theorem dX11_gap_42 : decode cX11_gap 42 = .ok (.bipush 7, 2) := by decide +kernel
theorem dX11_gap_44 : decode cX11_gap 44 = .ok (.iaload, 1) := by decide +kernel
theorem dX11_gap_45 : decode cX11_gap 45 = .ok (.iload_n 2, 1) := by decide +kernel
theorem dX11_gap_46 : decode cX11_gap 46 = .ok (.invokevirtual 207, 3) := by decide +kernel
theorem dX11_gap_49 : decode cX11_gap 49 = .ok (.iadd, 1) := by decide +kernel
theorem dX11_gap_50 : decode cX11_gap 50 = .ok (.aload_n 0, 1) := by decide +kernel
theorem dX11_gap_51 : decode cX11_gap 51 = .ok (.iload_n 2, 1) := by decide +kernel
theorem dX11_gap_52 : decode cX11_gap 52 = .ok (.iconst 1, 1) := by decide +kernel
theorem dX11_gap_53 : decode cX11_gap 53 = .ok (.invokevirtual 126, 3) := by decide +kernel
theorem dX11_gap_56 : decode cX11_gap 56 = .ok (.ifCond .eq 7, 3) := by decide +kernel
theorem dX11_gap_59 : decode cX11_gap 59 = .ok (.iconst 1, 1) := by decide +kernel
theorem dX11_gap_60 : decode cX11_gap 60 = .ok (.goto 4, 3) := by decide +kernel
theorem dX11_gap_63 : decode cX11_gap 63 = .ok (.iconst 0, 1) := by decide +kernel
theorem dX11_gap_64 : decode cX11_gap 64 = .ok (.iadd, 1) := by decide +kernel
theorem dX11_gap_65 : decode cX11_gap 65 = .ok (.istore_n 3, 1) := by decide +kernel
theorem dX11_gap_66 : decode cX11_gap 66 = .ok (.iload_n 1, 1) := by decide +kernel
theorem dX11_gap_67 : decode cX11_gap 67 = .ok (.iload_n 3, 1) := by decide +kernel
theorem dX11_gap_68 : decode cX11_gap 68 = .ok (.iconst 1, 1) := by decide +kernel
theorem dX11_gap_69 : decode cX11_gap 69 = .ok (.if_icmp .eq 7, 3) := by decide +kernel
theorem dX11_gap_72 : decode cX11_gap 72 = .ok (.iconst 1, 1) := by decide +kernel
theorem dX11_gap_73 : decode cX11_gap 73 = .ok (.goto 4, 3) := by decide +kernel
theorem dX11_gap_76 : decode cX11_gap 76 = .ok (.iconst 0, 1) := by decide +kernel
theorem dX11_gap_77 : decode cX11_gap 77 = .ok (.iadd, 1) := by decide +kernel
theorem dX11_gap_78 : decode cX11_gap 78 = .ok (.istore_n 1, 1) := by decide +kernel
theorem dX11_gap_79 : decode cX11_gap 79 = .ok (.iinc 2 1, 3) := by decide +kernel
theorem dX11_gap_82 : decode cX11_gap 82 = .ok (.goto (-73), 3) := by decide +kernel
theorem dX11_gap_85 : decode cX11_gap 85 = .ok (.iconst 0, 1) := by decide +kernel
theorem dX11_gap_86 : decode cX11_gap 86 = .ok (.istore_n 2, 1) := by decide +kernel
theorem dX11_gap_87 : decode cX11_gap 87 = .ok (.iload_n 2, 1) := by decide +kernel
theorem dX11_gap_88 : decode cX11_gap 88 = .ok (.aload_n 0, 1) := by decide +kernel
theorem dX11_gap_89 : decode cX11_gap 89 = .ok (.getfield 31, 3) := by decide +kernel
theorem dX11_gap_92 : decode cX11_gap 92 = .ok (.iconst 3, 1) := by decide +kernel
theorem dX11_gap_93 : decode cX11_gap 93 = .ok (.iaload, 1) := by decide +kernel
theorem dX11_gap_94 : decode cX11_gap 94 = .ok (.if_icmp .ge 31, 3) := by decide +kernel
theorem dX11_gap_97 : decode cX11_gap 97 = .ok (.iload_n 1, 1) := by decide +kernel
theorem dX11_gap_98 : decode cX11_gap 98 = .ok (.aload_n 0, 1) := by decide +kernel
theorem dX11_gap_99 : decode cX11_gap 99 = .ok (.iload_n 2, 1) := by decide +kernel
theorem dX11_gap_100 : decode cX11_gap 100 = .ok (.invokevirtual 136, 3) := by decide +kernel
theorem dX11_gap_103 : decode cX11_gap 103 = .ok (.aload_n 0, 1) := by decide +kernel
theorem dX11_gap_104 : decode cX11_gap 104 = .ok (.getfield 31, 3) := by decide +kernel
theorem dX11_gap_107 : decode cX11_gap 107 = .ok (.iconst 4, 1) := by decide +kernel
theorem dX11_gap_108 : decode cX11_gap 108 = .ok (.iaload, 1) := by decide +kernel
theorem dX11_gap_109 : decode cX11_gap 109 = .ok (.if_icmp .le 7, 3) := by decide +kernel
theorem dX11_gap_112 : decode cX11_gap 112 = .ok (.iconst 1, 1) := by decide +kernel
theorem dX11_gap_113 : decode cX11_gap 113 = .ok (.goto 4, 3) := by decide +kernel
theorem dX11_gap_116 : decode cX11_gap 116 = .ok (.iconst 0, 1) := by decide +kernel
theorem dX11_gap_117 : decode cX11_gap 117 = .ok (.iadd, 1) := by decide +kernel
theorem dX11_gap_118 : decode cX11_gap 118 = .ok (.istore_n 1, 1) := by decide +kernel
theorem dX11_gap_119 : decode cX11_gap 119 = .ok (.iinc 2 1, 3) := by decide +kernel
theorem dX11_gap_122 : decode cX11_gap 122 = .ok (.goto (-35), 3) := by decide +kernel
theorem dX11_gap_125 : decode cX11_gap 125 = .ok (.iconst 0, 1) := by decide +kernel
theorem dX11_gap_126 : decode cX11_gap 126 = .ok (.istore_n 2, 1) := by decide +kernel
theorem dX11_gap_127 : decode cX11_gap 127 = .ok (.iload_n 2, 1) := by decide +kernel
theorem dX11_gap_128 : decode cX11_gap 128 = .ok (.aload_n 0, 1) := by decide +kernel
theorem dX11_gap_129 : decode cX11_gap 129 = .ok (.getfield 31, 3) := by decide +kernel
theorem dX11_gap_132 : decode cX11_gap 132 = .ok (.bipush 8, 2) := by decide +kernel
theorem dX11_gap_134 : decode cX11_gap 134 = .ok (.iaload, 1) := by decide +kernel
theorem dX11_gap_135 : decode cX11_gap 135 = .ok (.if_icmp .ge 48, 3) := by decide +kernel
theorem dX11_gap_138 : decode cX11_gap 138 = .ok (.aload_n 0, 1) := by decide +kernel
theorem dX11_gap_139 : decode cX11_gap 139 = .ok (.iload_n 2, 1) := by decide +kernel
theorem dX11_gap_140 : decode cX11_gap 140 = .ok (.iconst 1, 1) := by decide +kernel
theorem dX11_gap_141 : decode cX11_gap 141 = .ok (.invokevirtual 130, 3) := by decide +kernel
theorem dX11_gap_144 : decode cX11_gap 144 = .ok (.istore_n 3, 1) := by decide +kernel
theorem dX11_gap_145 : decode cX11_gap 145 = .ok (.iload_n 1, 1) := by decide +kernel
theorem dX11_gap_146 : decode cX11_gap 146 = .ok (.aload_n 0, 1) := by decide +kernel
theorem dX11_gap_147 : decode cX11_gap 147 = .ok (.iload_n 3, 1) := by decide +kernel
theorem dX11_gap_148 : decode cX11_gap 148 = .ok (.iconst 1, 1) := by decide +kernel
theorem dX11_gap_149 : decode cX11_gap 149 = .ok (.invokevirtual 126, 3) := by decide +kernel
theorem dX11_gap_152 : decode cX11_gap 152 = .ok (.ifCond .eq 22, 3) := by decide +kernel
theorem dX11_gap_155 : decode cX11_gap 155 = .ok (.aload_n 0, 1) := by decide +kernel
theorem dX11_gap_156 : decode cX11_gap 156 = .ok (.iload_n 3, 1) := by decide +kernel
theorem dX11_gap_157 : decode cX11_gap 157 = .ok (.iconst 3, 1) := by decide +kernel
theorem dX11_gap_158 : decode cX11_gap 158 = .ok (.invokevirtual 95, 3) := by decide +kernel
theorem dX11_gap_161 : decode cX11_gap 161 = .ok (.aload_n 0, 1) := by decide +kernel
theorem dX11_gap_162 : decode cX11_gap 162 = .ok (.iload_n 2, 1) := by decide +kernel
theorem dX11_gap_163 : decode cX11_gap 163 = .ok (.iconst 0, 1) := by decide +kernel
theorem dX11_gap_164 : decode cX11_gap 164 = .ok (.invokevirtual 130, 3) := by decide +kernel
theorem dX11_gap_167 : decode cX11_gap 167 = .ok (.if_icmp .ne 7, 3) := by decide +kernel
theorem dX11_gap_170 : decode cX11_gap 170 = .ok (.iconst 1, 1) := by decide +kernel
theorem dX11_gap_171 : decode cX11_gap 171 = .ok (.goto 4, 3) := by decide +kernel
theorem dX11_gap_174 : decode cX11_gap 174 = .ok (.iconst 0, 1) := by decide +kernel
theorem dX11_gap_175 : decode cX11_gap 175 = .ok (.iadd, 1) := by decide +kernel
theorem dX11_gap_176 : decode cX11_gap 176 = .ok (.istore_n 1, 1) := by decide +kernel
theorem dX11_gap_177 : decode cX11_gap 177 = .ok (.iinc 2 1, 3) := by decide +kernel
theorem dX11_gap_180 : decode cX11_gap 180 = .ok (.goto (-53), 3) := by decide +kernel
theorem dX11_gap_183 : decode cX11_gap 183 = .ok (.iload_n 1, 1) := by decide +kernel
theorem dX11_gap_184 : decode cX11_gap 184 = .ok (.ireturn, 1) := by decide +kernel
theorem dX11_found_0 : decode cX11_found 0 = .ok (.aload_n 0, 1) := by decide +kernel
theorem dX11_found_1 : decode cX11_found 1 = .ok (.iconst 0, 1) := by decide +kernel
theorem dX11_found_2 : decode cX11_found 2 = .ok (.putfield 81, 3) := by decide +kernel
theorem dX11_found_5 : decode cX11_found 5 = .ok (.aload_n 0, 1) := by decide +kernel
theorem dX11_found_6 : decode cX11_found 6 = .ok (.iload_n 1, 1) := by decide +kernel
theorem dX11_found_7 : decode cX11_found 7 = .ok (.invokevirtual 119, 3) := by decide +kernel
theorem dX11_found_10 : decode cX11_found 10 = .ok (.ireturn, 1) := by decide +kernel
theorem dX11_looks_0 : decode cX11_looks 0 = .ok (.aload_n 0, 1) := by decide +kernel
theorem dX11_looks_1 : decode cX11_looks 1 = .ok (.iconst 0, 1) := by decide +kernel
theorem dX11_looks_2 : decode cX11_looks 2 = .ok (.putfield 81, 3) := by decide +kernel
theorem dX11_looks_5 : decode cX11_looks 5 = .ok (.aload_n 0, 1) := by decide +kernel
theorem dX11_looks_6 : decode cX11_looks 6 = .ok (.iload_n 1, 1) := by decide +kernel
theorem dX11_looks_7 : decode cX11_looks 7 = .ok (.invokevirtual 119, 3) := by decide +kernel
theorem dX11_looks_10 : decode cX11_looks 10 = .ok (.istore_n 2, 1) := by decide +kernel
theorem dX11_looks_11 : decode cX11_looks 11 = .ok (.aload_n 0, 1) := by decide +kernel
theorem dX11_looks_12 : decode cX11_looks 12 = .ok (.getfield 113, 3) := by decide +kernel
theorem dX11_looks_15 : decode cX11_looks 15 = .ok (.ireturn, 1) := by decide +kernel
theorem dX11_missed_0 : decode cX11_missed 0 = .ok (.aload_n 0, 1) := by decide +kernel
theorem dX11_missed_1 : decode cX11_missed 1 = .ok (.iconst 0, 1) := by decide +kernel
theorem dX11_missed_2 : decode cX11_missed 2 = .ok (.putfield 81, 3) := by decide +kernel
theorem dX11_missed_5 : decode cX11_missed 5 = .ok (.aload_n 0, 1) := by decide +kernel
theorem dX11_missed_6 : decode cX11_missed 6 = .ok (.invokevirtual 211, 3) := by decide +kernel
theorem dX11_missed_9 : decode cX11_missed 9 = .ok (.ireturn, 1) := by decide +kernel
theorem dX11_refilePlace_0 : decode cX11_refilePlace 0 = .ok (.aload_n 0, 1) := by decide +kernel
theorem dX11_refilePlace_1 : decode cX11_refilePlace 1 = .ok (.iconst 0, 1) := by decide +kernel
theorem dX11_refilePlace_2 : decode cX11_refilePlace 2 = .ok (.putfield 81, 3) := by decide +kernel
theorem dX11_refilePlace_5 : decode cX11_refilePlace 5 = .ok (.aload_n 0, 1) := by decide +kernel
theorem dX11_refilePlace_6 : decode cX11_refilePlace 6 = .ok (.iload_n 1, 1) := by decide +kernel
theorem dX11_refilePlace_7 : decode cX11_refilePlace 7 = .ok (.invokevirtual 119, 3) := by decide +kernel
theorem dX11_refilePlace_10 : decode cX11_refilePlace 10 = .ok (.istore_n 2, 1) := by decide +kernel
theorem dX11_refilePlace_11 : decode cX11_refilePlace 11 = .ok (.aload_n 0, 1) := by decide +kernel
theorem dX11_refilePlace_12 : decode cX11_refilePlace 12 = .ok (.getfield 116, 3) := by decide +kernel
theorem dX11_refilePlace_15 : decode cX11_refilePlace 15 = .ok (.ireturn, 1) := by decide +kernel
theorem dX11_lookedAt_0 : decode cX11_lookedAt 0 = .ok (.aload_n 0, 1) := by decide +kernel
theorem dX11_lookedAt_1 : decode cX11_lookedAt 1 = .ok (.iconst 0, 1) := by decide +kernel
theorem dX11_lookedAt_2 : decode cX11_lookedAt 2 = .ok (.putfield 81, 3) := by decide +kernel
theorem dX11_lookedAt_5 : decode cX11_lookedAt 5 = .ok (.aload_n 0, 1) := by decide +kernel
theorem dX11_lookedAt_6 : decode cX11_lookedAt 6 = .ok (.iload_n 1, 1) := by decide +kernel
theorem dX11_lookedAt_7 : decode cX11_lookedAt 7 = .ok (.invokevirtual 119, 3) := by decide +kernel
theorem dX11_lookedAt_10 : decode cX11_lookedAt 10 = .ok (.istore_n 3, 1) := by decide +kernel
theorem dX11_lookedAt_11 : decode cX11_lookedAt 11 = .ok (.iload_n 2, 1) := by decide +kernel
theorem dX11_lookedAt_12 : decode cX11_lookedAt 12 = .ok (.iconst 0, 1) := by decide +kernel
theorem dX11_lookedAt_13 : decode cX11_lookedAt 13 = .ok (.aload_n 0, 1) := by decide +kernel
theorem dX11_lookedAt_14 : decode cX11_lookedAt 14 = .ok (.getfield 113, 3) := by decide +kernel
theorem dX11_lookedAt_17 : decode cX11_lookedAt 17 = .ok (.iconst 1, 1) := by decide +kernel
theorem dX11_lookedAt_18 : decode cX11_lookedAt 18 = .ok (.isub, 1) := by decide +kernel
theorem dX11_lookedAt_19 : decode cX11_lookedAt 19 = .ok (.invokestatic 91, 3) := by decide +kernel
theorem dX11_lookedAt_22 : decode cX11_lookedAt 22 = .ok (.ifCond .eq 16, 3) := by decide +kernel
theorem dX11_lookedAt_25 : decode cX11_lookedAt 25 = .ok (.aload_n 0, 1) := by decide +kernel
theorem dX11_lookedAt_26 : decode cX11_lookedAt 26 = .ok (.aload_n 0, 1) := by decide +kernel
theorem dX11_lookedAt_27 : decode cX11_lookedAt 27 = .ok (.getfield 34, 3) := by decide +kernel
theorem dX11_lookedAt_30 : decode cX11_lookedAt 30 = .ok (.iload_n 2, 1) := by decide +kernel
theorem dX11_lookedAt_31 : decode cX11_lookedAt 31 = .ok (.iaload, 1) := by decide +kernel
theorem dX11_lookedAt_32 : decode cX11_lookedAt 32 = .ok (.invokevirtual 99, 3) := by decide +kernel
theorem dX11_lookedAt_35 : decode cX11_lookedAt 35 = .ok (.goto 4, 3) := by decide +kernel
theorem dX11_lookedAt_38 : decode cX11_lookedAt 38 = .ok (.iconst (-1), 1) := by decide +kernel
theorem dX11_lookedAt_39 : decode cX11_lookedAt 39 = .ok (.ireturn, 1) := by decide +kernel
theorem dX11_misplacement_0 : decode cX11_misplacement 0 = .ok (.aload_n 0, 1) := by decide +kernel
theorem dX11_misplacement_1 : decode cX11_misplacement 1 = .ok (.iload_n 1, 1) := by decide +kernel
theorem dX11_misplacement_2 : decode cX11_misplacement 2 = .ok (.invokevirtual 103, 3) := by decide +kernel
theorem dX11_misplacement_5 : decode cX11_misplacement 5 = .ok (.aload_n 0, 1) := by decide +kernel
theorem dX11_misplacement_6 : decode cX11_misplacement 6 = .ok (.iload_n 1, 1) := by decide +kernel
theorem dX11_misplacement_7 : decode cX11_misplacement 7 = .ok (.invokevirtual 214, 3) := by decide +kernel
theorem dX11_misplacement_10 : decode cX11_misplacement 10 = .ok (.isub, 1) := by decide +kernel
theorem dX11_misplacement_11 : decode cX11_misplacement 11 = .ok (.istore_n 2, 1) := by decide +kernel
theorem dX11_misplacement_12 : decode cX11_misplacement 12 = .ok (.iload_n 2, 1) := by decide +kernel
theorem dX11_misplacement_13 : decode cX11_misplacement 13 = .ok (.ifCond .ge 8, 3) := by decide +kernel
theorem dX11_misplacement_16 : decode cX11_misplacement 16 = .ok (.iload_n 2, 1) := by decide +kernel
theorem dX11_misplacement_17 : decode cX11_misplacement 17 = .ok (.ineg, 1) := by decide +kernel
theorem dX11_misplacement_18 : decode cX11_misplacement 18 = .ok (.goto 4, 3) := by decide +kernel
theorem dX11_misplacement_21 : decode cX11_misplacement 21 = .ok (.iload_n 2, 1) := by decide +kernel
theorem dX11_misplacement_22 : decode cX11_misplacement 22 = .ok (.ireturn, 1) := by decide +kernel
theorem dX11_mostMisplaced_0 : decode cX11_mostMisplaced 0 = .ok (.aload_n 0, 1) := by decide +kernel
theorem dX11_mostMisplaced_1 : decode cX11_mostMisplaced 1 = .ok (.iconst 0, 1) := by decide +kernel
theorem dX11_mostMisplaced_2 : decode cX11_mostMisplaced 2 = .ok (.putfield 81, 3) := by decide +kernel
theorem dX11_mostMisplaced_5 : decode cX11_mostMisplaced 5 = .ok (.iconst (-1), 1) := by decide +kernel
theorem dX11_mostMisplaced_6 : decode cX11_mostMisplaced 6 = .ok (.istore_n 1, 1) := by decide +kernel
theorem dX11_mostMisplaced_7 : decode cX11_mostMisplaced 7 = .ok (.iconst 0, 1) := by decide +kernel
theorem dX11_mostMisplaced_8 : decode cX11_mostMisplaced 8 = .ok (.istore_n 2, 1) := by decide +kernel
theorem dX11_mostMisplaced_9 : decode cX11_mostMisplaced 9 = .ok (.iconst 0, 1) := by decide +kernel
theorem dX11_mostMisplaced_10 : decode cX11_mostMisplaced 10 = .ok (.istore_n 3, 1) := by decide +kernel
theorem dX11_mostMisplaced_11 : decode cX11_mostMisplaced 11 = .ok (.iload_n 3, 1) := by decide +kernel
theorem dX11_mostMisplaced_12 : decode cX11_mostMisplaced 12 = .ok (.aload_n 0, 1) := by decide +kernel
theorem dX11_mostMisplaced_13 : decode cX11_mostMisplaced 13 = .ok (.getfield 31, 3) := by decide +kernel
theorem dX11_mostMisplaced_16 : decode cX11_mostMisplaced 16 = .ok (.iconst 5, 1) := by decide +kernel
theorem dX11_mostMisplaced_17 : decode cX11_mostMisplaced 17 = .ok (.iaload, 1) := by decide +kernel
theorem dX11_mostMisplaced_18 : decode cX11_mostMisplaced 18 = .ok (.if_icmp .ge 40, 3) := by decide +kernel
theorem dX11_mostMisplaced_21 : decode cX11_mostMisplaced 21 = .ok (.aload_n 0, 1) := by decide +kernel
theorem dX11_mostMisplaced_22 : decode cX11_mostMisplaced 22 = .ok (.iload_n 3, 1) := by decide +kernel
theorem dX11_mostMisplaced_23 : decode cX11_mostMisplaced 23 = .ok (.iconst 0, 1) := by decide +kernel
theorem dX11_mostMisplaced_24 : decode cX11_mostMisplaced 24 = .ok (.invokevirtual 126, 3) := by decide +kernel
theorem dX11_mostMisplaced_27 : decode cX11_mostMisplaced 27 = .ok (.ifCond .eq 11, 3) := by decide +kernel
theorem dX11_mostMisplaced_30 : decode cX11_mostMisplaced 30 = .ok (.aload_n 0, 1) := by decide +kernel
theorem dX11_mostMisplaced_31 : decode cX11_mostMisplaced 31 = .ok (.iload_n 3, 1) := by decide +kernel
theorem dX11_mostMisplaced_32 : decode cX11_mostMisplaced 32 = .ok (.invokevirtual 217, 3) := by decide +kernel
theorem dX11_mostMisplaced_35 : decode cX11_mostMisplaced 35 = .ok (.goto 4, 3) := by decide +kernel
theorem dX11_mostMisplaced_38 : decode cX11_mostMisplaced 38 = .ok (.iconst 0, 1) := by decide +kernel
theorem dX11_mostMisplaced_39 : decode cX11_mostMisplaced 39 = .ok (.istore 4, 2) := by decide +kernel
theorem dX11_mostMisplaced_41 : decode cX11_mostMisplaced 41 = .ok (.iload 4, 2) := by decide +kernel
theorem dX11_mostMisplaced_43 : decode cX11_mostMisplaced 43 = .ok (.iload_n 2, 1) := by decide +kernel
theorem dX11_mostMisplaced_44 : decode cX11_mostMisplaced 44 = .ok (.if_icmp .le 8, 3) := by decide +kernel
theorem dX11_mostMisplaced_47 : decode cX11_mostMisplaced 47 = .ok (.iload_n 3, 1) := by decide +kernel
theorem dX11_mostMisplaced_48 : decode cX11_mostMisplaced 48 = .ok (.istore_n 1, 1) := by decide +kernel
theorem dX11_mostMisplaced_49 : decode cX11_mostMisplaced 49 = .ok (.iload 4, 2) := by decide +kernel
theorem dX11_mostMisplaced_51 : decode cX11_mostMisplaced 51 = .ok (.istore_n 2, 1) := by decide +kernel
theorem dX11_mostMisplaced_52 : decode cX11_mostMisplaced 52 = .ok (.iinc 3 1, 3) := by decide +kernel
theorem dX11_mostMisplaced_55 : decode cX11_mostMisplaced 55 = .ok (.goto (-44), 3) := by decide +kernel
theorem dX11_mostMisplaced_58 : decode cX11_mostMisplaced 58 = .ok (.iload_n 1, 1) := by decide +kernel
theorem dX11_mostMisplaced_59 : decode cX11_mostMisplaced 59 = .ok (.ireturn, 1) := by decide +kernel
theorem dX11_mostAsked_0 : decode cX11_mostAsked 0 = .ok (.aload_n 0, 1) := by decide +kernel
theorem dX11_mostAsked_1 : decode cX11_mostAsked 1 = .ok (.iconst 0, 1) := by decide +kernel
theorem dX11_mostAsked_2 : decode cX11_mostAsked 2 = .ok (.putfield 81, 3) := by decide +kernel
theorem dX11_mostAsked_5 : decode cX11_mostAsked 5 = .ok (.iconst (-1), 1) := by decide +kernel
theorem dX11_mostAsked_6 : decode cX11_mostAsked 6 = .ok (.istore_n 1, 1) := by decide +kernel
theorem dX11_mostAsked_7 : decode cX11_mostAsked 7 = .ok (.iconst 0, 1) := by decide +kernel
theorem dX11_mostAsked_8 : decode cX11_mostAsked 8 = .ok (.istore_n 2, 1) := by decide +kernel
theorem dX11_mostAsked_9 : decode cX11_mostAsked 9 = .ok (.iconst 0, 1) := by decide +kernel
theorem dX11_mostAsked_10 : decode cX11_mostAsked 10 = .ok (.istore_n 3, 1) := by decide +kernel
theorem dX11_mostAsked_11 : decode cX11_mostAsked 11 = .ok (.iload_n 3, 1) := by decide +kernel
theorem dX11_mostAsked_12 : decode cX11_mostAsked 12 = .ok (.aload_n 0, 1) := by decide +kernel
theorem dX11_mostAsked_13 : decode cX11_mostAsked 13 = .ok (.getfield 31, 3) := by decide +kernel
theorem dX11_mostAsked_16 : decode cX11_mostAsked 16 = .ok (.iconst 5, 1) := by decide +kernel
theorem dX11_mostAsked_17 : decode cX11_mostAsked 17 = .ok (.iaload, 1) := by decide +kernel
theorem dX11_mostAsked_18 : decode cX11_mostAsked 18 = .ok (.if_icmp .ge 28, 3) := by decide +kernel
theorem dX11_mostAsked_21 : decode cX11_mostAsked 21 = .ok (.aload_n 0, 1) := by decide +kernel
theorem dX11_mostAsked_22 : decode cX11_mostAsked 22 = .ok (.iconst 1, 1) := by decide +kernel
theorem dX11_mostAsked_23 : decode cX11_mostAsked 23 = .ok (.iload_n 3, 1) := by decide +kernel
theorem dX11_mostAsked_24 : decode cX11_mostAsked 24 = .ok (.invokevirtual 192, 3) := by decide +kernel
theorem dX11_mostAsked_27 : decode cX11_mostAsked 27 = .ok (.istore 4, 2) := by decide +kernel
theorem dX11_mostAsked_29 : decode cX11_mostAsked 29 = .ok (.iload 4, 2) := by decide +kernel
theorem dX11_mostAsked_31 : decode cX11_mostAsked 31 = .ok (.iload_n 2, 1) := by decide +kernel
theorem dX11_mostAsked_32 : decode cX11_mostAsked 32 = .ok (.if_icmp .le 8, 3) := by decide +kernel
theorem dX11_mostAsked_35 : decode cX11_mostAsked 35 = .ok (.iload_n 3, 1) := by decide +kernel
theorem dX11_mostAsked_36 : decode cX11_mostAsked 36 = .ok (.istore_n 1, 1) := by decide +kernel
theorem dX11_mostAsked_37 : decode cX11_mostAsked 37 = .ok (.iload 4, 2) := by decide +kernel
theorem dX11_mostAsked_39 : decode cX11_mostAsked 39 = .ok (.istore_n 2, 1) := by decide +kernel
theorem dX11_mostAsked_40 : decode cX11_mostAsked 40 = .ok (.iinc 3 1, 3) := by decide +kernel
theorem dX11_mostAsked_43 : decode cX11_mostAsked 43 = .ok (.goto (-32), 3) := by decide +kernel
theorem dX11_mostAsked_46 : decode cX11_mostAsked 46 = .ok (.iload_n 1, 1) := by decide +kernel
theorem dX11_mostAsked_47 : decode cX11_mostAsked 47 = .ok (.ireturn, 1) := by decide +kernel
theorem dX11_inversions_0 : decode cX11_inversions 0 = .ok (.aload_n 0, 1) := by decide +kernel
theorem dX11_inversions_1 : decode cX11_inversions 1 = .ok (.iconst 0, 1) := by decide +kernel
theorem dX11_inversions_2 : decode cX11_inversions 2 = .ok (.putfield 81, 3) := by decide +kernel
theorem dX11_inversions_5 : decode cX11_inversions 5 = .ok (.aload_n 0, 1) := by decide +kernel
theorem dX11_inversions_6 : decode cX11_inversions 6 = .ok (.invokevirtual 220, 3) := by decide +kernel
theorem dX11_inversions_9 : decode cX11_inversions 9 = .ok (.ireturn, 1) := by decide +kernel
theorem dX11_longestOrdered_0 : decode cX11_longestOrdered 0 = .ok (.aload_n 0, 1) := by decide +kernel
theorem dX11_longestOrdered_1 : decode cX11_longestOrdered 1 = .ok (.iconst 0, 1) := by decide +kernel
theorem dX11_longestOrdered_2 : decode cX11_longestOrdered 2 = .ok (.putfield 81, 3) := by decide +kernel
theorem dX11_longestOrdered_5 : decode cX11_longestOrdered 5 = .ok (.iconst 0, 1) := by decide +kernel
theorem dX11_longestOrdered_6 : decode cX11_longestOrdered 6 = .ok (.istore_n 1, 1) := by decide +kernel
theorem dX11_longestOrdered_7 : decode cX11_longestOrdered 7 = .ok (.iconst 0, 1) := by decide +kernel
theorem dX11_longestOrdered_8 : decode cX11_longestOrdered 8 = .ok (.istore_n 2, 1) := by decide +kernel
theorem dX11_longestOrdered_9 : decode cX11_longestOrdered 9 = .ok (.iload_n 2, 1) := by decide +kernel
theorem dX11_longestOrdered_10 : decode cX11_longestOrdered 10 = .ok (.aload_n 0, 1) := by decide +kernel
theorem dX11_longestOrdered_11 : decode cX11_longestOrdered 11 = .ok (.getfield 31, 3) := by decide +kernel
theorem dX11_longestOrdered_14 : decode cX11_longestOrdered 14 = .ok (.bipush 6, 2) := by decide +kernel
theorem dX11_longestOrdered_16 : decode cX11_longestOrdered 16 = .ok (.iaload, 1) := by decide +kernel
theorem dX11_longestOrdered_17 : decode cX11_longestOrdered 17 = .ok (.if_icmp .ge 113, 3) := by decide +kernel
theorem dX11_longestOrdered_20 : decode cX11_longestOrdered 20 = .ok (.aload_n 0, 1) := by decide +kernel
theorem dX11_longestOrdered_21 : decode cX11_longestOrdered 21 = .ok (.getfield 37, 3) := by decide +kernel
theorem dX11_longestOrdered_24 : decode cX11_longestOrdered 24 = .ok (.iload_n 2, 1) := by decide +kernel
theorem dX11_longestOrdered_25 : decode cX11_longestOrdered 25 = .ok (.iconst 1, 1) := by decide +kernel
theorem dX11_longestOrdered_26 : decode cX11_longestOrdered 26 = .ok (.iastore, 1) := by decide +kernel
theorem dX11_longestOrdered_27 : decode cX11_longestOrdered 27 = .ok (.iconst 0, 1) := by decide +kernel
theorem dX11_longestOrdered_28 : decode cX11_longestOrdered 28 = .ok (.istore_n 3, 1) := by decide +kernel
theorem dX11_longestOrdered_29 : decode cX11_longestOrdered 29 = .ok (.iload_n 3, 1) := by decide +kernel
theorem dX11_longestOrdered_30 : decode cX11_longestOrdered 30 = .ok (.iload_n 2, 1) := by decide +kernel
theorem dX11_longestOrdered_31 : decode cX11_longestOrdered 31 = .ok (.if_icmp .ge 72, 3) := by decide +kernel
theorem dX11_longestOrdered_34 : decode cX11_longestOrdered 34 = .ok (.aload_n 0, 1) := by decide +kernel
theorem dX11_longestOrdered_35 : decode cX11_longestOrdered 35 = .ok (.iload_n 3, 1) := by decide +kernel
theorem dX11_longestOrdered_36 : decode cX11_longestOrdered 36 = .ok (.invokevirtual 106, 3) := by decide +kernel
theorem dX11_longestOrdered_39 : decode cX11_longestOrdered 39 = .ok (.aload_n 0, 1) := by decide +kernel
theorem dX11_longestOrdered_40 : decode cX11_longestOrdered 40 = .ok (.iload_n 2, 1) := by decide +kernel
theorem dX11_longestOrdered_41 : decode cX11_longestOrdered 41 = .ok (.invokevirtual 106, 3) := by decide +kernel
theorem dX11_longestOrdered_44 : decode cX11_longestOrdered 44 = .ok (.if_icmp .ge 22, 3) := by decide +kernel
theorem dX11_longestOrdered_47 : decode cX11_longestOrdered 47 = .ok (.aload_n 0, 1) := by decide +kernel
theorem dX11_longestOrdered_48 : decode cX11_longestOrdered 48 = .ok (.getfield 37, 3) := by decide +kernel
theorem dX11_longestOrdered_51 : decode cX11_longestOrdered 51 = .ok (.iload_n 3, 1) := by decide +kernel
theorem dX11_longestOrdered_52 : decode cX11_longestOrdered 52 = .ok (.iaload, 1) := by decide +kernel
theorem dX11_longestOrdered_53 : decode cX11_longestOrdered 53 = .ok (.aload_n 0, 1) := by decide +kernel
theorem dX11_longestOrdered_54 : decode cX11_longestOrdered 54 = .ok (.getfield 37, 3) := by decide +kernel
theorem dX11_longestOrdered_57 : decode cX11_longestOrdered 57 = .ok (.iload_n 2, 1) := by decide +kernel
theorem dX11_longestOrdered_58 : decode cX11_longestOrdered 58 = .ok (.iaload, 1) := by decide +kernel
theorem dX11_longestOrdered_59 : decode cX11_longestOrdered 59 = .ok (.if_icmp .lt 7, 3) := by decide +kernel
theorem dX11_longestOrdered_62 : decode cX11_longestOrdered 62 = .ok (.iconst 1, 1) := by decide +kernel
theorem dX11_longestOrdered_63 : decode cX11_longestOrdered 63 = .ok (.goto 4, 3) := by decide +kernel
theorem dX11_longestOrdered_66 : decode cX11_longestOrdered 66 = .ok (.iconst 0, 1) := by decide +kernel
theorem dX11_longestOrdered_67 : decode cX11_longestOrdered 67 = .ok (.istore 4, 2) := by decide +kernel
theorem dX11_longestOrdered_69 : decode cX11_longestOrdered 69 = .ok (.aload_n 0, 1) := by decide +kernel
theorem dX11_longestOrdered_70 : decode cX11_longestOrdered 70 = .ok (.getfield 37, 3) := by decide +kernel
theorem dX11_longestOrdered_73 : decode cX11_longestOrdered 73 = .ok (.iload_n 2, 1) := by decide +kernel
theorem dX11_longestOrdered_74 : decode cX11_longestOrdered 74 = .ok (.iload 4, 2) := by decide +kernel
theorem dX11_longestOrdered_76 : decode cX11_longestOrdered 76 = .ok (.ifCond .eq 14, 3) := by decide +kernel
theorem dX11_longestOrdered_79 : decode cX11_longestOrdered 79 = .ok (.aload_n 0, 1) := by decide +kernel
theorem dX11_longestOrdered_80 : decode cX11_longestOrdered 80 = .ok (.getfield 37, 3) := by decide +kernel
theorem dX11_longestOrdered_83 : decode cX11_longestOrdered 83 = .ok (.iload_n 3, 1) := by decide +kernel
theorem dX11_longestOrdered_84 : decode cX11_longestOrdered 84 = .ok (.iaload, 1) := by decide +kernel
theorem dX11_longestOrdered_85 : decode cX11_longestOrdered 85 = .ok (.iconst 1, 1) := by decide +kernel
theorem dX11_longestOrdered_86 : decode cX11_longestOrdered 86 = .ok (.iadd, 1) := by decide +kernel
theorem dX11_longestOrdered_87 : decode cX11_longestOrdered 87 = .ok (.goto 9, 3) := by decide +kernel
theorem dX11_longestOrdered_90 : decode cX11_longestOrdered 90 = .ok (.aload_n 0, 1) := by decide +kernel
theorem dX11_longestOrdered_91 : decode cX11_longestOrdered 91 = .ok (.getfield 37, 3) := by decide +kernel
theorem dX11_longestOrdered_94 : decode cX11_longestOrdered 94 = .ok (.iload_n 2, 1) := by decide +kernel
theorem dX11_longestOrdered_95 : decode cX11_longestOrdered 95 = .ok (.iaload, 1) := by decide +kernel
theorem dX11_longestOrdered_96 : decode cX11_longestOrdered 96 = .ok (.iastore, 1) := by decide +kernel
theorem dX11_longestOrdered_97 : decode cX11_longestOrdered 97 = .ok (.iinc 3 1, 3) := by decide +kernel
theorem dX11_longestOrdered_100 : decode cX11_longestOrdered 100 = .ok (.goto (-71), 3) := by decide +kernel
theorem dX11_longestOrdered_103 : decode cX11_longestOrdered 103 = .ok (.aload_n 0, 1) := by decide +kernel
theorem dX11_longestOrdered_104 : decode cX11_longestOrdered 104 = .ok (.getfield 37, 3) := by decide +kernel
theorem dX11_longestOrdered_107 : decode cX11_longestOrdered 107 = .ok (.iload_n 2, 1) := by decide +kernel
theorem dX11_longestOrdered_108 : decode cX11_longestOrdered 108 = .ok (.iaload, 1) := by decide +kernel
theorem dX11_longestOrdered_109 : decode cX11_longestOrdered 109 = .ok (.iload_n 1, 1) := by decide +kernel
theorem dX11_longestOrdered_110 : decode cX11_longestOrdered 110 = .ok (.if_icmp .le 12, 3) := by decide +kernel
theorem dX11_longestOrdered_113 : decode cX11_longestOrdered 113 = .ok (.aload_n 0, 1) := by decide +kernel
theorem dX11_longestOrdered_114 : decode cX11_longestOrdered 114 = .ok (.getfield 37, 3) := by decide +kernel
theorem dX11_longestOrdered_117 : decode cX11_longestOrdered 117 = .ok (.iload_n 2, 1) := by decide +kernel
theorem dX11_longestOrdered_118 : decode cX11_longestOrdered 118 = .ok (.iaload, 1) := by decide +kernel
theorem dX11_longestOrdered_119 : decode cX11_longestOrdered 119 = .ok (.goto 4, 3) := by decide +kernel
theorem dX11_longestOrdered_122 : decode cX11_longestOrdered 122 = .ok (.iload_n 1, 1) := by decide +kernel
theorem dX11_longestOrdered_123 : decode cX11_longestOrdered 123 = .ok (.istore_n 1, 1) := by decide +kernel
theorem dX11_longestOrdered_124 : decode cX11_longestOrdered 124 = .ok (.iinc 2 1, 3) := by decide +kernel
theorem dX11_longestOrdered_127 : decode cX11_longestOrdered 127 = .ok (.goto (-118), 3) := by decide +kernel
theorem dX11_longestOrdered_130 : decode cX11_longestOrdered 130 = .ok (.iload_n 1, 1) := by decide +kernel
theorem dX11_longestOrdered_131 : decode cX11_longestOrdered 131 = .ok (.ireturn, 1) := by decide +kernel
theorem dX11_refusal_0 : decode cX11_refusal 0 = .ok (.aload_n 0, 1) := by decide +kernel
theorem dX11_refusal_1 : decode cX11_refusal 1 = .ok (.iload_n 2, 1) := by decide +kernel
theorem dX11_refusal_2 : decode cX11_refusal 2 = .ok (.iconst 1, 1) := by decide +kernel
theorem dX11_refusal_3 : decode cX11_refusal 3 = .ok (.invokevirtual 126, 3) := by decide +kernel
theorem dX11_refusal_6 : decode cX11_refusal 6 = .ok (.ifCond .eq 16, 3) := by decide +kernel
theorem dX11_refusal_9 : decode cX11_refusal 9 = .ok (.aload_n 0, 1) := by decide +kernel
theorem dX11_refusal_10 : decode cX11_refusal 10 = .ok (.iload_n 2, 1) := by decide +kernel
theorem dX11_refusal_11 : decode cX11_refusal 11 = .ok (.iconst 3, 1) := by decide +kernel
theorem dX11_refusal_12 : decode cX11_refusal 12 = .ok (.invokevirtual 95, 3) := by decide +kernel
theorem dX11_refusal_15 : decode cX11_refusal 15 = .ok (.iload_n 1, 1) := by decide +kernel
theorem dX11_refusal_16 : decode cX11_refusal 16 = .ok (.if_icmp .ne 6, 3) := by decide +kernel
theorem dX11_refusal_19 : decode cX11_refusal 19 = .ok (.bipush (-2), 2) := by decide +kernel
theorem dX11_refusal_21 : decode cX11_refusal 21 = .ok (.ireturn, 1) := by decide +kernel
theorem dX11_refusal_22 : decode cX11_refusal 22 = .ok (.aload_n 0, 1) := by decide +kernel
theorem dX11_refusal_23 : decode cX11_refusal 23 = .ok (.iload_n 1, 1) := by decide +kernel
theorem dX11_refusal_24 : decode cX11_refusal 24 = .ok (.iload_n 2, 1) := by decide +kernel
theorem dX11_refusal_25 : decode cX11_refusal 25 = .ok (.invokevirtual 223, 3) := by decide +kernel
theorem dX11_refusal_28 : decode cX11_refusal 28 = .ok (.iconst (-1), 1) := by decide +kernel
theorem dX11_refusal_29 : decode cX11_refusal 29 = .ok (.if_icmp .eq 6, 3) := by decide +kernel
theorem dX11_refusal_32 : decode cX11_refusal 32 = .ok (.bipush (-3), 2) := by decide +kernel
theorem dX11_refusal_34 : decode cX11_refusal 34 = .ok (.ireturn, 1) := by decide +kernel
theorem dX11_refusal_35 : decode cX11_refusal 35 = .ok (.aload_n 0, 1) := by decide +kernel
theorem dX11_refusal_36 : decode cX11_refusal 36 = .ok (.getfield 31, 3) := by decide +kernel
theorem dX11_refusal_39 : decode cX11_refusal 39 = .ok (.bipush 8, 2) := by decide +kernel
theorem dX11_refusal_41 : decode cX11_refusal 41 = .ok (.iaload, 1) := by decide +kernel
theorem dX11_refusal_42 : decode cX11_refusal 42 = .ok (.bipush 16, 2) := by decide +kernel
theorem dX11_refusal_44 : decode cX11_refusal 44 = .ok (.if_icmp .ne 8, 3) := by decide +kernel
theorem dX11_refusal_47 : decode cX11_refusal 47 = .ok (.bipush (-4), 2) := by decide +kernel
theorem dX11_refusal_49 : decode cX11_refusal 49 = .ok (.goto 4, 3) := by decide +kernel
theorem dX11_refusal_52 : decode cX11_refusal 52 = .ok (.iconst 0, 1) := by decide +kernel
theorem dX11_refusal_53 : decode cX11_refusal 53 = .ok (.ireturn, 1) := by decide +kernel
theorem dX11_areThere_0 : decode cX11_areThere 0 = .ok (.aload_n 0, 1) := by decide +kernel
theorem dX11_areThere_1 : decode cX11_areThere 1 = .ok (.iload_n 1, 1) := by decide +kernel
theorem dX11_areThere_2 : decode cX11_areThere 2 = .ok (.invokevirtual 201, 3) := by decide +kernel
theorem dX11_areThere_5 : decode cX11_areThere 5 = .ok (.ifCond .eq 15, 3) := by decide +kernel
theorem dX11_areThere_8 : decode cX11_areThere 8 = .ok (.aload_n 0, 1) := by decide +kernel
theorem dX11_areThere_9 : decode cX11_areThere 9 = .ok (.iload_n 2, 1) := by decide +kernel
theorem dX11_areThere_10 : decode cX11_areThere 10 = .ok (.invokevirtual 186, 3) := by decide +kernel
theorem dX11_areThere_13 : decode cX11_areThere 13 = .ok (.ifCond .eq 7, 3) := by decide +kernel
theorem dX11_areThere_16 : decode cX11_areThere 16 = .ok (.iconst 1, 1) := by decide +kernel
theorem dX11_areThere_17 : decode cX11_areThere 17 = .ok (.goto 4, 3) := by decide +kernel
theorem dX11_areThere_20 : decode cX11_areThere 20 = .ok (.iconst 0, 1) := by decide +kernel
theorem dX11_areThere_21 : decode cX11_areThere 21 = .ok (.ireturn, 1) := by decide +kernel
theorem dX11_why_0 : decode cX11_why 0 = .ok (.aload_n 0, 1) := by decide +kernel
theorem dX11_why_1 : decode cX11_why 1 = .ok (.aload_n 0, 1) := by decide +kernel
theorem dX11_why_2 : decode cX11_why 2 = .ok (.iload_n 1, 1) := by decide +kernel
theorem dX11_why_3 : decode cX11_why 3 = .ok (.iload_n 2, 1) := by decide +kernel
theorem dX11_why_4 : decode cX11_why 4 = .ok (.invokevirtual 226, 3) := by decide +kernel
theorem dX11_why_7 : decode cX11_why 7 = .ok (.invokevirtual 170, 3) := by decide +kernel
theorem dX11_why_10 : decode cX11_why 10 = .ok (.ifCond .eq 7, 3) := by decide +kernel
theorem dX11_why_13 : decode cX11_why 13 = .ok (.iconst 0, 1) := by decide +kernel
theorem dX11_why_14 : decode cX11_why 14 = .ok (.goto 9, 3) := by decide +kernel
theorem dX11_why_17 : decode cX11_why 17 = .ok (.aload_n 0, 1) := by decide +kernel
theorem dX11_why_18 : decode cX11_why 18 = .ok (.iload_n 1, 1) := by decide +kernel
theorem dX11_why_19 : decode cX11_why 19 = .ok (.iload_n 2, 1) := by decide +kernel
theorem dX11_why_20 : decode cX11_why 20 = .ok (.invokevirtual 229, 3) := by decide +kernel
theorem dX11_why_23 : decode cX11_why 23 = .ok (.ireturn, 1) := by decide +kernel
theorem dX11_cause_0 : decode cX11_cause 0 = .ok (.aload_n 0, 1) := by decide +kernel
theorem dX11_cause_1 : decode cX11_cause 1 = .ok (.aload_n 0, 1) := by decide +kernel
theorem dX11_cause_2 : decode cX11_cause 2 = .ok (.iload_n 1, 1) := by decide +kernel
theorem dX11_cause_3 : decode cX11_cause 3 = .ok (.iload_n 2, 1) := by decide +kernel
theorem dX11_cause_4 : decode cX11_cause 4 = .ok (.invokevirtual 226, 3) := by decide +kernel
theorem dX11_cause_7 : decode cX11_cause 7 = .ok (.invokevirtual 170, 3) := by decide +kernel
theorem dX11_cause_10 : decode cX11_cause 10 = .ok (.ifCond .eq 5, 3) := by decide +kernel
theorem dX11_cause_13 : decode cX11_cause 13 = .ok (.iconst 0, 1) := by decide +kernel
theorem dX11_cause_14 : decode cX11_cause 14 = .ok (.ireturn, 1) := by decide +kernel
theorem dX11_cause_15 : decode cX11_cause 15 = .ok (.aload_n 0, 1) := by decide +kernel
theorem dX11_cause_16 : decode cX11_cause 16 = .ok (.iload_n 1, 1) := by decide +kernel
theorem dX11_cause_17 : decode cX11_cause 17 = .ok (.iload_n 2, 1) := by decide +kernel
theorem dX11_cause_18 : decode cX11_cause 18 = .ok (.invokevirtual 229, 3) := by decide +kernel
theorem dX11_cause_21 : decode cX11_cause 21 = .ok (.bipush (-3), 2) := by decide +kernel
theorem dX11_cause_23 : decode cX11_cause 23 = .ok (.if_icmp .ne 12, 3) := by decide +kernel
theorem dX11_cause_26 : decode cX11_cause 26 = .ok (.aload_n 0, 1) := by decide +kernel
theorem dX11_cause_27 : decode cX11_cause 27 = .ok (.iload_n 1, 1) := by decide +kernel
theorem dX11_cause_28 : decode cX11_cause 28 = .ok (.iload_n 2, 1) := by decide +kernel
theorem dX11_cause_29 : decode cX11_cause 29 = .ok (.invokevirtual 223, 3) := by decide +kernel
theorem dX11_cause_32 : decode cX11_cause 32 = .ok (.goto 4, 3) := by decide +kernel
theorem dX11_cause_35 : decode cX11_cause 35 = .ok (.iconst (-1), 1) := by decide +kernel
theorem dX11_cause_36 : decode cX11_cause 36 = .ok (.ireturn, 1) := by decide +kernel
theorem dX11_waitsFor_0 : decode cX11_waitsFor 0 = .ok (.aload_n 0, 1) := by decide +kernel
theorem dX11_waitsFor_1 : decode cX11_waitsFor 1 = .ok (.iconst 0, 1) := by decide +kernel
theorem dX11_waitsFor_2 : decode cX11_waitsFor 2 = .ok (.putfield 81, 3) := by decide +kernel
theorem dX11_waitsFor_5 : decode cX11_waitsFor 5 = .ok (.aload_n 0, 1) := by decide +kernel
theorem dX11_waitsFor_6 : decode cX11_waitsFor 6 = .ok (.iload_n 1, 1) := by decide +kernel
theorem dX11_waitsFor_7 : decode cX11_waitsFor 7 = .ok (.invokevirtual 204, 3) := by decide +kernel
theorem dX11_waitsFor_10 : decode cX11_waitsFor 10 = .ok (.ifCond .ne 5, 3) := by decide +kernel
theorem dX11_waitsFor_13 : decode cX11_waitsFor 13 = .ok (.iconst (-1), 1) := by decide +kernel
theorem dX11_waitsFor_14 : decode cX11_waitsFor 14 = .ok (.ireturn, 1) := by decide +kernel
theorem dX11_waitsFor_15 : decode cX11_waitsFor 15 = .ok (.aload_n 0, 1) := by decide +kernel
theorem dX11_waitsFor_16 : decode cX11_waitsFor 16 = .ok (.iload_n 1, 1) := by decide +kernel
theorem dX11_waitsFor_17 : decode cX11_waitsFor 17 = .ok (.iconst 1, 1) := by decide +kernel
theorem dX11_waitsFor_18 : decode cX11_waitsFor 18 = .ok (.invokevirtual 130, 3) := by decide +kernel
theorem dX11_waitsFor_21 : decode cX11_waitsFor 21 = .ok (.istore_n 2, 1) := by decide +kernel
theorem dX11_waitsFor_22 : decode cX11_waitsFor 22 = .ok (.aload_n 0, 1) := by decide +kernel
theorem dX11_waitsFor_23 : decode cX11_waitsFor 23 = .ok (.iload_n 1, 1) := by decide +kernel
theorem dX11_waitsFor_24 : decode cX11_waitsFor 24 = .ok (.invokevirtual 149, 3) := by decide +kernel
theorem dX11_waitsFor_27 : decode cX11_waitsFor 27 = .ok (.tableswitch 66 1 4 #[29, 36, 41, 55], 29) := by decide +kernel
theorem dX11_waitsFor_56 : decode cX11_waitsFor 56 = .ok (.aload_n 0, 1) := by decide +kernel
theorem dX11_waitsFor_57 : decode cX11_waitsFor 57 = .ok (.iload_n 2, 1) := by decide +kernel
theorem dX11_waitsFor_58 : decode cX11_waitsFor 58 = .ok (.iconst 3, 1) := by decide +kernel
theorem dX11_waitsFor_59 : decode cX11_waitsFor 59 = .ok (.invokevirtual 95, 3) := by decide +kernel
theorem dX11_waitsFor_62 : decode cX11_waitsFor 62 = .ok (.ireturn, 1) := by decide +kernel
theorem dX11_waitsFor_63 : decode cX11_waitsFor 63 = .ok (.aload_n 0, 1) := by decide +kernel
theorem dX11_waitsFor_64 : decode cX11_waitsFor 64 = .ok (.invokevirtual 180, 3) := by decide +kernel
theorem dX11_waitsFor_67 : decode cX11_waitsFor 67 = .ok (.ireturn, 1) := by decide +kernel
theorem dX11_waitsFor_68 : decode cX11_waitsFor 68 = .ok (.aload_n 0, 1) := by decide +kernel
theorem dX11_waitsFor_69 : decode cX11_waitsFor 69 = .ok (.iload_n 2, 1) := by decide +kernel
theorem dX11_waitsFor_70 : decode cX11_waitsFor 70 = .ok (.iconst 1, 1) := by decide +kernel
theorem dX11_waitsFor_71 : decode cX11_waitsFor 71 = .ok (.invokevirtual 95, 3) := by decide +kernel
theorem dX11_waitsFor_74 : decode cX11_waitsFor 74 = .ok (.aload_n 0, 1) := by decide +kernel
theorem dX11_waitsFor_75 : decode cX11_waitsFor 75 = .ok (.getfield 31, 3) := by decide +kernel
theorem dX11_waitsFor_78 : decode cX11_waitsFor 78 = .ok (.iconst 0, 1) := by decide +kernel
theorem dX11_waitsFor_79 : decode cX11_waitsFor 79 = .ok (.iaload, 1) := by decide +kernel
theorem dX11_waitsFor_80 : decode cX11_waitsFor 80 = .ok (.isub, 1) := by decide +kernel
theorem dX11_waitsFor_81 : decode cX11_waitsFor 81 = .ok (.ireturn, 1) := by decide +kernel
theorem dX11_waitsFor_82 : decode cX11_waitsFor 82 = .ok (.aload_n 0, 1) := by decide +kernel
theorem dX11_waitsFor_83 : decode cX11_waitsFor 83 = .ok (.aload_n 0, 1) := by decide +kernel
theorem dX11_waitsFor_84 : decode cX11_waitsFor 84 = .ok (.iload_n 1, 1) := by decide +kernel
theorem dX11_waitsFor_85 : decode cX11_waitsFor 85 = .ok (.iconst 0, 1) := by decide +kernel
theorem dX11_waitsFor_86 : decode cX11_waitsFor 86 = .ok (.invokevirtual 130, 3) := by decide +kernel
theorem dX11_waitsFor_89 : decode cX11_waitsFor 89 = .ok (.invokevirtual 136, 3) := by decide +kernel
theorem dX11_waitsFor_92 : decode cX11_waitsFor 92 = .ok (.ireturn, 1) := by decide +kernel
theorem dX11_waitsFor_93 : decode cX11_waitsFor 93 = .ok (.iconst (-1), 1) := by decide +kernel
theorem dX11_waitsFor_94 : decode cX11_waitsFor 94 = .ok (.ireturn, 1) := by decide +kernel
theorem dX11_copy_0 : decode cX11_copy 0 = .ok (.aload_n 0, 1) := by decide +kernel
theorem dX11_copy_1 : decode cX11_copy 1 = .ok (.sipush 257, 3) := by decide +kernel
theorem dX11_copy_4 : decode cX11_copy 4 = .ok (.iload_n 1, 1) := by decide +kernel
theorem dX11_copy_5 : decode cX11_copy 5 = .ok (.imul, 1) := by decide +kernel
theorem dX11_copy_6 : decode cX11_copy 6 = .ok (.aload_n 2, 1) := by decide +kernel
theorem dX11_copy_7 : decode cX11_copy 7 = .ok (.sipush 257, 3) := by decide +kernel
theorem dX11_copy_10 : decode cX11_copy 10 = .ok (.iload_n 3, 1) := by decide +kernel
theorem dX11_copy_11 : decode cX11_copy 11 = .ok (.imul, 1) := by decide +kernel
theorem dX11_copy_12 : decode cX11_copy 12 = .ok (.sipush 257, 3) := by decide +kernel
theorem dX11_copy_15 : decode cX11_copy 15 = .ok (.invokestatic 232, 3) := by decide +kernel
theorem dX11_copy_18 : decode cX11_copy 18 = .ok (.return_, 1) := by decide +kernel
theorem dX11_goAside_0 : decode cX11_goAside 0 = .ok (.aload_n 0, 1) := by decide +kernel
theorem dX11_goAside_1 : decode cX11_goAside 1 = .ok (.getfield 31, 3) := by decide +kernel
theorem dX11_goAside_4 : decode cX11_goAside 4 = .ok (.iconst 0, 1) := by decide +kernel
theorem dX11_goAside_5 : decode cX11_goAside 5 = .ok (.aload_n 0, 1) := by decide +kernel
theorem dX11_goAside_6 : decode cX11_goAside 6 = .ok (.getfield 16, 3) := by decide +kernel
theorem dX11_goAside_9 : decode cX11_goAside 9 = .ok (.iconst 0, 1) := by decide +kernel
theorem dX11_goAside_10 : decode cX11_goAside 10 = .ok (.invokestatic 238, 3) := by decide +kernel
theorem dX11_goAside_13 : decode cX11_goAside 13 = .ok (.return_, 1) := by decide +kernel
theorem dX11_laidBack_0 : decode cX11_laidBack 0 = .ok (.aload_n 0, 1) := by decide +kernel
theorem dX11_laidBack_1 : decode cX11_laidBack 1 = .ok (.getfield 16, 3) := by decide +kernel
theorem dX11_laidBack_4 : decode cX11_laidBack 4 = .ok (.iconst 0, 1) := by decide +kernel
theorem dX11_laidBack_5 : decode cX11_laidBack 5 = .ok (.aload_n 0, 1) := by decide +kernel
theorem dX11_laidBack_6 : decode cX11_laidBack 6 = .ok (.getfield 31, 3) := by decide +kernel
theorem dX11_laidBack_9 : decode cX11_laidBack 9 = .ok (.iconst 0, 1) := by decide +kernel
theorem dX11_laidBack_10 : decode cX11_laidBack 10 = .ok (.invokestatic 238, 3) := by decide +kernel
theorem dX11_laidBack_13 : decode cX11_laidBack 13 = .ok (.iload_n 1, 1) := by decide +kernel
theorem dX11_laidBack_14 : decode cX11_laidBack 14 = .ok (.ireturn, 1) := by decide +kernel
theorem dX11_servedIn_0 : decode cX11_servedIn 0 = .ok (.aload_n 0, 1) := by decide +kernel
theorem dX11_servedIn_1 : decode cX11_servedIn 1 = .ok (.iconst 0, 1) := by decide +kernel
theorem dX11_servedIn_2 : decode cX11_servedIn 2 = .ok (.putfield 81, 3) := by decide +kernel
theorem dX11_servedIn_5 : decode cX11_servedIn 5 = .ok (.aload_n 0, 1) := by decide +kernel
theorem dX11_servedIn_6 : decode cX11_servedIn 6 = .ok (.iload_n 1, 1) := by decide +kernel
theorem dX11_servedIn_7 : decode cX11_servedIn 7 = .ok (.invokevirtual 204, 3) := by decide +kernel
theorem dX11_servedIn_10 : decode cX11_servedIn 10 = .ok (.ifCond .ne 5, 3) := by decide +kernel
theorem dX11_servedIn_13 : decode cX11_servedIn 13 = .ok (.iconst (-1), 1) := by decide +kernel
theorem dX11_servedIn_14 : decode cX11_servedIn 14 = .ok (.ireturn, 1) := by decide +kernel
theorem dX11_servedIn_15 : decode cX11_servedIn 15 = .ok (.aload_n 0, 1) := by decide +kernel
theorem dX11_servedIn_16 : decode cX11_servedIn 16 = .ok (.invokevirtual 242, 3) := by decide +kernel
theorem dX11_servedIn_19 : decode cX11_servedIn 19 = .ok (.aload_n 0, 1) := by decide +kernel
theorem dX11_servedIn_20 : decode cX11_servedIn 20 = .ok (.iload_n 1, 1) := by decide +kernel
theorem dX11_servedIn_21 : decode cX11_servedIn 21 = .ok (.iconst 0, 1) := by decide +kernel
theorem dX11_servedIn_22 : decode cX11_servedIn 22 = .ok (.invokevirtual 130, 3) := by decide +kernel
theorem dX11_servedIn_25 : decode cX11_servedIn 25 = .ok (.istore_n 2, 1) := by decide +kernel
theorem dX11_servedIn_26 : decode cX11_servedIn 26 = .ok (.aload_n 0, 1) := by decide +kernel
theorem dX11_servedIn_27 : decode cX11_servedIn 27 = .ok (.iload_n 1, 1) := by decide +kernel
theorem dX11_servedIn_28 : decode cX11_servedIn 28 = .ok (.iconst 1, 1) := by decide +kernel
theorem dX11_servedIn_29 : decode cX11_servedIn 29 = .ok (.invokevirtual 130, 3) := by decide +kernel
theorem dX11_servedIn_32 : decode cX11_servedIn 32 = .ok (.istore_n 3, 1) := by decide +kernel
theorem dX11_servedIn_33 : decode cX11_servedIn 33 = .ok (.iconst 1, 1) := by decide +kernel
theorem dX11_servedIn_34 : decode cX11_servedIn 34 = .ok (.istore 4, 2) := by decide +kernel
theorem dX11_servedIn_36 : decode cX11_servedIn 36 = .ok (.iload 4, 2) := by decide +kernel
theorem dX11_servedIn_38 : decode cX11_servedIn 38 = .ok (.bipush 60, 2) := by decide +kernel
theorem dX11_servedIn_40 : decode cX11_servedIn 40 = .ok (.if_icmp .gt 36, 3) := by decide +kernel
theorem dX11_servedIn_43 : decode cX11_servedIn 43 = .ok (.aload_n 0, 1) := by decide +kernel
theorem dX11_servedIn_44 : decode cX11_servedIn 44 = .ok (.aload_n 0, 1) := by decide +kernel
theorem dX11_servedIn_45 : decode cX11_servedIn 45 = .ok (.getfield 31, 3) := by decide +kernel
theorem dX11_servedIn_48 : decode cX11_servedIn 48 = .ok (.iconst 2, 1) := by decide +kernel
theorem dX11_servedIn_49 : decode cX11_servedIn 49 = .ok (.iaload, 1) := by decide +kernel
theorem dX11_servedIn_50 : decode cX11_servedIn 50 = .ok (.invokevirtual 167, 3) := by decide +kernel
theorem dX11_servedIn_53 : decode cX11_servedIn 53 = .ok (.aload_n 0, 1) := by decide +kernel
theorem dX11_servedIn_54 : decode cX11_servedIn 54 = .ok (.iload_n 2, 1) := by decide +kernel
theorem dX11_servedIn_55 : decode cX11_servedIn 55 = .ok (.iload_n 3, 1) := by decide +kernel
theorem dX11_servedIn_56 : decode cX11_servedIn 56 = .ok (.invokevirtual 223, 3) := by decide +kernel
theorem dX11_servedIn_59 : decode cX11_servedIn 59 = .ok (.iconst (-1), 1) := by decide +kernel
theorem dX11_servedIn_60 : decode cX11_servedIn 60 = .ok (.if_icmp .ne 10, 3) := by decide +kernel
theorem dX11_servedIn_63 : decode cX11_servedIn 63 = .ok (.aload_n 0, 1) := by decide +kernel
theorem dX11_servedIn_64 : decode cX11_servedIn 64 = .ok (.iload 4, 2) := by decide +kernel
theorem dX11_servedIn_66 : decode cX11_servedIn 66 = .ok (.invokevirtual 245, 3) := by decide +kernel
theorem dX11_servedIn_69 : decode cX11_servedIn 69 = .ok (.ireturn, 1) := by decide +kernel
theorem dX11_servedIn_70 : decode cX11_servedIn 70 = .ok (.iinc 4 1, 3) := by decide +kernel
theorem dX11_servedIn_73 : decode cX11_servedIn 73 = .ok (.goto (-37), 3) := by decide +kernel
theorem dX11_servedIn_76 : decode cX11_servedIn 76 = .ok (.aload_n 0, 1) := by decide +kernel
theorem dX11_servedIn_77 : decode cX11_servedIn 77 = .ok (.iconst (-1), 1) := by decide +kernel
theorem dX11_servedIn_78 : decode cX11_servedIn 78 = .ok (.invokevirtual 245, 3) := by decide +kernel
theorem dX11_servedIn_81 : decode cX11_servedIn 81 = .ok (.ireturn, 1) := by decide +kernel
theorem dX11_areDays_0 : decode cX11_areDays 0 = .ok (.iload_n 0, 1) := by decide +kernel
theorem dX11_areDays_1 : decode cX11_areDays 1 = .ok (.iconst 0, 1) := by decide +kernel
theorem dX11_areDays_2 : decode cX11_areDays 2 = .ok (.bipush 60, 2) := by decide +kernel
theorem dX11_areDays_4 : decode cX11_areDays 4 = .ok (.invokestatic 91, 3) := by decide +kernel
theorem dX11_areDays_7 : decode cX11_areDays 7 = .ok (.ireturn, 1) := by decide +kernel
theorem dX11_servedBy_0 : decode cX11_servedBy 0 = .ok (.aload_n 0, 1) := by decide +kernel
theorem dX11_servedBy_1 : decode cX11_servedBy 1 = .ok (.iload_n 1, 1) := by decide +kernel
theorem dX11_servedBy_2 : decode cX11_servedBy 2 = .ok (.invokestatic 248, 3) := by decide +kernel
theorem dX11_servedBy_5 : decode cX11_servedBy 5 = .ok (.invokevirtual 170, 3) := by decide +kernel
theorem dX11_servedBy_8 : decode cX11_servedBy 8 = .ok (.ifCond .eq 5, 3) := by decide +kernel
theorem dX11_servedBy_11 : decode cX11_servedBy 11 = .ok (.iconst 0, 1) := by decide +kernel
theorem dX11_servedBy_12 : decode cX11_servedBy 12 = .ok (.ireturn, 1) := by decide +kernel
theorem dX11_servedBy_13 : decode cX11_servedBy 13 = .ok (.aload_n 0, 1) := by decide +kernel
theorem dX11_servedBy_14 : decode cX11_servedBy 14 = .ok (.invokevirtual 242, 3) := by decide +kernel
theorem dX11_servedBy_17 : decode cX11_servedBy 17 = .ok (.aload_n 0, 1) := by decide +kernel
theorem dX11_servedBy_18 : decode cX11_servedBy 18 = .ok (.aload_n 0, 1) := by decide +kernel
theorem dX11_servedBy_19 : decode cX11_servedBy 19 = .ok (.iload_n 1, 1) := by decide +kernel
theorem dX11_servedBy_20 : decode cX11_servedBy 20 = .ok (.aload_n 0, 1) := by decide +kernel
theorem dX11_servedBy_21 : decode cX11_servedBy 21 = .ok (.getfield 31, 3) := by decide +kernel
theorem dX11_servedBy_24 : decode cX11_servedBy 24 = .ok (.iconst 2, 1) := by decide +kernel
theorem dX11_servedBy_25 : decode cX11_servedBy 25 = .ok (.iaload, 1) := by decide +kernel
theorem dX11_servedBy_26 : decode cX11_servedBy 26 = .ok (.invokevirtual 251, 3) := by decide +kernel
theorem dX11_servedBy_29 : decode cX11_servedBy 29 = .ok (.invokevirtual 245, 3) := by decide +kernel
theorem dX11_servedBy_32 : decode cX11_servedBy 32 = .ok (.ireturn, 1) := by decide +kernel
theorem dX11_waitingIn_0 : decode cX11_waitingIn 0 = .ok (.aload_n 0, 1) := by decide +kernel
theorem dX11_waitingIn_1 : decode cX11_waitingIn 1 = .ok (.iload_n 1, 1) := by decide +kernel
theorem dX11_waitingIn_2 : decode cX11_waitingIn 2 = .ok (.invokestatic 248, 3) := by decide +kernel
theorem dX11_waitingIn_5 : decode cX11_waitingIn 5 = .ok (.invokevirtual 170, 3) := by decide +kernel
theorem dX11_waitingIn_8 : decode cX11_waitingIn 8 = .ok (.ifCond .eq 5, 3) := by decide +kernel
theorem dX11_waitingIn_11 : decode cX11_waitingIn 11 = .ok (.iconst 0, 1) := by decide +kernel
theorem dX11_waitingIn_12 : decode cX11_waitingIn 12 = .ok (.ireturn, 1) := by decide +kernel
theorem dX11_waitingIn_13 : decode cX11_waitingIn 13 = .ok (.aload_n 0, 1) := by decide +kernel
theorem dX11_waitingIn_14 : decode cX11_waitingIn 14 = .ok (.invokevirtual 242, 3) := by decide +kernel
theorem dX11_waitingIn_17 : decode cX11_waitingIn 17 = .ok (.aload_n 0, 1) := by decide +kernel
theorem dX11_waitingIn_18 : decode cX11_waitingIn 18 = .ok (.iload_n 1, 1) := by decide +kernel
theorem dX11_waitingIn_19 : decode cX11_waitingIn 19 = .ok (.aload_n 0, 1) := by decide +kernel
theorem dX11_waitingIn_20 : decode cX11_waitingIn 20 = .ok (.getfield 31, 3) := by decide +kernel
theorem dX11_waitingIn_23 : decode cX11_waitingIn 23 = .ok (.iconst 2, 1) := by decide +kernel
theorem dX11_waitingIn_24 : decode cX11_waitingIn 24 = .ok (.iaload, 1) := by decide +kernel
theorem dX11_waitingIn_25 : decode cX11_waitingIn 25 = .ok (.invokevirtual 251, 3) := by decide +kernel
theorem dX11_waitingIn_28 : decode cX11_waitingIn 28 = .ok (.istore_n 2, 1) := by decide +kernel
theorem dX11_waitingIn_29 : decode cX11_waitingIn 29 = .ok (.aload_n 0, 1) := by decide +kernel
theorem dX11_waitingIn_30 : decode cX11_waitingIn 30 = .ok (.aload_n 0, 1) := by decide +kernel
theorem dX11_waitingIn_31 : decode cX11_waitingIn 31 = .ok (.getfield 31, 3) := by decide +kernel
theorem dX11_waitingIn_34 : decode cX11_waitingIn 34 = .ok (.bipush 8, 2) := by decide +kernel
theorem dX11_waitingIn_36 : decode cX11_waitingIn 36 = .ok (.iaload, 1) := by decide +kernel
theorem dX11_waitingIn_37 : decode cX11_waitingIn 37 = .ok (.invokevirtual 245, 3) := by decide +kernel
theorem dX11_waitingIn_40 : decode cX11_waitingIn 40 = .ok (.ireturn, 1) := by decide +kernel
theorem dX11_servedWith_0 : decode cX11_servedWith 0 = .ok (.aload_n 0, 1) := by decide +kernel
theorem dX11_servedWith_1 : decode cX11_servedWith 1 = .ok (.iload_n 1, 1) := by decide +kernel
theorem dX11_servedWith_2 : decode cX11_servedWith 2 = .ok (.iconst 1, 1) := by decide +kernel
theorem dX11_servedWith_3 : decode cX11_servedWith 3 = .ok (.bipush 6, 2) := by decide +kernel
theorem dX11_servedWith_5 : decode cX11_servedWith 5 = .ok (.invokestatic 91, 3) := by decide +kernel
theorem dX11_servedWith_8 : decode cX11_servedWith 8 = .ok (.invokevirtual 170, 3) := by decide +kernel
theorem dX11_servedWith_11 : decode cX11_servedWith 11 = .ok (.ifCond .eq 5, 3) := by decide +kernel
theorem dX11_servedWith_14 : decode cX11_servedWith 14 = .ok (.iconst 0, 1) := by decide +kernel
theorem dX11_servedWith_15 : decode cX11_servedWith 15 = .ok (.ireturn, 1) := by decide +kernel
theorem dX11_servedWith_16 : decode cX11_servedWith 16 = .ok (.aload_n 0, 1) := by decide +kernel
theorem dX11_servedWith_17 : decode cX11_servedWith 17 = .ok (.invokevirtual 242, 3) := by decide +kernel
theorem dX11_servedWith_20 : decode cX11_servedWith 20 = .ok (.aload_n 0, 1) := by decide +kernel
theorem dX11_servedWith_21 : decode cX11_servedWith 21 = .ok (.aload_n 0, 1) := by decide +kernel
theorem dX11_servedWith_22 : decode cX11_servedWith 22 = .ok (.bipush 10, 2) := by decide +kernel
theorem dX11_servedWith_24 : decode cX11_servedWith 24 = .ok (.iload_n 1, 1) := by decide +kernel
theorem dX11_servedWith_25 : decode cX11_servedWith 25 = .ok (.invokevirtual 251, 3) := by decide +kernel
theorem dX11_servedWith_28 : decode cX11_servedWith 28 = .ok (.invokevirtual 245, 3) := by decide +kernel
theorem dX11_servedWith_31 : decode cX11_servedWith 31 = .ok (.ireturn, 1) := by decide +kernel
theorem dX11_swapsLeft_0 : decode cX11_swapsLeft 0 = .ok (.aload_n 0, 1) := by decide +kernel
theorem dX11_swapsLeft_1 : decode cX11_swapsLeft 1 = .ok (.iconst 0, 1) := by decide +kernel
theorem dX11_swapsLeft_2 : decode cX11_swapsLeft 2 = .ok (.putfield 81, 3) := by decide +kernel
theorem dX11_swapsLeft_5 : decode cX11_swapsLeft 5 = .ok (.aload_n 0, 1) := by decide +kernel
theorem dX11_swapsLeft_6 : decode cX11_swapsLeft 6 = .ok (.invokevirtual 220, 3) := by decide +kernel
theorem dX11_swapsLeft_9 : decode cX11_swapsLeft 9 = .ok (.ireturn, 1) := by decide +kernel
theorem dX11_missedAfter_0 : decode cX11_missedAfter 0 = .ok (.aload_n 0, 1) := by decide +kernel
theorem dX11_missedAfter_1 : decode cX11_missedAfter 1 = .ok (.iload_n 1, 1) := by decide +kernel
theorem dX11_missedAfter_2 : decode cX11_missedAfter 2 = .ok (.iconst 0, 1) := by decide +kernel
theorem dX11_missedAfter_3 : decode cX11_missedAfter 3 = .ok (.bipush 99, 2) := by decide +kernel
theorem dX11_missedAfter_5 : decode cX11_missedAfter 5 = .ok (.invokestatic 91, 3) := by decide +kernel
theorem dX11_missedAfter_8 : decode cX11_missedAfter 8 = .ok (.invokevirtual 170, 3) := by decide +kernel
theorem dX11_missedAfter_11 : decode cX11_missedAfter 11 = .ok (.ifCond .eq 5, 3) := by decide +kernel
theorem dX11_missedAfter_14 : decode cX11_missedAfter 14 = .ok (.iconst 0, 1) := by decide +kernel
theorem dX11_missedAfter_15 : decode cX11_missedAfter 15 = .ok (.ireturn, 1) := by decide +kernel
theorem dX11_missedAfter_16 : decode cX11_missedAfter 16 = .ok (.aload_n 0, 1) := by decide +kernel
theorem dX11_missedAfter_17 : decode cX11_missedAfter 17 = .ok (.invokevirtual 242, 3) := by decide +kernel
theorem dX11_missedAfter_20 : decode cX11_missedAfter 20 = .ok (.aload_n 0, 1) := by decide +kernel
theorem dX11_missedAfter_21 : decode cX11_missedAfter 21 = .ok (.iload_n 1, 1) := by decide +kernel
theorem dX11_missedAfter_22 : decode cX11_missedAfter 22 = .ok (.invokevirtual 254, 3) := by decide +kernel
theorem dX11_missedAfter_25 : decode cX11_missedAfter 25 = .ok (.istore_n 2, 1) := by decide +kernel
theorem dX11_missedAfter_26 : decode cX11_missedAfter 26 = .ok (.aload_n 0, 1) := by decide +kernel
theorem dX11_missedAfter_27 : decode cX11_missedAfter 27 = .ok (.aload_n 0, 1) := by decide +kernel
theorem dX11_missedAfter_28 : decode cX11_missedAfter 28 = .ok (.invokevirtual 211, 3) := by decide +kernel
theorem dX11_missedAfter_31 : decode cX11_missedAfter 31 = .ok (.invokevirtual 245, 3) := by decide +kernel
theorem dX11_missedAfter_34 : decode cX11_missedAfter 34 = .ok (.ireturn, 1) := by decide +kernel
theorem dX11_foundShare_0 : decode cX11_foundShare 0 = .ok (.aload_n 0, 1) := by decide +kernel
theorem dX11_foundShare_1 : decode cX11_foundShare 1 = .ok (.iconst 0, 1) := by decide +kernel
theorem dX11_foundShare_2 : decode cX11_foundShare 2 = .ok (.putfield 81, 3) := by decide +kernel
theorem dX11_foundShare_5 : decode cX11_foundShare 5 = .ok (.aload_n 0, 1) := by decide +kernel
theorem dX11_foundShare_6 : decode cX11_foundShare 6 = .ok (.getfield 31, 3) := by decide +kernel
theorem dX11_foundShare_9 : decode cX11_foundShare 9 = .ok (.bipush 6, 2) := by decide +kernel
theorem dX11_foundShare_11 : decode cX11_foundShare 11 = .ok (.iaload, 1) := by decide +kernel
theorem dX11_foundShare_12 : decode cX11_foundShare 12 = .ok (.ifCond .ne 7, 3) := by decide +kernel
theorem dX11_foundShare_15 : decode cX11_foundShare 15 = .ok (.fconst 0, 1) := by decide +kernel
theorem dX11_foundShare_16 : decode cX11_foundShare 16 = .ok (.goto 25, 3) := by decide +kernel
theorem dX11_foundShare_19 : decode cX11_foundShare 19 = .ok (.aload_n 0, 1) := by decide +kernel
theorem dX11_foundShare_20 : decode cX11_foundShare 20 = .ok (.getfield 31, 3) := by decide +kernel
theorem dX11_foundShare_23 : decode cX11_foundShare 23 = .ok (.bipush 6, 2) := by decide +kernel
theorem dX11_foundShare_25 : decode cX11_foundShare 25 = .ok (.iaload, 1) := by decide +kernel
theorem dX11_foundShare_26 : decode cX11_foundShare 26 = .ok (.aload_n 0, 1) := by decide +kernel
theorem dX11_foundShare_27 : decode cX11_foundShare 27 = .ok (.invokevirtual 211, 3) := by decide +kernel
theorem dX11_foundShare_30 : decode cX11_foundShare 30 = .ok (.isub, 1) := by decide +kernel
theorem dX11_foundShare_31 : decode cX11_foundShare 31 = .ok (.i2f, 1) := by decide +kernel
theorem dX11_foundShare_32 : decode cX11_foundShare 32 = .ok (.aload_n 0, 1) := by decide +kernel
theorem dX11_foundShare_33 : decode cX11_foundShare 33 = .ok (.getfield 31, 3) := by decide +kernel
theorem dX11_foundShare_36 : decode cX11_foundShare 36 = .ok (.bipush 6, 2) := by decide +kernel
theorem dX11_foundShare_38 : decode cX11_foundShare 38 = .ok (.iaload, 1) := by decide +kernel
theorem dX11_foundShare_39 : decode cX11_foundShare 39 = .ok (.i2f, 1) := by decide +kernel
theorem dX11_foundShare_40 : decode cX11_foundShare 40 = .ok (.fdiv, 1) := by decide +kernel
theorem dX11_foundShare_41 : decode cX11_foundShare 41 = .ok (.freturn, 1) := by decide +kernel
theorem dX11_meanWait_0 : decode cX11_meanWait 0 = .ok (.aload_n 0, 1) := by decide +kernel
theorem dX11_meanWait_1 : decode cX11_meanWait 1 = .ok (.iconst 0, 1) := by decide +kernel
theorem dX11_meanWait_2 : decode cX11_meanWait 2 = .ok (.putfield 81, 3) := by decide +kernel
theorem dX11_meanWait_5 : decode cX11_meanWait 5 = .ok (.aload_n 0, 1) := by decide +kernel
theorem dX11_meanWait_6 : decode cX11_meanWait 6 = .ok (.iconst 4, 1) := by decide +kernel
theorem dX11_meanWait_7 : decode cX11_meanWait 7 = .ok (.invokevirtual 164, 3) := by decide +kernel
theorem dX11_meanWait_10 : decode cX11_meanWait 10 = .ok (.istore_n 1, 1) := by decide +kernel
theorem dX11_meanWait_11 : decode cX11_meanWait 11 = .ok (.iload_n 1, 1) := by decide +kernel
theorem dX11_meanWait_12 : decode cX11_meanWait 12 = .ok (.ifCond .ne 7, 3) := by decide +kernel
theorem dX11_meanWait_15 : decode cX11_meanWait 15 = .ok (.dconst 0, 1) := by decide +kernel
theorem dX11_meanWait_16 : decode cX11_meanWait 16 = .ok (.goto 13, 3) := by decide +kernel
theorem dX11_meanWait_19 : decode cX11_meanWait 19 = .ok (.aload_n 0, 1) := by decide +kernel
theorem dX11_meanWait_20 : decode cX11_meanWait 20 = .ok (.bipush 10, 2) := by decide +kernel
theorem dX11_meanWait_22 : decode cX11_meanWait 22 = .ok (.invokevirtual 164, 3) := by decide +kernel
theorem dX11_meanWait_25 : decode cX11_meanWait 25 = .ok (.i2d, 1) := by decide +kernel
theorem dX11_meanWait_26 : decode cX11_meanWait 26 = .ok (.iload_n 1, 1) := by decide +kernel
theorem dX11_meanWait_27 : decode cX11_meanWait 27 = .ok (.i2d, 1) := by decide +kernel
theorem dX11_meanWait_28 : decode cX11_meanWait 28 = .ok (.ddiv, 1) := by decide +kernel
theorem dX11_meanWait_29 : decode cX11_meanWait 29 = .ok (.dreturn, 1) := by decide +kernel
theorem dX11_ends_0 : decode cX11_ends 0 = .ok (.aload_n 0, 1) := by decide +kernel
theorem dX11_ends_1 : decode cX11_ends 1 = .ok (.getfield 28, 3) := by decide +kernel
theorem dX11_ends_4 : decode cX11_ends 4 = .ok (.iload_n 1, 1) := by decide +kernel
theorem dX11_ends_5 : decode cX11_ends 5 = .ok (.ifCond .ge 7, 3) := by decide +kernel
theorem dX11_ends_8 : decode cX11_ends 8 = .ok (.iconst 1, 1) := by decide +kernel
theorem dX11_ends_9 : decode cX11_ends 9 = .ok (.goto 4, 3) := by decide +kernel
theorem dX11_ends_12 : decode cX11_ends 12 = .ok (.iconst 0, 1) := by decide +kernel
theorem dX11_ends_13 : decode cX11_ends 13 = .ok (.dup2, 1) := by decide +kernel
theorem dX11_ends_14 : decode cX11_ends 14 = .ok (.iaload, 1) := by decide +kernel
theorem dX11_ends_15 : decode cX11_ends 15 = .ok (.iconst 1, 1) := by decide +kernel
theorem dX11_ends_16 : decode cX11_ends 16 = .ok (.iadd, 1) := by decide +kernel
theorem dX11_ends_17 : decode cX11_ends 17 = .ok (.iastore, 1) := by decide +kernel
theorem dX11_ends_18 : decode cX11_ends 18 = .ok (.iload_n 1, 1) := by decide +kernel
theorem dX11_ends_19 : decode cX11_ends 19 = .ok (.ireturn, 1) := by decide +kernel
theorem dX11_doSlip_0 : decode cX11_doSlip 0 = .ok (.aload_n 0, 1) := by decide +kernel
theorem dX11_doSlip_1 : decode cX11_doSlip 1 = .ok (.iload_n 1, 1) := by decide +kernel
theorem dX11_doSlip_2 : decode cX11_doSlip 2 = .ok (.iload_n 2, 1) := by decide +kernel
theorem dX11_doSlip_3 : decode cX11_doSlip 3 = .ok (.invokevirtual 229, 3) := by decide +kernel
theorem dX11_doSlip_6 : decode cX11_doSlip 6 = .ok (.istore_n 3, 1) := by decide +kernel
theorem dX11_doSlip_7 : decode cX11_doSlip 7 = .ok (.iload_n 3, 1) := by decide +kernel
theorem dX11_doSlip_8 : decode cX11_doSlip 8 = .ok (.ifCond .eq 9, 3) := by decide +kernel
theorem dX11_doSlip_11 : decode cX11_doSlip 11 = .ok (.aload_n 0, 1) := by decide +kernel
theorem dX11_doSlip_12 : decode cX11_doSlip 12 = .ok (.iload_n 3, 1) := by decide +kernel
theorem dX11_doSlip_13 : decode cX11_doSlip 13 = .ok (.invokevirtual 257, 3) := by decide +kernel
theorem dX11_doSlip_16 : decode cX11_doSlip 16 = .ok (.ireturn, 1) := by decide +kernel
theorem dX11_doSlip_17 : decode cX11_doSlip 17 = .ok (.aload_n 0, 1) := by decide +kernel
theorem dX11_doSlip_18 : decode cX11_doSlip 18 = .ok (.iload_n 1, 1) := by decide +kernel
theorem dX11_doSlip_19 : decode cX11_doSlip 19 = .ok (.iload_n 2, 1) := by decide +kernel
theorem dX11_doSlip_20 : decode cX11_doSlip 20 = .ok (.invokevirtual 260, 3) := by decide +kernel
theorem dX11_doSlip_23 : decode cX11_doSlip 23 = .ok (.aload_n 0, 1) := by decide +kernel
theorem dX11_doSlip_24 : decode cX11_doSlip 24 = .ok (.iconst 3, 1) := by decide +kernel
theorem dX11_doSlip_25 : decode cX11_doSlip 25 = .ok (.iconst 1, 1) := by decide +kernel
theorem dX11_doSlip_26 : decode cX11_doSlip 26 = .ok (.invokevirtual 139, 3) := by decide +kernel
theorem dX11_doSlip_29 : decode cX11_doSlip 29 = .ok (.aload_n 0, 1) := by decide +kernel
theorem dX11_doSlip_30 : decode cX11_doSlip 30 = .ok (.aload_n 0, 1) := by decide +kernel
theorem dX11_doSlip_31 : decode cX11_doSlip 31 = .ok (.getfield 31, 3) := by decide +kernel
theorem dX11_doSlip_34 : decode cX11_doSlip 34 = .ok (.bipush 8, 2) := by decide +kernel
theorem dX11_doSlip_36 : decode cX11_doSlip 36 = .ok (.iaload, 1) := by decide +kernel
theorem dX11_doSlip_37 : decode cX11_doSlip 37 = .ok (.iconst 1, 1) := by decide +kernel
theorem dX11_doSlip_38 : decode cX11_doSlip 38 = .ok (.isub, 1) := by decide +kernel
theorem dX11_doSlip_39 : decode cX11_doSlip 39 = .ok (.invokevirtual 257, 3) := by decide +kernel
theorem dX11_doSlip_42 : decode cX11_doSlip 42 = .ok (.ireturn, 1) := by decide +kernel
theorem dX11_doDrop_0 : decode cX11_doDrop 0 = .ok (.aload_n 0, 1) := by decide +kernel
theorem dX11_doDrop_1 : decode cX11_doDrop 1 = .ok (.iload_n 1, 1) := by decide +kernel
theorem dX11_doDrop_2 : decode cX11_doDrop 2 = .ok (.invokevirtual 204, 3) := by decide +kernel
theorem dX11_doDrop_5 : decode cX11_doDrop 5 = .ok (.ifCond .ne 10, 3) := by decide +kernel
theorem dX11_doDrop_8 : decode cX11_doDrop 8 = .ok (.aload_n 0, 1) := by decide +kernel
theorem dX11_doDrop_9 : decode cX11_doDrop 9 = .ok (.bipush (-2), 2) := by decide +kernel
theorem dX11_doDrop_11 : decode cX11_doDrop 11 = .ok (.invokevirtual 257, 3) := by decide +kernel
theorem dX11_doDrop_14 : decode cX11_doDrop 14 = .ok (.ireturn, 1) := by decide +kernel
theorem dX11_doDrop_15 : decode cX11_doDrop 15 = .ok (.aload_n 0, 1) := by decide +kernel
theorem dX11_doDrop_16 : decode cX11_doDrop 16 = .ok (.iload_n 1, 1) := by decide +kernel
theorem dX11_doDrop_17 : decode cX11_doDrop 17 = .ok (.invokevirtual 145, 3) := by decide +kernel
theorem dX11_doDrop_20 : decode cX11_doDrop 20 = .ok (.aload_n 0, 1) := by decide +kernel
theorem dX11_doDrop_21 : decode cX11_doDrop 21 = .ok (.aload_n 0, 1) := by decide +kernel
theorem dX11_doDrop_22 : decode cX11_doDrop 22 = .ok (.getfield 31, 3) := by decide +kernel
theorem dX11_doDrop_25 : decode cX11_doDrop 25 = .ok (.bipush 8, 2) := by decide +kernel
theorem dX11_doDrop_27 : decode cX11_doDrop 27 = .ok (.iaload, 1) := by decide +kernel
theorem dX11_doDrop_28 : decode cX11_doDrop 28 = .ok (.invokevirtual 257, 3) := by decide +kernel
theorem dX11_doDrop_31 : decode cX11_doDrop 31 = .ok (.ireturn, 1) := by decide +kernel
theorem dX11_doReturn_0 : decode cX11_doReturn 0 = .ok (.aload_n 0, 1) := by decide +kernel
theorem dX11_doReturn_1 : decode cX11_doReturn 1 = .ok (.iload_n 1, 1) := by decide +kernel
theorem dX11_doReturn_2 : decode cX11_doReturn 2 = .ok (.iconst 1, 1) := by decide +kernel
theorem dX11_doReturn_3 : decode cX11_doReturn 3 = .ok (.invokevirtual 126, 3) := by decide +kernel
theorem dX11_doReturn_6 : decode cX11_doReturn 6 = .ok (.ifCond .ne 10, 3) := by decide +kernel
theorem dX11_doReturn_9 : decode cX11_doReturn 9 = .ok (.aload_n 0, 1) := by decide +kernel
theorem dX11_doReturn_10 : decode cX11_doReturn 10 = .ok (.bipush (-2), 2) := by decide +kernel
theorem dX11_doReturn_12 : decode cX11_doReturn 12 = .ok (.invokevirtual 257, 3) := by decide +kernel
theorem dX11_doReturn_15 : decode cX11_doReturn 15 = .ok (.ireturn, 1) := by decide +kernel
theorem dX11_doReturn_16 : decode cX11_doReturn 16 = .ok (.aload_n 0, 1) := by decide +kernel
theorem dX11_doReturn_17 : decode cX11_doReturn 17 = .ok (.iload_n 1, 1) := by decide +kernel
theorem dX11_doReturn_18 : decode cX11_doReturn 18 = .ok (.iconst 2, 1) := by decide +kernel
theorem dX11_doReturn_19 : decode cX11_doReturn 19 = .ok (.iconst 2, 1) := by decide +kernel
theorem dX11_doReturn_20 : decode cX11_doReturn 20 = .ok (.invokevirtual 84, 3) := by decide +kernel
theorem dX11_doReturn_23 : decode cX11_doReturn 23 = .ok (.aload_n 0, 1) := by decide +kernel
theorem dX11_doReturn_24 : decode cX11_doReturn 24 = .ok (.getfield 31, 3) := by decide +kernel
theorem dX11_doReturn_27 : decode cX11_doReturn 27 = .ok (.sipush 169, 3) := by decide +kernel
theorem dX11_doReturn_30 : decode cX11_doReturn 30 = .ok (.aload_n 0, 1) := by decide +kernel
theorem dX11_doReturn_31 : decode cX11_doReturn 31 = .ok (.getfield 31, 3) := by decide +kernel
theorem dX11_doReturn_34 : decode cX11_doReturn 34 = .ok (.bipush 7, 2) := by decide +kernel
theorem dX11_doReturn_36 : decode cX11_doReturn 36 = .ok (.iaload, 1) := by decide +kernel
theorem dX11_doReturn_37 : decode cX11_doReturn 37 = .ok (.iadd, 1) := by decide +kernel
theorem dX11_doReturn_38 : decode cX11_doReturn 38 = .ok (.iload_n 1, 1) := by decide +kernel
theorem dX11_doReturn_39 : decode cX11_doReturn 39 = .ok (.iastore, 1) := by decide +kernel
theorem dX11_doReturn_40 : decode cX11_doReturn 40 = .ok (.aload_n 0, 1) := by decide +kernel
theorem dX11_doReturn_41 : decode cX11_doReturn 41 = .ok (.getfield 31, 3) := by decide +kernel
theorem dX11_doReturn_44 : decode cX11_doReturn 44 = .ok (.bipush 7, 2) := by decide +kernel
theorem dX11_doReturn_46 : decode cX11_doReturn 46 = .ok (.dup2, 1) := by decide +kernel
theorem dX11_doReturn_47 : decode cX11_doReturn 47 = .ok (.iaload, 1) := by decide +kernel
theorem dX11_doReturn_48 : decode cX11_doReturn 48 = .ok (.iconst 1, 1) := by decide +kernel
theorem dX11_doReturn_49 : decode cX11_doReturn 49 = .ok (.iadd, 1) := by decide +kernel
theorem dX11_doReturn_50 : decode cX11_doReturn 50 = .ok (.iastore, 1) := by decide +kernel
theorem dX11_doReturn_51 : decode cX11_doReturn 51 = .ok (.aload_n 0, 1) := by decide +kernel
theorem dX11_doReturn_52 : decode cX11_doReturn 52 = .ok (.aload_n 0, 1) := by decide +kernel
theorem dX11_doReturn_53 : decode cX11_doReturn 53 = .ok (.iload_n 1, 1) := by decide +kernel
theorem dX11_doReturn_54 : decode cX11_doReturn 54 = .ok (.iconst 3, 1) := by decide +kernel
theorem dX11_doReturn_55 : decode cX11_doReturn 55 = .ok (.invokevirtual 95, 3) := by decide +kernel
theorem dX11_doReturn_58 : decode cX11_doReturn 58 = .ok (.invokevirtual 257, 3) := by decide +kernel
theorem dX11_doReturn_61 : decode cX11_doReturn 61 = .ok (.ireturn, 1) := by decide +kernel
theorem dX11_doDays_0 : decode cX11_doDays 0 = .ok (.aload_n 0, 1) := by decide +kernel
theorem dX11_doDays_1 : decode cX11_doDays 1 = .ok (.aload_n 0, 1) := by decide +kernel
theorem dX11_doDays_2 : decode cX11_doDays 2 = .ok (.getfield 31, 3) := by decide +kernel
theorem dX11_doDays_5 : decode cX11_doDays 5 = .ok (.iconst 0, 1) := by decide +kernel
theorem dX11_doDays_6 : decode cX11_doDays 6 = .ok (.iaload, 1) := by decide +kernel
theorem dX11_doDays_7 : decode cX11_doDays 7 = .ok (.iload_n 1, 1) := by decide +kernel
theorem dX11_doDays_8 : decode cX11_doDays 8 = .ok (.iadd, 1) := by decide +kernel
theorem dX11_doDays_9 : decode cX11_doDays 9 = .ok (.sipush 999, 3) := by decide +kernel
theorem dX11_doDays_12 : decode cX11_doDays 12 = .ok (.if_icmp .le 8, 3) := by decide +kernel
theorem dX11_doDays_15 : decode cX11_doDays 15 = .ok (.bipush (-2), 2) := by decide +kernel
theorem dX11_doDays_17 : decode cX11_doDays 17 = .ok (.goto 14, 3) := by decide +kernel
theorem dX11_doDays_20 : decode cX11_doDays 20 = .ok (.aload_n 0, 1) := by decide +kernel
theorem dX11_doDays_21 : decode cX11_doDays 21 = .ok (.iload_n 1, 1) := by decide +kernel
theorem dX11_doDays_22 : decode cX11_doDays 22 = .ok (.aload_n 0, 1) := by decide +kernel
theorem dX11_doDays_23 : decode cX11_doDays 23 = .ok (.getfield 31, 3) := by decide +kernel
theorem dX11_doDays_26 : decode cX11_doDays 26 = .ok (.iconst 2, 1) := by decide +kernel
theorem dX11_doDays_27 : decode cX11_doDays 27 = .ok (.iaload, 1) := by decide +kernel
theorem dX11_doDays_28 : decode cX11_doDays 28 = .ok (.invokevirtual 251, 3) := by decide +kernel
theorem dX11_doDays_31 : decode cX11_doDays 31 = .ok (.invokevirtual 257, 3) := by decide +kernel
theorem dX11_doDays_34 : decode cX11_doDays 34 = .ok (.ireturn, 1) := by decide +kernel
theorem dX11_doMisfile_0 : decode cX11_doMisfile 0 = .ok (.aload_n 0, 1) := by decide +kernel
theorem dX11_doMisfile_1 : decode cX11_doMisfile 1 = .ok (.iload_n 1, 1) := by decide +kernel
theorem dX11_doMisfile_2 : decode cX11_doMisfile 2 = .ok (.iconst 0, 1) := by decide +kernel
theorem dX11_doMisfile_3 : decode cX11_doMisfile 3 = .ok (.invokevirtual 126, 3) := by decide +kernel
theorem dX11_doMisfile_6 : decode cX11_doMisfile 6 = .ok (.ifCond .ne 10, 3) := by decide +kernel
theorem dX11_doMisfile_9 : decode cX11_doMisfile 9 = .ok (.aload_n 0, 1) := by decide +kernel
theorem dX11_doMisfile_10 : decode cX11_doMisfile 10 = .ok (.bipush (-2), 2) := by decide +kernel
theorem dX11_doMisfile_12 : decode cX11_doMisfile 12 = .ok (.invokevirtual 257, 3) := by decide +kernel
theorem dX11_doMisfile_15 : decode cX11_doMisfile 15 = .ok (.ireturn, 1) := by decide +kernel
theorem dX11_doMisfile_16 : decode cX11_doMisfile 16 = .ok (.iload_n 2, 1) := by decide +kernel
theorem dX11_doMisfile_17 : decode cX11_doMisfile 17 = .ok (.iconst 0, 1) := by decide +kernel
theorem dX11_doMisfile_18 : decode cX11_doMisfile 18 = .ok (.aload_n 0, 1) := by decide +kernel
theorem dX11_doMisfile_19 : decode cX11_doMisfile 19 = .ok (.getfield 31, 3) := by decide +kernel
theorem dX11_doMisfile_22 : decode cX11_doMisfile 22 = .ok (.bipush 6, 2) := by decide +kernel
theorem dX11_doMisfile_24 : decode cX11_doMisfile 24 = .ok (.iaload, 1) := by decide +kernel
theorem dX11_doMisfile_25 : decode cX11_doMisfile 25 = .ok (.iconst 1, 1) := by decide +kernel
theorem dX11_doMisfile_26 : decode cX11_doMisfile 26 = .ok (.isub, 1) := by decide +kernel
theorem dX11_doMisfile_27 : decode cX11_doMisfile 27 = .ok (.invokestatic 91, 3) := by decide +kernel
theorem dX11_doMisfile_30 : decode cX11_doMisfile 30 = .ok (.ifCond .ne 10, 3) := by decide +kernel
theorem dX11_doMisfile_33 : decode cX11_doMisfile 33 = .ok (.aload_n 0, 1) := by decide +kernel
theorem dX11_doMisfile_34 : decode cX11_doMisfile 34 = .ok (.bipush (-3), 2) := by decide +kernel
theorem dX11_doMisfile_36 : decode cX11_doMisfile 36 = .ok (.invokevirtual 257, 3) := by decide +kernel
theorem dX11_doMisfile_39 : decode cX11_doMisfile 39 = .ok (.ireturn, 1) := by decide +kernel
theorem dX11_doMisfile_40 : decode cX11_doMisfile 40 = .ok (.aload_n 0, 1) := by decide +kernel
theorem dX11_doMisfile_41 : decode cX11_doMisfile 41 = .ok (.iload_n 1, 1) := by decide +kernel
theorem dX11_doMisfile_42 : decode cX11_doMisfile 42 = .ok (.invokevirtual 142, 3) := by decide +kernel
theorem dX11_doMisfile_45 : decode cX11_doMisfile 45 = .ok (.istore_n 3, 1) := by decide +kernel
theorem dX11_doMisfile_46 : decode cX11_doMisfile 46 = .ok (.aload_n 0, 1) := by decide +kernel
theorem dX11_doMisfile_47 : decode cX11_doMisfile 47 = .ok (.iload_n 1, 1) := by decide +kernel
theorem dX11_doMisfile_48 : decode cX11_doMisfile 48 = .ok (.iload_n 2, 1) := by decide +kernel
theorem dX11_doMisfile_49 : decode cX11_doMisfile 49 = .ok (.invokevirtual 88, 3) := by decide +kernel
theorem dX11_doMisfile_52 : decode cX11_doMisfile 52 = .ok (.aload_n 0, 1) := by decide +kernel
theorem dX11_doMisfile_53 : decode cX11_doMisfile 53 = .ok (.iload_n 3, 1) := by decide +kernel
theorem dX11_doMisfile_54 : decode cX11_doMisfile 54 = .ok (.invokevirtual 257, 3) := by decide +kernel
theorem dX11_doMisfile_57 : decode cX11_doMisfile 57 = .ok (.ireturn, 1) := by decide +kernel
theorem dX11_doStraighten_0 : decode cX11_doStraighten 0 = .ok (.aload_n 0, 1) := by decide +kernel
theorem dX11_doStraighten_1 : decode cX11_doStraighten 1 = .ok (.iload_n 1, 1) := by decide +kernel
theorem dX11_doStraighten_2 : decode cX11_doStraighten 2 = .ok (.iconst 0, 1) := by decide +kernel
theorem dX11_doStraighten_3 : decode cX11_doStraighten 3 = .ok (.invokevirtual 126, 3) := by decide +kernel
theorem dX11_doStraighten_6 : decode cX11_doStraighten 6 = .ok (.ifCond .ne 10, 3) := by decide +kernel
theorem dX11_doStraighten_9 : decode cX11_doStraighten 9 = .ok (.aload_n 0, 1) := by decide +kernel
theorem dX11_doStraighten_10 : decode cX11_doStraighten 10 = .ok (.bipush (-2), 2) := by decide +kernel
theorem dX11_doStraighten_12 : decode cX11_doStraighten 12 = .ok (.invokevirtual 257, 3) := by decide +kernel
theorem dX11_doStraighten_15 : decode cX11_doStraighten 15 = .ok (.ireturn, 1) := by decide +kernel
theorem dX11_doStraighten_16 : decode cX11_doStraighten 16 = .ok (.aload_n 0, 1) := by decide +kernel
theorem dX11_doStraighten_17 : decode cX11_doStraighten 17 = .ok (.iload_n 1, 1) := by decide +kernel
theorem dX11_doStraighten_18 : decode cX11_doStraighten 18 = .ok (.invokevirtual 214, 3) := by decide +kernel
theorem dX11_doStraighten_21 : decode cX11_doStraighten 21 = .ok (.istore_n 2, 1) := by decide +kernel
theorem dX11_doStraighten_22 : decode cX11_doStraighten 22 = .ok (.aload_n 0, 1) := by decide +kernel
theorem dX11_doStraighten_23 : decode cX11_doStraighten 23 = .ok (.iload_n 1, 1) := by decide +kernel
theorem dX11_doStraighten_24 : decode cX11_doStraighten 24 = .ok (.invokevirtual 142, 3) := by decide +kernel
theorem dX11_doStraighten_27 : decode cX11_doStraighten 27 = .ok (.istore_n 3, 1) := by decide +kernel
theorem dX11_doStraighten_28 : decode cX11_doStraighten 28 = .ok (.aload_n 0, 1) := by decide +kernel
theorem dX11_doStraighten_29 : decode cX11_doStraighten 29 = .ok (.iload_n 1, 1) := by decide +kernel
theorem dX11_doStraighten_30 : decode cX11_doStraighten 30 = .ok (.iload_n 2, 1) := by decide +kernel
theorem dX11_doStraighten_31 : decode cX11_doStraighten 31 = .ok (.invokevirtual 88, 3) := by decide +kernel
theorem dX11_doStraighten_34 : decode cX11_doStraighten 34 = .ok (.aload_n 0, 1) := by decide +kernel
theorem dX11_doStraighten_35 : decode cX11_doStraighten 35 = .ok (.iload_n 2, 1) := by decide +kernel
theorem dX11_doStraighten_36 : decode cX11_doStraighten 36 = .ok (.invokevirtual 257, 3) := by decide +kernel
theorem dX11_doStraighten_39 : decode cX11_doStraighten 39 = .ok (.ireturn, 1) := by decide +kernel
theorem dX11_doCheck_0 : decode cX11_doCheck 0 = .ok (.aload_n 0, 1) := by decide +kernel
theorem dX11_doCheck_1 : decode cX11_doCheck 1 = .ok (.iload_n 1, 1) := by decide +kernel
theorem dX11_doCheck_2 : decode cX11_doCheck 2 = .ok (.invokevirtual 254, 3) := by decide +kernel
theorem dX11_doCheck_5 : decode cX11_doCheck 5 = .ok (.istore_n 2, 1) := by decide +kernel
theorem dX11_doCheck_6 : decode cX11_doCheck 6 = .ok (.aload_n 0, 1) := by decide +kernel
theorem dX11_doCheck_7 : decode cX11_doCheck 7 = .ok (.bipush 9, 2) := by decide +kernel
theorem dX11_doCheck_9 : decode cX11_doCheck 9 = .ok (.iload_n 2, 1) := by decide +kernel
theorem dX11_doCheck_10 : decode cX11_doCheck 10 = .ok (.invokevirtual 139, 3) := by decide +kernel
theorem dX11_doCheck_13 : decode cX11_doCheck 13 = .ok (.aload_n 0, 1) := by decide +kernel
theorem dX11_doCheck_14 : decode cX11_doCheck 14 = .ok (.iload_n 2, 1) := by decide +kernel
theorem dX11_doCheck_15 : decode cX11_doCheck 15 = .ok (.invokevirtual 257, 3) := by decide +kernel
theorem dX11_doCheck_18 : decode cX11_doCheck 18 = .ok (.ireturn, 1) := by decide +kernel
theorem dX11_doEmbargo_0 : decode cX11_doEmbargo 0 = .ok (.aload_n 0, 1) := by decide +kernel
theorem dX11_doEmbargo_1 : decode cX11_doEmbargo 1 = .ok (.iload_n 1, 1) := by decide +kernel
theorem dX11_doEmbargo_2 : decode cX11_doEmbargo 2 = .ok (.iconst 1, 1) := by decide +kernel
theorem dX11_doEmbargo_3 : decode cX11_doEmbargo 3 = .ok (.invokevirtual 95, 3) := by decide +kernel
theorem dX11_doEmbargo_6 : decode cX11_doEmbargo 6 = .ok (.istore_n 3, 1) := by decide +kernel
theorem dX11_doEmbargo_7 : decode cX11_doEmbargo 7 = .ok (.aload_n 0, 1) := by decide +kernel
theorem dX11_doEmbargo_8 : decode cX11_doEmbargo 8 = .ok (.iload_n 1, 1) := by decide +kernel
theorem dX11_doEmbargo_9 : decode cX11_doEmbargo 9 = .ok (.iconst 1, 1) := by decide +kernel
theorem dX11_doEmbargo_10 : decode cX11_doEmbargo 10 = .ok (.iload_n 2, 1) := by decide +kernel
theorem dX11_doEmbargo_11 : decode cX11_doEmbargo 11 = .ok (.invokevirtual 84, 3) := by decide +kernel
theorem dX11_doEmbargo_14 : decode cX11_doEmbargo 14 = .ok (.aload_n 0, 1) := by decide +kernel
theorem dX11_doEmbargo_15 : decode cX11_doEmbargo 15 = .ok (.iload_n 3, 1) := by decide +kernel
theorem dX11_doEmbargo_16 : decode cX11_doEmbargo 16 = .ok (.invokevirtual 257, 3) := by decide +kernel
theorem dX11_doEmbargo_19 : decode cX11_doEmbargo 19 = .ok (.ireturn, 1) := by decide +kernel
theorem dX11_keep_0 : decode cX11_keep 0 = .ok (.aload_n 0, 1) := by decide +kernel
theorem dX11_keep_1 : decode cX11_keep 1 = .ok (.getfield 9, 3) := by decide +kernel
theorem dX11_keep_4 : decode cX11_keep 4 = .ok (.iconst 0, 1) := by decide +kernel
theorem dX11_keep_5 : decode cX11_keep 5 = .ok (.aload_n 0, 1) := by decide +kernel
theorem dX11_keep_6 : decode cX11_keep 6 = .ok (.getfield 19, 3) := by decide +kernel
theorem dX11_keep_9 : decode cX11_keep 9 = .ok (.iconst 0, 1) := by decide +kernel
theorem dX11_keep_10 : decode cX11_keep 10 = .ok (.invokestatic 238, 3) := by decide +kernel
theorem dX11_keep_13 : decode cX11_keep 13 = .ok (.return_, 1) := by decide +kernel
theorem dX11_record_0 : decode cX11_record 0 = .ok (.aload_n 0, 1) := by decide +kernel
theorem dX11_record_1 : decode cX11_record 1 = .ok (.getfield 263, 3) := by decide +kernel
theorem dX11_record_4 : decode cX11_record 4 = .ok (.bipush 8, 2) := by decide +kernel
theorem dX11_record_6 : decode cX11_record 6 = .ok (.if_icmp .ne 42, 3) := by decide +kernel
theorem dX11_record_9 : decode cX11_record 9 = .ok (.iconst 1, 1) := by decide +kernel
theorem dX11_record_10 : decode cX11_record 10 = .ok (.istore_n 1, 1) := by decide +kernel
theorem dX11_record_11 : decode cX11_record 11 = .ok (.iload_n 1, 1) := by decide +kernel
theorem dX11_record_12 : decode cX11_record 12 = .ok (.bipush 8, 2) := by decide +kernel
theorem dX11_record_14 : decode cX11_record 14 = .ok (.if_icmp .ge 24, 3) := by decide +kernel
theorem dX11_record_17 : decode cX11_record 17 = .ok (.aload_n 0, 1) := by decide +kernel
theorem dX11_record_18 : decode cX11_record 18 = .ok (.getfield 25, 3) := by decide +kernel
theorem dX11_record_21 : decode cX11_record 21 = .ok (.iload_n 1, 1) := by decide +kernel
theorem dX11_record_22 : decode cX11_record 22 = .ok (.aload_n 0, 1) := by decide +kernel
theorem dX11_record_23 : decode cX11_record 23 = .ok (.getfield 25, 3) := by decide +kernel
theorem dX11_record_26 : decode cX11_record 26 = .ok (.iload_n 1, 1) := by decide +kernel
theorem dX11_record_27 : decode cX11_record 27 = .ok (.iconst 1, 1) := by decide +kernel
theorem dX11_record_28 : decode cX11_record 28 = .ok (.isub, 1) := by decide +kernel
theorem dX11_record_29 : decode cX11_record 29 = .ok (.invokestatic 238, 3) := by decide +kernel
theorem dX11_record_32 : decode cX11_record 32 = .ok (.iinc 1 1, 3) := by decide +kernel
theorem dX11_record_35 : decode cX11_record 35 = .ok (.goto (-24), 3) := by decide +kernel
theorem dX11_record_38 : decode cX11_record 38 = .ok (.aload_n 0, 1) := by decide +kernel
theorem dX11_record_39 : decode cX11_record 39 = .ok (.dup, 1) := by decide +kernel
theorem dX11_record_40 : decode cX11_record 40 = .ok (.getfield 263, 3) := by decide +kernel
theorem dX11_record_43 : decode cX11_record 43 = .ok (.iconst 1, 1) := by decide +kernel
theorem dX11_record_44 : decode cX11_record 44 = .ok (.isub, 1) := by decide +kernel
theorem dX11_record_45 : decode cX11_record 45 = .ok (.putfield 263, 3) := by decide +kernel
theorem dX11_record_48 : decode cX11_record 48 = .ok (.aload_n 0, 1) := by decide +kernel
theorem dX11_record_49 : decode cX11_record 49 = .ok (.getfield 19, 3) := by decide +kernel
theorem dX11_record_52 : decode cX11_record 52 = .ok (.iconst 0, 1) := by decide +kernel
theorem dX11_record_53 : decode cX11_record 53 = .ok (.aload_n 0, 1) := by decide +kernel
theorem dX11_record_54 : decode cX11_record 54 = .ok (.getfield 25, 3) := by decide +kernel
theorem dX11_record_57 : decode cX11_record 57 = .ok (.aload_n 0, 1) := by decide +kernel
theorem dX11_record_58 : decode cX11_record 58 = .ok (.getfield 263, 3) := by decide +kernel
theorem dX11_record_61 : decode cX11_record 61 = .ok (.invokestatic 238, 3) := by decide +kernel
theorem dX11_record_64 : decode cX11_record 64 = .ok (.aload_n 0, 1) := by decide +kernel
theorem dX11_record_65 : decode cX11_record 65 = .ok (.dup, 1) := by decide +kernel
theorem dX11_record_66 : decode cX11_record 66 = .ok (.getfield 263, 3) := by decide +kernel
theorem dX11_record_69 : decode cX11_record 69 = .ok (.iconst 1, 1) := by decide +kernel
theorem dX11_record_70 : decode cX11_record 70 = .ok (.iadd, 1) := by decide +kernel
theorem dX11_record_71 : decode cX11_record 71 = .ok (.putfield 263, 3) := by decide +kernel
theorem dX11_record_74 : decode cX11_record 74 = .ok (.return_, 1) := by decide +kernel
theorem dX11_recorded_0 : decode cX11_recorded 0 = .ok (.iload_n 1, 1) := by decide +kernel
theorem dX11_recorded_1 : decode cX11_recorded 1 = .ok (.ifCond .lt 7, 3) := by decide +kernel
theorem dX11_recorded_4 : decode cX11_recorded 4 = .ok (.aload_n 0, 1) := by decide +kernel
theorem dX11_recorded_5 : decode cX11_recorded 5 = .ok (.invokevirtual 266, 3) := by decide +kernel
theorem dX11_recorded_8 : decode cX11_recorded 8 = .ok (.iload_n 1, 1) := by decide +kernel
theorem dX11_recorded_9 : decode cX11_recorded 9 = .ok (.ireturn, 1) := by decide +kernel
theorem dX11_slip_0 : decode cX11_slip 0 = .ok (.aload_n 0, 1) := by decide +kernel
theorem dX11_slip_1 : decode cX11_slip 1 = .ok (.aload_n 0, 1) := by decide +kernel
theorem dX11_slip_2 : decode cX11_slip 2 = .ok (.iload_n 1, 1) := by decide +kernel
theorem dX11_slip_3 : decode cX11_slip 3 = .ok (.iload_n 2, 1) := by decide +kernel
theorem dX11_slip_4 : decode cX11_slip 4 = .ok (.invokevirtual 226, 3) := by decide +kernel
theorem dX11_slip_7 : decode cX11_slip 7 = .ok (.invokevirtual 170, 3) := by decide +kernel
theorem dX11_slip_10 : decode cX11_slip 10 = .ok (.ifCond .eq 5, 3) := by decide +kernel
theorem dX11_slip_13 : decode cX11_slip 13 = .ok (.iconst 0, 1) := by decide +kernel
theorem dX11_slip_14 : decode cX11_slip 14 = .ok (.ireturn, 1) := by decide +kernel
theorem dX11_slip_15 : decode cX11_slip 15 = .ok (.aload_n 0, 1) := by decide +kernel
theorem dX11_slip_16 : decode cX11_slip 16 = .ok (.invokevirtual 269, 3) := by decide +kernel
theorem dX11_slip_19 : decode cX11_slip 19 = .ok (.aload_n 0, 1) := by decide +kernel
theorem dX11_slip_20 : decode cX11_slip 20 = .ok (.aload_n 0, 1) := by decide +kernel
theorem dX11_slip_21 : decode cX11_slip 21 = .ok (.iload_n 1, 1) := by decide +kernel
theorem dX11_slip_22 : decode cX11_slip 22 = .ok (.iload_n 2, 1) := by decide +kernel
theorem dX11_slip_23 : decode cX11_slip 23 = .ok (.invokevirtual 272, 3) := by decide +kernel
theorem dX11_slip_26 : decode cX11_slip 26 = .ok (.invokevirtual 275, 3) := by decide +kernel
theorem dX11_slip_29 : decode cX11_slip 29 = .ok (.ireturn, 1) := by decide +kernel
theorem dX11_dropSlip_0 : decode cX11_dropSlip 0 = .ok (.aload_n 0, 1) := by decide +kernel
theorem dX11_dropSlip_1 : decode cX11_dropSlip 1 = .ok (.iconst 0, 1) := by decide +kernel
theorem dX11_dropSlip_2 : decode cX11_dropSlip 2 = .ok (.putfield 81, 3) := by decide +kernel
theorem dX11_dropSlip_5 : decode cX11_dropSlip 5 = .ok (.aload_n 0, 1) := by decide +kernel
theorem dX11_dropSlip_6 : decode cX11_dropSlip 6 = .ok (.invokevirtual 269, 3) := by decide +kernel
theorem dX11_dropSlip_9 : decode cX11_dropSlip 9 = .ok (.aload_n 0, 1) := by decide +kernel
theorem dX11_dropSlip_10 : decode cX11_dropSlip 10 = .ok (.aload_n 0, 1) := by decide +kernel
theorem dX11_dropSlip_11 : decode cX11_dropSlip 11 = .ok (.iload_n 1, 1) := by decide +kernel
theorem dX11_dropSlip_12 : decode cX11_dropSlip 12 = .ok (.invokevirtual 278, 3) := by decide +kernel
theorem dX11_dropSlip_15 : decode cX11_dropSlip 15 = .ok (.invokevirtual 275, 3) := by decide +kernel
theorem dX11_dropSlip_18 : decode cX11_dropSlip 18 = .ok (.ireturn, 1) := by decide +kernel
theorem dX11_giveBack_0 : decode cX11_giveBack 0 = .ok (.aload_n 0, 1) := by decide +kernel
theorem dX11_giveBack_1 : decode cX11_giveBack 1 = .ok (.aload_n 0, 1) := by decide +kernel
theorem dX11_giveBack_2 : decode cX11_giveBack 2 = .ok (.iload_n 1, 1) := by decide +kernel
theorem dX11_giveBack_3 : decode cX11_giveBack 3 = .ok (.invokevirtual 186, 3) := by decide +kernel
theorem dX11_giveBack_6 : decode cX11_giveBack 6 = .ok (.invokevirtual 170, 3) := by decide +kernel
theorem dX11_giveBack_9 : decode cX11_giveBack 9 = .ok (.ifCond .eq 5, 3) := by decide +kernel
theorem dX11_giveBack_12 : decode cX11_giveBack 12 = .ok (.iconst 0, 1) := by decide +kernel
theorem dX11_giveBack_13 : decode cX11_giveBack 13 = .ok (.ireturn, 1) := by decide +kernel
theorem dX11_giveBack_14 : decode cX11_giveBack 14 = .ok (.aload_n 0, 1) := by decide +kernel
theorem dX11_giveBack_15 : decode cX11_giveBack 15 = .ok (.invokevirtual 269, 3) := by decide +kernel
theorem dX11_giveBack_18 : decode cX11_giveBack 18 = .ok (.aload_n 0, 1) := by decide +kernel
theorem dX11_giveBack_19 : decode cX11_giveBack 19 = .ok (.aload_n 0, 1) := by decide +kernel
theorem dX11_giveBack_20 : decode cX11_giveBack 20 = .ok (.iload_n 1, 1) := by decide +kernel
theorem dX11_giveBack_21 : decode cX11_giveBack 21 = .ok (.invokevirtual 281, 3) := by decide +kernel
theorem dX11_giveBack_24 : decode cX11_giveBack 24 = .ok (.invokevirtual 275, 3) := by decide +kernel
theorem dX11_giveBack_27 : decode cX11_giveBack 27 = .ok (.ireturn, 1) := by decide +kernel
theorem dX11_days_0 : decode cX11_days 0 = .ok (.aload_n 0, 1) := by decide +kernel
theorem dX11_days_1 : decode cX11_days 1 = .ok (.iload_n 1, 1) := by decide +kernel
theorem dX11_days_2 : decode cX11_days 2 = .ok (.iconst 1, 1) := by decide +kernel
theorem dX11_days_3 : decode cX11_days 3 = .ok (.bipush 60, 2) := by decide +kernel
theorem dX11_days_5 : decode cX11_days 5 = .ok (.invokestatic 91, 3) := by decide +kernel
theorem dX11_days_8 : decode cX11_days 8 = .ok (.invokevirtual 170, 3) := by decide +kernel
theorem dX11_days_11 : decode cX11_days 11 = .ok (.ifCond .eq 5, 3) := by decide +kernel
theorem dX11_days_14 : decode cX11_days 14 = .ok (.iconst 0, 1) := by decide +kernel
theorem dX11_days_15 : decode cX11_days 15 = .ok (.ireturn, 1) := by decide +kernel
theorem dX11_days_16 : decode cX11_days 16 = .ok (.aload_n 0, 1) := by decide +kernel
theorem dX11_days_17 : decode cX11_days 17 = .ok (.invokevirtual 269, 3) := by decide +kernel
theorem dX11_days_20 : decode cX11_days 20 = .ok (.aload_n 0, 1) := by decide +kernel
theorem dX11_days_21 : decode cX11_days 21 = .ok (.aload_n 0, 1) := by decide +kernel
theorem dX11_days_22 : decode cX11_days 22 = .ok (.iload_n 1, 1) := by decide +kernel
theorem dX11_days_23 : decode cX11_days 23 = .ok (.invokevirtual 284, 3) := by decide +kernel
theorem dX11_days_26 : decode cX11_days 26 = .ok (.invokevirtual 275, 3) := by decide +kernel
theorem dX11_days_29 : decode cX11_days 29 = .ok (.ireturn, 1) := by decide +kernel
theorem dX11_misfile_0 : decode cX11_misfile 0 = .ok (.aload_n 0, 1) := by decide +kernel
theorem dX11_misfile_1 : decode cX11_misfile 1 = .ok (.aload_n 0, 1) := by decide +kernel
theorem dX11_misfile_2 : decode cX11_misfile 2 = .ok (.iload_n 1, 1) := by decide +kernel
theorem dX11_misfile_3 : decode cX11_misfile 3 = .ok (.invokevirtual 186, 3) := by decide +kernel
theorem dX11_misfile_6 : decode cX11_misfile 6 = .ok (.invokevirtual 170, 3) := by decide +kernel
theorem dX11_misfile_9 : decode cX11_misfile 9 = .ok (.ifCond .eq 5, 3) := by decide +kernel
theorem dX11_misfile_12 : decode cX11_misfile 12 = .ok (.iconst 0, 1) := by decide +kernel
theorem dX11_misfile_13 : decode cX11_misfile 13 = .ok (.ireturn, 1) := by decide +kernel
theorem dX11_misfile_14 : decode cX11_misfile 14 = .ok (.aload_n 0, 1) := by decide +kernel
theorem dX11_misfile_15 : decode cX11_misfile 15 = .ok (.invokevirtual 269, 3) := by decide +kernel
theorem dX11_misfile_18 : decode cX11_misfile 18 = .ok (.aload_n 0, 1) := by decide +kernel
theorem dX11_misfile_19 : decode cX11_misfile 19 = .ok (.aload_n 0, 1) := by decide +kernel
theorem dX11_misfile_20 : decode cX11_misfile 20 = .ok (.iload_n 1, 1) := by decide +kernel
theorem dX11_misfile_21 : decode cX11_misfile 21 = .ok (.iload_n 2, 1) := by decide +kernel
theorem dX11_misfile_22 : decode cX11_misfile 22 = .ok (.invokevirtual 287, 3) := by decide +kernel
theorem dX11_misfile_25 : decode cX11_misfile 25 = .ok (.invokevirtual 275, 3) := by decide +kernel
theorem dX11_misfile_28 : decode cX11_misfile 28 = .ok (.ireturn, 1) := by decide +kernel
theorem dX11_straighten_0 : decode cX11_straighten 0 = .ok (.aload_n 0, 1) := by decide +kernel
theorem dX11_straighten_1 : decode cX11_straighten 1 = .ok (.aload_n 0, 1) := by decide +kernel
theorem dX11_straighten_2 : decode cX11_straighten 2 = .ok (.iload_n 1, 1) := by decide +kernel
theorem dX11_straighten_3 : decode cX11_straighten 3 = .ok (.invokevirtual 186, 3) := by decide +kernel
theorem dX11_straighten_6 : decode cX11_straighten 6 = .ok (.invokevirtual 170, 3) := by decide +kernel
theorem dX11_straighten_9 : decode cX11_straighten 9 = .ok (.ifCond .eq 5, 3) := by decide +kernel
theorem dX11_straighten_12 : decode cX11_straighten 12 = .ok (.iconst 0, 1) := by decide +kernel
theorem dX11_straighten_13 : decode cX11_straighten 13 = .ok (.ireturn, 1) := by decide +kernel
theorem dX11_straighten_14 : decode cX11_straighten 14 = .ok (.aload_n 0, 1) := by decide +kernel
theorem dX11_straighten_15 : decode cX11_straighten 15 = .ok (.invokevirtual 269, 3) := by decide +kernel
theorem dX11_straighten_18 : decode cX11_straighten 18 = .ok (.aload_n 0, 1) := by decide +kernel
theorem dX11_straighten_19 : decode cX11_straighten 19 = .ok (.aload_n 0, 1) := by decide +kernel
theorem dX11_straighten_20 : decode cX11_straighten 20 = .ok (.iload_n 1, 1) := by decide +kernel
theorem dX11_straighten_21 : decode cX11_straighten 21 = .ok (.invokevirtual 290, 3) := by decide +kernel
theorem dX11_straighten_24 : decode cX11_straighten 24 = .ok (.invokevirtual 275, 3) := by decide +kernel
theorem dX11_straighten_27 : decode cX11_straighten 27 = .ok (.ireturn, 1) := by decide +kernel
theorem dX11_check_0 : decode cX11_check 0 = .ok (.aload_n 0, 1) := by decide +kernel
theorem dX11_check_1 : decode cX11_check 1 = .ok (.iload_n 1, 1) := by decide +kernel
theorem dX11_check_2 : decode cX11_check 2 = .ok (.iconst 1, 1) := by decide +kernel
theorem dX11_check_3 : decode cX11_check 3 = .ok (.bipush 99, 2) := by decide +kernel
theorem dX11_check_5 : decode cX11_check 5 = .ok (.invokestatic 91, 3) := by decide +kernel
theorem dX11_check_8 : decode cX11_check 8 = .ok (.invokevirtual 170, 3) := by decide +kernel
theorem dX11_check_11 : decode cX11_check 11 = .ok (.ifCond .eq 5, 3) := by decide +kernel
theorem dX11_check_14 : decode cX11_check 14 = .ok (.iconst 0, 1) := by decide +kernel
theorem dX11_check_15 : decode cX11_check 15 = .ok (.ireturn, 1) := by decide +kernel
theorem dX11_check_16 : decode cX11_check 16 = .ok (.aload_n 0, 1) := by decide +kernel
theorem dX11_check_17 : decode cX11_check 17 = .ok (.invokevirtual 269, 3) := by decide +kernel
theorem dX11_check_20 : decode cX11_check 20 = .ok (.aload_n 0, 1) := by decide +kernel
theorem dX11_check_21 : decode cX11_check 21 = .ok (.aload_n 0, 1) := by decide +kernel
theorem dX11_check_22 : decode cX11_check 22 = .ok (.iload_n 1, 1) := by decide +kernel
theorem dX11_check_23 : decode cX11_check 23 = .ok (.invokevirtual 293, 3) := by decide +kernel
theorem dX11_check_26 : decode cX11_check 26 = .ok (.invokevirtual 275, 3) := by decide +kernel
theorem dX11_check_29 : decode cX11_check 29 = .ok (.ireturn, 1) := by decide +kernel
theorem dX11_setEmbargo_0 : decode cX11_setEmbargo 0 = .ok (.aload_n 0, 1) := by decide +kernel
theorem dX11_setEmbargo_1 : decode cX11_setEmbargo 1 = .ok (.aload_n 0, 1) := by decide +kernel
theorem dX11_setEmbargo_2 : decode cX11_setEmbargo 2 = .ok (.iload_n 1, 1) := by decide +kernel
theorem dX11_setEmbargo_3 : decode cX11_setEmbargo 3 = .ok (.invokevirtual 186, 3) := by decide +kernel
theorem dX11_setEmbargo_6 : decode cX11_setEmbargo 6 = .ok (.invokevirtual 170, 3) := by decide +kernel
theorem dX11_setEmbargo_9 : decode cX11_setEmbargo 9 = .ok (.ifCond .eq 5, 3) := by decide +kernel
theorem dX11_setEmbargo_12 : decode cX11_setEmbargo 12 = .ok (.iconst 0, 1) := by decide +kernel
theorem dX11_setEmbargo_13 : decode cX11_setEmbargo 13 = .ok (.ireturn, 1) := by decide +kernel
theorem dX11_setEmbargo_14 : decode cX11_setEmbargo 14 = .ok (.iload_n 2, 1) := by decide +kernel
theorem dX11_setEmbargo_15 : decode cX11_setEmbargo 15 = .ok (.iconst 0, 1) := by decide +kernel
theorem dX11_setEmbargo_16 : decode cX11_setEmbargo 16 = .ok (.sipush 999, 3) := by decide +kernel
theorem dX11_setEmbargo_19 : decode cX11_setEmbargo 19 = .ok (.invokestatic 91, 3) := by decide +kernel
theorem dX11_setEmbargo_22 : decode cX11_setEmbargo 22 = .ok (.ifCond .ne 9, 3) := by decide +kernel
theorem dX11_setEmbargo_25 : decode cX11_setEmbargo 25 = .ok (.aload_n 0, 1) := by decide +kernel
theorem dX11_setEmbargo_26 : decode cX11_setEmbargo 26 = .ok (.iconst 2, 1) := by decide +kernel
theorem dX11_setEmbargo_27 : decode cX11_setEmbargo 27 = .ok (.invokevirtual 195, 3) := by decide +kernel
theorem dX11_setEmbargo_30 : decode cX11_setEmbargo 30 = .ok (.ireturn, 1) := by decide +kernel
theorem dX11_setEmbargo_31 : decode cX11_setEmbargo 31 = .ok (.aload_n 0, 1) := by decide +kernel
theorem dX11_setEmbargo_32 : decode cX11_setEmbargo 32 = .ok (.invokevirtual 269, 3) := by decide +kernel
theorem dX11_setEmbargo_35 : decode cX11_setEmbargo 35 = .ok (.aload_n 0, 1) := by decide +kernel
theorem dX11_setEmbargo_36 : decode cX11_setEmbargo 36 = .ok (.aload_n 0, 1) := by decide +kernel
theorem dX11_setEmbargo_37 : decode cX11_setEmbargo 37 = .ok (.iload_n 1, 1) := by decide +kernel
theorem dX11_setEmbargo_38 : decode cX11_setEmbargo 38 = .ok (.iload_n 2, 1) := by decide +kernel
theorem dX11_setEmbargo_39 : decode cX11_setEmbargo 39 = .ok (.invokevirtual 296, 3) := by decide +kernel
theorem dX11_setEmbargo_42 : decode cX11_setEmbargo 42 = .ok (.invokevirtual 275, 3) := by decide +kernel
theorem dX11_setEmbargo_45 : decode cX11_setEmbargo 45 = .ok (.ireturn, 1) := by decide +kernel
theorem dX11_write_0 : decode cX11_write 0 = .ok (.aload_n 0, 1) := by decide +kernel
theorem dX11_write_1 : decode cX11_write 1 = .ok (.getfield 40, 3) := by decide +kernel
theorem dX11_write_4 : decode cX11_write 4 = .ok (.aload_n 0, 1) := by decide +kernel
theorem dX11_write_5 : decode cX11_write 5 = .ok (.getfield 299, 3) := by decide +kernel
theorem dX11_write_8 : decode cX11_write 8 = .ok (.iload_n 1, 1) := by decide +kernel
theorem dX11_write_9 : decode cX11_write 9 = .ok (.iastore, 1) := by decide +kernel
theorem dX11_write_10 : decode cX11_write 10 = .ok (.aload_n 0, 1) := by decide +kernel
theorem dX11_write_11 : decode cX11_write 11 = .ok (.dup, 1) := by decide +kernel
theorem dX11_write_12 : decode cX11_write 12 = .ok (.getfield 299, 3) := by decide +kernel
theorem dX11_write_15 : decode cX11_write 15 = .ok (.iconst 1, 1) := by decide +kernel
theorem dX11_write_16 : decode cX11_write 16 = .ok (.iadd, 1) := by decide +kernel
theorem dX11_write_17 : decode cX11_write 17 = .ok (.putfield 299, 3) := by decide +kernel
theorem dX11_write_20 : decode cX11_write 20 = .ok (.return_, 1) := by decide +kernel
theorem dX11_writeNumber_0 : decode cX11_writeNumber 0 = .ok (.iconst 1, 1) := by decide +kernel
theorem dX11_writeNumber_1 : decode cX11_writeNumber 1 = .ok (.istore_n 2, 1) := by decide +kernel
theorem dX11_writeNumber_2 : decode cX11_writeNumber 2 = .ok (.iload_n 1, 1) := by decide +kernel
theorem dX11_writeNumber_3 : decode cX11_writeNumber 3 = .ok (.iload_n 2, 1) := by decide +kernel
theorem dX11_writeNumber_4 : decode cX11_writeNumber 4 = .ok (.idiv, 1) := by decide +kernel
theorem dX11_writeNumber_5 : decode cX11_writeNumber 5 = .ok (.bipush 9, 2) := by decide +kernel
theorem dX11_writeNumber_7 : decode cX11_writeNumber 7 = .ok (.if_icmp .le 11, 3) := by decide +kernel
theorem dX11_writeNumber_10 : decode cX11_writeNumber 10 = .ok (.iload_n 2, 1) := by decide +kernel
theorem dX11_writeNumber_11 : decode cX11_writeNumber 11 = .ok (.bipush 10, 2) := by decide +kernel
theorem dX11_writeNumber_13 : decode cX11_writeNumber 13 = .ok (.imul, 1) := by decide +kernel
theorem dX11_writeNumber_14 : decode cX11_writeNumber 14 = .ok (.istore_n 2, 1) := by decide +kernel
theorem dX11_writeNumber_15 : decode cX11_writeNumber 15 = .ok (.goto (-13), 3) := by decide +kernel
theorem dX11_writeNumber_18 : decode cX11_writeNumber 18 = .ok (.iload_n 2, 1) := by decide +kernel
theorem dX11_writeNumber_19 : decode cX11_writeNumber 19 = .ok (.istore_n 3, 1) := by decide +kernel
theorem dX11_writeNumber_20 : decode cX11_writeNumber 20 = .ok (.iload_n 3, 1) := by decide +kernel
theorem dX11_writeNumber_21 : decode cX11_writeNumber 21 = .ok (.ifCond .le 24, 3) := by decide +kernel
theorem dX11_writeNumber_24 : decode cX11_writeNumber 24 = .ok (.aload_n 0, 1) := by decide +kernel
theorem dX11_writeNumber_25 : decode cX11_writeNumber 25 = .ok (.bipush 48, 2) := by decide +kernel
theorem dX11_writeNumber_27 : decode cX11_writeNumber 27 = .ok (.iload_n 1, 1) := by decide +kernel
theorem dX11_writeNumber_28 : decode cX11_writeNumber 28 = .ok (.iload_n 3, 1) := by decide +kernel
theorem dX11_writeNumber_29 : decode cX11_writeNumber 29 = .ok (.idiv, 1) := by decide +kernel
theorem dX11_writeNumber_30 : decode cX11_writeNumber 30 = .ok (.bipush 10, 2) := by decide +kernel
theorem dX11_writeNumber_32 : decode cX11_writeNumber 32 = .ok (.irem, 1) := by decide +kernel
theorem dX11_writeNumber_33 : decode cX11_writeNumber 33 = .ok (.iadd, 1) := by decide +kernel
theorem dX11_writeNumber_34 : decode cX11_writeNumber 34 = .ok (.invokevirtual 302, 3) := by decide +kernel
theorem dX11_writeNumber_37 : decode cX11_writeNumber 37 = .ok (.iload_n 3, 1) := by decide +kernel
theorem dX11_writeNumber_38 : decode cX11_writeNumber 38 = .ok (.bipush 10, 2) := by decide +kernel
theorem dX11_writeNumber_40 : decode cX11_writeNumber 40 = .ok (.idiv, 1) := by decide +kernel
theorem dX11_writeNumber_41 : decode cX11_writeNumber 41 = .ok (.istore_n 3, 1) := by decide +kernel
theorem dX11_writeNumber_42 : decode cX11_writeNumber 42 = .ok (.goto (-22), 3) := by decide +kernel
theorem dX11_writeNumber_45 : decode cX11_writeNumber 45 = .ok (.return_, 1) := by decide +kernel
theorem dX11_format_0 : decode cX11_format 0 = .ok (.aload_n 0, 1) := by decide +kernel
theorem dX11_format_1 : decode cX11_format 1 = .ok (.iconst 0, 1) := by decide +kernel
theorem dX11_format_2 : decode cX11_format 2 = .ok (.putfield 81, 3) := by decide +kernel
theorem dX11_format_5 : decode cX11_format 5 = .ok (.aload_n 0, 1) := by decide +kernel
theorem dX11_format_6 : decode cX11_format 6 = .ok (.iconst 0, 1) := by decide +kernel
theorem dX11_format_7 : decode cX11_format 7 = .ok (.putfield 299, 3) := by decide +kernel
theorem dX11_format_10 : decode cX11_format 10 = .ok (.iconst 0, 1) := by decide +kernel
theorem dX11_format_11 : decode cX11_format 11 = .ok (.istore_n 1, 1) := by decide +kernel
theorem dX11_format_12 : decode cX11_format 12 = .ok (.iload_n 1, 1) := by decide +kernel
theorem dX11_format_13 : decode cX11_format 13 = .ok (.aload_n 0, 1) := by decide +kernel
theorem dX11_format_14 : decode cX11_format 14 = .ok (.getfield 31, 3) := by decide +kernel
theorem dX11_format_17 : decode cX11_format 17 = .ok (.bipush 6, 2) := by decide +kernel
theorem dX11_format_19 : decode cX11_format 19 = .ok (.iaload, 1) := by decide +kernel
theorem dX11_format_20 : decode cX11_format 20 = .ok (.if_icmp .ge 43, 3) := by decide +kernel
theorem dX11_format_23 : decode cX11_format 23 = .ok (.iload_n 1, 1) := by decide +kernel
theorem dX11_format_24 : decode cX11_format 24 = .ok (.ifCond .le 24, 3) := by decide +kernel
theorem dX11_format_27 : decode cX11_format 27 = .ok (.aload_n 0, 1) := by decide +kernel
theorem dX11_format_28 : decode cX11_format 28 = .ok (.aload_n 0, 1) := by decide +kernel
theorem dX11_format_29 : decode cX11_format 29 = .ok (.iload_n 1, 1) := by decide +kernel
theorem dX11_format_30 : decode cX11_format 30 = .ok (.iconst 1, 1) := by decide +kernel
theorem dX11_format_31 : decode cX11_format 31 = .ok (.isub, 1) := by decide +kernel
theorem dX11_format_32 : decode cX11_format 32 = .ok (.invokevirtual 109, 3) := by decide +kernel
theorem dX11_format_35 : decode cX11_format 35 = .ok (.ifCond .eq 8, 3) := by decide +kernel
theorem dX11_format_38 : decode cX11_format 38 = .ok (.bipush 33, 2) := by decide +kernel
theorem dX11_format_40 : decode cX11_format 40 = .ok (.goto 5, 3) := by decide +kernel
theorem dX11_format_43 : decode cX11_format 43 = .ok (.bipush 32, 2) := by decide +kernel
theorem dX11_format_45 : decode cX11_format 45 = .ok (.invokevirtual 302, 3) := by decide +kernel
theorem dX11_format_48 : decode cX11_format 48 = .ok (.aload_n 0, 1) := by decide +kernel
theorem dX11_format_49 : decode cX11_format 49 = .ok (.aload_n 0, 1) := by decide +kernel
theorem dX11_format_50 : decode cX11_format 50 = .ok (.iload_n 1, 1) := by decide +kernel
theorem dX11_format_51 : decode cX11_format 51 = .ok (.invokevirtual 106, 3) := by decide +kernel
theorem dX11_format_54 : decode cX11_format 54 = .ok (.invokevirtual 305, 3) := by decide +kernel
theorem dX11_format_57 : decode cX11_format 57 = .ok (.iinc 1 1, 3) := by decide +kernel
theorem dX11_format_60 : decode cX11_format 60 = .ok (.goto (-48), 3) := by decide +kernel
theorem dX11_format_63 : decode cX11_format 63 = .ok (.aload_n 0, 1) := by decide +kernel
theorem dX11_format_64 : decode cX11_format 64 = .ok (.bipush 124, 2) := by decide +kernel
theorem dX11_format_66 : decode cX11_format 66 = .ok (.invokevirtual 302, 3) := by decide +kernel
theorem dX11_format_69 : decode cX11_format 69 = .ok (.iconst 0, 1) := by decide +kernel
theorem dX11_format_70 : decode cX11_format 70 = .ok (.istore_n 1, 1) := by decide +kernel
theorem dX11_format_71 : decode cX11_format 71 = .ok (.iload_n 1, 1) := by decide +kernel
theorem dX11_format_72 : decode cX11_format 72 = .ok (.aload_n 0, 1) := by decide +kernel
theorem dX11_format_73 : decode cX11_format 73 = .ok (.getfield 31, 3) := by decide +kernel
theorem dX11_format_76 : decode cX11_format 76 = .ok (.bipush 7, 2) := by decide +kernel
theorem dX11_format_78 : decode cX11_format 78 = .ok (.iaload, 1) := by decide +kernel
theorem dX11_format_79 : decode cX11_format 79 = .ok (.if_icmp .ge 38, 3) := by decide +kernel
theorem dX11_format_82 : decode cX11_format 82 = .ok (.iload_n 1, 1) := by decide +kernel
theorem dX11_format_83 : decode cX11_format 83 = .ok (.ifCond .le 9, 3) := by decide +kernel
theorem dX11_format_86 : decode cX11_format 86 = .ok (.aload_n 0, 1) := by decide +kernel
theorem dX11_format_87 : decode cX11_format 87 = .ok (.bipush 32, 2) := by decide +kernel
theorem dX11_format_89 : decode cX11_format 89 = .ok (.invokevirtual 302, 3) := by decide +kernel
theorem dX11_format_92 : decode cX11_format 92 = .ok (.aload_n 0, 1) := by decide +kernel
theorem dX11_format_93 : decode cX11_format 93 = .ok (.aload_n 0, 1) := by decide +kernel
theorem dX11_format_94 : decode cX11_format 94 = .ok (.aload_n 0, 1) := by decide +kernel
theorem dX11_format_95 : decode cX11_format 95 = .ok (.getfield 31, 3) := by decide +kernel
theorem dX11_format_98 : decode cX11_format 98 = .ok (.sipush 169, 3) := by decide +kernel
theorem dX11_format_101 : decode cX11_format 101 = .ok (.iload_n 1, 1) := by decide +kernel
theorem dX11_format_102 : decode cX11_format 102 = .ok (.iadd, 1) := by decide +kernel
theorem dX11_format_103 : decode cX11_format 103 = .ok (.iaload, 1) := by decide +kernel
theorem dX11_format_104 : decode cX11_format 104 = .ok (.iconst 0, 1) := by decide +kernel
theorem dX11_format_105 : decode cX11_format 105 = .ok (.invokevirtual 95, 3) := by decide +kernel
theorem dX11_format_108 : decode cX11_format 108 = .ok (.invokevirtual 305, 3) := by decide +kernel
theorem dX11_format_111 : decode cX11_format 111 = .ok (.iinc 1 1, 3) := by decide +kernel
theorem dX11_format_114 : decode cX11_format 114 = .ok (.goto (-43), 3) := by decide +kernel
theorem dX11_format_117 : decode cX11_format 117 = .ok (.aload_n 0, 1) := by decide +kernel
theorem dX11_format_118 : decode cX11_format 118 = .ok (.getfield 299, 3) := by decide +kernel
theorem dX11_format_121 : decode cX11_format 121 = .ok (.ireturn, 1) := by decide +kernel
theorem dX11_formattedByte_0 : decode cX11_formattedByte 0 = .ok (.aload_n 0, 1) := by decide +kernel
theorem dX11_formattedByte_1 : decode cX11_formattedByte 1 = .ok (.iconst 0, 1) := by decide +kernel
theorem dX11_formattedByte_2 : decode cX11_formattedByte 2 = .ok (.putfield 81, 3) := by decide +kernel
theorem dX11_formattedByte_5 : decode cX11_formattedByte 5 = .ok (.iload_n 1, 1) := by decide +kernel
theorem dX11_formattedByte_6 : decode cX11_formattedByte 6 = .ok (.iconst 0, 1) := by decide +kernel
theorem dX11_formattedByte_7 : decode cX11_formattedByte 7 = .ok (.aload_n 0, 1) := by decide +kernel
theorem dX11_formattedByte_8 : decode cX11_formattedByte 8 = .ok (.getfield 299, 3) := by decide +kernel
theorem dX11_formattedByte_11 : decode cX11_formattedByte 11 = .ok (.iconst 1, 1) := by decide +kernel
theorem dX11_formattedByte_12 : decode cX11_formattedByte 12 = .ok (.isub, 1) := by decide +kernel
theorem dX11_formattedByte_13 : decode cX11_formattedByte 13 = .ok (.invokestatic 91, 3) := by decide +kernel
theorem dX11_formattedByte_16 : decode cX11_formattedByte 16 = .ok (.ifCond .eq 12, 3) := by decide +kernel
theorem dX11_formattedByte_19 : decode cX11_formattedByte 19 = .ok (.aload_n 0, 1) := by decide +kernel
theorem dX11_formattedByte_20 : decode cX11_formattedByte 20 = .ok (.getfield 40, 3) := by decide +kernel
theorem dX11_formattedByte_23 : decode cX11_formattedByte 23 = .ok (.iload_n 1, 1) := by decide +kernel
theorem dX11_formattedByte_24 : decode cX11_formattedByte 24 = .ok (.iaload, 1) := by decide +kernel
theorem dX11_formattedByte_25 : decode cX11_formattedByte 25 = .ok (.goto 4, 3) := by decide +kernel
theorem dX11_formattedByte_28 : decode cX11_formattedByte 28 = .ok (.iconst (-1), 1) := by decide +kernel
theorem dX11_formattedByte_29 : decode cX11_formattedByte 29 = .ok (.ireturn, 1) := by decide +kernel
theorem dX11_undoCount_0 : decode cX11_undoCount 0 = .ok (.aload_n 0, 1) := by decide +kernel
theorem dX11_undoCount_1 : decode cX11_undoCount 1 = .ok (.iconst 0, 1) := by decide +kernel
theorem dX11_undoCount_2 : decode cX11_undoCount 2 = .ok (.putfield 81, 3) := by decide +kernel
theorem dX11_undoCount_5 : decode cX11_undoCount 5 = .ok (.aload_n 0, 1) := by decide +kernel
theorem dX11_undoCount_6 : decode cX11_undoCount 6 = .ok (.getfield 263, 3) := by decide +kernel
theorem dX11_undoCount_9 : decode cX11_undoCount 9 = .ok (.ireturn, 1) := by decide +kernel
theorem dX11_undo_0 : decode cX11_undo 0 = .ok (.aload_n 0, 1) := by decide +kernel
theorem dX11_undo_1 : decode cX11_undo 1 = .ok (.iconst 0, 1) := by decide +kernel
theorem dX11_undo_2 : decode cX11_undo 2 = .ok (.putfield 81, 3) := by decide +kernel
theorem dX11_undo_5 : decode cX11_undo 5 = .ok (.aload_n 0, 1) := by decide +kernel
theorem dX11_undo_6 : decode cX11_undo 6 = .ok (.getfield 263, 3) := by decide +kernel
theorem dX11_undo_9 : decode cX11_undo 9 = .ok (.ifCond .ne 5, 3) := by decide +kernel
theorem dX11_undo_12 : decode cX11_undo 12 = .ok (.iconst (-1), 1) := by decide +kernel
theorem dX11_undo_13 : decode cX11_undo 13 = .ok (.ireturn, 1) := by decide +kernel
theorem dX11_undo_14 : decode cX11_undo 14 = .ok (.aload_n 0, 1) := by decide +kernel
theorem dX11_undo_15 : decode cX11_undo 15 = .ok (.dup, 1) := by decide +kernel
theorem dX11_undo_16 : decode cX11_undo 16 = .ok (.getfield 263, 3) := by decide +kernel
theorem dX11_undo_19 : decode cX11_undo 19 = .ok (.iconst 1, 1) := by decide +kernel
theorem dX11_undo_20 : decode cX11_undo 20 = .ok (.isub, 1) := by decide +kernel
theorem dX11_undo_21 : decode cX11_undo 21 = .ok (.putfield 263, 3) := by decide +kernel
theorem dX11_undo_24 : decode cX11_undo 24 = .ok (.aload_n 0, 1) := by decide +kernel
theorem dX11_undo_25 : decode cX11_undo 25 = .ok (.getfield 28, 3) := by decide +kernel
theorem dX11_undo_28 : decode cX11_undo 28 = .ok (.iconst 2, 1) := by decide +kernel
theorem dX11_undo_29 : decode cX11_undo 29 = .ok (.dup2, 1) := by decide +kernel
theorem dX11_undo_30 : decode cX11_undo 30 = .ok (.iaload, 1) := by decide +kernel
theorem dX11_undo_31 : decode cX11_undo 31 = .ok (.iconst 1, 1) := by decide +kernel
theorem dX11_undo_32 : decode cX11_undo 32 = .ok (.iadd, 1) := by decide +kernel
theorem dX11_undo_33 : decode cX11_undo 33 = .ok (.iastore, 1) := by decide +kernel
theorem dX11_undo_34 : decode cX11_undo 34 = .ok (.aload_n 0, 1) := by decide +kernel
theorem dX11_undo_35 : decode cX11_undo 35 = .ok (.getfield 25, 3) := by decide +kernel
theorem dX11_undo_38 : decode cX11_undo 38 = .ok (.aload_n 0, 1) := by decide +kernel
theorem dX11_undo_39 : decode cX11_undo 39 = .ok (.getfield 263, 3) := by decide +kernel
theorem dX11_undo_42 : decode cX11_undo 42 = .ok (.aload_n 0, 1) := by decide +kernel
theorem dX11_undo_43 : decode cX11_undo 43 = .ok (.getfield 9, 3) := by decide +kernel
theorem dX11_undo_46 : decode cX11_undo 46 = .ok (.iconst 0, 1) := by decide +kernel
theorem dX11_undo_47 : decode cX11_undo 47 = .ok (.invokestatic 238, 3) := by decide +kernel
theorem dX11_undo_50 : decode cX11_undo 50 = .ok (.aload_n 0, 1) := by decide +kernel
theorem dX11_undo_51 : decode cX11_undo 51 = .ok (.getfield 263, 3) := by decide +kernel
theorem dX11_undo_54 : decode cX11_undo 54 = .ok (.ireturn, 1) := by decide +kernel
theorem dX11_saveSnapshot_0 : decode cX11_saveSnapshot 0 = .ok (.aload_n 0, 1) := by decide +kernel
theorem dX11_saveSnapshot_1 : decode cX11_saveSnapshot 1 = .ok (.iconst 0, 1) := by decide +kernel
theorem dX11_saveSnapshot_2 : decode cX11_saveSnapshot 2 = .ok (.putfield 81, 3) := by decide +kernel
theorem dX11_saveSnapshot_5 : decode cX11_saveSnapshot 5 = .ok (.aload_n 0, 1) := by decide +kernel
theorem dX11_saveSnapshot_6 : decode cX11_saveSnapshot 6 = .ok (.getfield 9, 3) := by decide +kernel
theorem dX11_saveSnapshot_9 : decode cX11_saveSnapshot 9 = .ok (.iconst 0, 1) := by decide +kernel
theorem dX11_saveSnapshot_10 : decode cX11_saveSnapshot 10 = .ok (.aload_n 0, 1) := by decide +kernel
theorem dX11_saveSnapshot_11 : decode cX11_saveSnapshot 11 = .ok (.getfield 22, 3) := by decide +kernel
theorem dX11_saveSnapshot_14 : decode cX11_saveSnapshot 14 = .ok (.iconst 0, 1) := by decide +kernel
theorem dX11_saveSnapshot_15 : decode cX11_saveSnapshot 15 = .ok (.invokestatic 238, 3) := by decide +kernel
theorem dX11_saveSnapshot_18 : decode cX11_saveSnapshot 18 = .ok (.aload_n 0, 1) := by decide +kernel
theorem dX11_saveSnapshot_19 : decode cX11_saveSnapshot 19 = .ok (.iconst 1, 1) := by decide +kernel
theorem dX11_saveSnapshot_20 : decode cX11_saveSnapshot 20 = .ok (.putfield 308, 3) := by decide +kernel
theorem dX11_saveSnapshot_23 : decode cX11_saveSnapshot 23 = .ok (.return_, 1) := by decide +kernel
theorem dX11_restoreSnapshot_0 : decode cX11_restoreSnapshot 0 = .ok (.aload_n 0, 1) := by decide +kernel
theorem dX11_restoreSnapshot_1 : decode cX11_restoreSnapshot 1 = .ok (.iconst 0, 1) := by decide +kernel
theorem dX11_restoreSnapshot_2 : decode cX11_restoreSnapshot 2 = .ok (.putfield 81, 3) := by decide +kernel
theorem dX11_restoreSnapshot_5 : decode cX11_restoreSnapshot 5 = .ok (.aload_n 0, 1) := by decide +kernel
theorem dX11_restoreSnapshot_6 : decode cX11_restoreSnapshot 6 = .ok (.getfield 308, 3) := by decide +kernel
theorem dX11_restoreSnapshot_9 : decode cX11_restoreSnapshot 9 = .ok (.ifCond .ne 5, 3) := by decide +kernel
theorem dX11_restoreSnapshot_12 : decode cX11_restoreSnapshot 12 = .ok (.iconst 0, 1) := by decide +kernel
theorem dX11_restoreSnapshot_13 : decode cX11_restoreSnapshot 13 = .ok (.ireturn, 1) := by decide +kernel
theorem dX11_restoreSnapshot_14 : decode cX11_restoreSnapshot 14 = .ok (.aload_n 0, 1) := by decide +kernel
theorem dX11_restoreSnapshot_15 : decode cX11_restoreSnapshot 15 = .ok (.getfield 22, 3) := by decide +kernel
theorem dX11_restoreSnapshot_18 : decode cX11_restoreSnapshot 18 = .ok (.iconst 0, 1) := by decide +kernel
theorem dX11_restoreSnapshot_19 : decode cX11_restoreSnapshot 19 = .ok (.aload_n 0, 1) := by decide +kernel
theorem dX11_restoreSnapshot_20 : decode cX11_restoreSnapshot 20 = .ok (.getfield 9, 3) := by decide +kernel
theorem dX11_restoreSnapshot_23 : decode cX11_restoreSnapshot 23 = .ok (.iconst 0, 1) := by decide +kernel
theorem dX11_restoreSnapshot_24 : decode cX11_restoreSnapshot 24 = .ok (.invokestatic 238, 3) := by decide +kernel
theorem dX11_restoreSnapshot_27 : decode cX11_restoreSnapshot 27 = .ok (.aload_n 0, 1) := by decide +kernel
theorem dX11_restoreSnapshot_28 : decode cX11_restoreSnapshot 28 = .ok (.iconst 0, 1) := by decide +kernel
theorem dX11_restoreSnapshot_29 : decode cX11_restoreSnapshot 29 = .ok (.putfield 263, 3) := by decide +kernel
theorem dX11_restoreSnapshot_32 : decode cX11_restoreSnapshot 32 = .ok (.iconst 1, 1) := by decide +kernel
theorem dX11_restoreSnapshot_33 : decode cX11_restoreSnapshot 33 = .ok (.ireturn, 1) := by decide +kernel
theorem dX11_feed_0 : decode cX11_feed 0 = .ok (.aload_n 0, 1) := by decide +kernel
theorem dX11_feed_1 : decode cX11_feed 1 = .ok (.iconst 0, 1) := by decide +kernel
theorem dX11_feed_2 : decode cX11_feed 2 = .ok (.putfield 81, 3) := by decide +kernel
theorem dX11_feed_5 : decode cX11_feed 5 = .ok (.aload_n 0, 1) := by decide +kernel
theorem dX11_feed_6 : decode cX11_feed 6 = .ok (.getfield 312, 3) := by decide +kernel
theorem dX11_feed_9 : decode cX11_feed 9 = .ok (.bipush 20, 2) := by decide +kernel
theorem dX11_feed_11 : decode cX11_feed 11 = .ok (.iadd, 1) := by decide +kernel
theorem dX11_feed_12 : decode cX11_feed 12 = .ok (.sipush 700, 3) := by decide +kernel
theorem dX11_feed_15 : decode cX11_feed 15 = .ok (.if_icmp .le 5, 3) := by decide +kernel
theorem dX11_feed_18 : decode cX11_feed 18 = .ok (.iconst (-1), 1) := by decide +kernel
theorem dX11_feed_19 : decode cX11_feed 19 = .ok (.ireturn, 1) := by decide +kernel
theorem dX11_feed_20 : decode cX11_feed 20 = .ok (.iconst 0, 1) := by decide +kernel
theorem dX11_feed_21 : decode cX11_feed 21 = .ok (.istore 6, 2) := by decide +kernel
theorem dX11_feed_23 : decode cX11_feed 23 = .ok (.iload 6, 2) := by decide +kernel
theorem dX11_feed_25 : decode cX11_feed 25 = .ok (.bipush 20, 2) := by decide +kernel
theorem dX11_feed_27 : decode cX11_feed 27 = .ok (.if_icmp .ge 93, 3) := by decide +kernel
theorem dX11_feed_30 : decode cX11_feed 30 = .ok (.iload 6, 2) := by decide +kernel
theorem dX11_feed_32 : decode cX11_feed 32 = .ok (.iconst 4, 1) := by decide +kernel
theorem dX11_feed_33 : decode cX11_feed 33 = .ok (.if_icmp .ge 7, 3) := by decide +kernel
theorem dX11_feed_36 : decode cX11_feed 36 = .ok (.iload_n 1, 1) := by decide +kernel
theorem dX11_feed_37 : decode cX11_feed 37 = .ok (.goto 39, 3) := by decide +kernel
theorem dX11_feed_40 : decode cX11_feed 40 = .ok (.iload 6, 2) := by decide +kernel
theorem dX11_feed_42 : decode cX11_feed 42 = .ok (.bipush 8, 2) := by decide +kernel
theorem dX11_feed_44 : decode cX11_feed 44 = .ok (.if_icmp .ge 7, 3) := by decide +kernel
theorem dX11_feed_47 : decode cX11_feed 47 = .ok (.iload_n 2, 1) := by decide +kernel
theorem dX11_feed_48 : decode cX11_feed 48 = .ok (.goto 28, 3) := by decide +kernel
theorem dX11_feed_51 : decode cX11_feed 51 = .ok (.iload 6, 2) := by decide +kernel
theorem dX11_feed_53 : decode cX11_feed 53 = .ok (.bipush 12, 2) := by decide +kernel
theorem dX11_feed_55 : decode cX11_feed 55 = .ok (.if_icmp .ge 7, 3) := by decide +kernel
theorem dX11_feed_58 : decode cX11_feed 58 = .ok (.iload_n 3, 1) := by decide +kernel
theorem dX11_feed_59 : decode cX11_feed 59 = .ok (.goto 17, 3) := by decide +kernel
theorem dX11_feed_62 : decode cX11_feed 62 = .ok (.iload 6, 2) := by decide +kernel
theorem dX11_feed_64 : decode cX11_feed 64 = .ok (.bipush 16, 2) := by decide +kernel
theorem dX11_feed_66 : decode cX11_feed 66 = .ok (.if_icmp .ge 8, 3) := by decide +kernel
theorem dX11_feed_69 : decode cX11_feed 69 = .ok (.iload 4, 2) := by decide +kernel
theorem dX11_feed_71 : decode cX11_feed 71 = .ok (.goto 5, 3) := by decide +kernel
theorem dX11_feed_74 : decode cX11_feed 74 = .ok (.iload 5, 2) := by decide +kernel
theorem dX11_feed_76 : decode cX11_feed 76 = .ok (.istore 7, 2) := by decide +kernel
theorem dX11_feed_78 : decode cX11_feed 78 = .ok (.aload_n 0, 1) := by decide +kernel
theorem dX11_feed_79 : decode cX11_feed 79 = .ok (.getfield 43, 3) := by decide +kernel
theorem dX11_feed_82 : decode cX11_feed 82 = .ok (.aload_n 0, 1) := by decide +kernel
theorem dX11_feed_83 : decode cX11_feed 83 = .ok (.getfield 312, 3) := by decide +kernel
theorem dX11_feed_86 : decode cX11_feed 86 = .ok (.iload 7, 2) := by decide +kernel
theorem dX11_feed_88 : decode cX11_feed 88 = .ok (.bipush 24, 2) := by decide +kernel
theorem dX11_feed_90 : decode cX11_feed 90 = .ok (.bipush 8, 2) := by decide +kernel
theorem dX11_feed_92 : decode cX11_feed 92 = .ok (.iload 6, 2) := by decide +kernel
theorem dX11_feed_94 : decode cX11_feed 94 = .ok (.iconst 4, 1) := by decide +kernel
theorem dX11_feed_95 : decode cX11_feed 95 = .ok (.irem, 1) := by decide +kernel
theorem dX11_feed_96 : decode cX11_feed 96 = .ok (.imul, 1) := by decide +kernel
theorem dX11_feed_97 : decode cX11_feed 97 = .ok (.isub, 1) := by decide +kernel
theorem dX11_feed_98 : decode cX11_feed 98 = .ok (.ishr, 1) := by decide +kernel
theorem dX11_feed_99 : decode cX11_feed 99 = .ok (.sipush 255, 3) := by decide +kernel
theorem dX11_feed_102 : decode cX11_feed 102 = .ok (.iand, 1) := by decide +kernel
theorem dX11_feed_103 : decode cX11_feed 103 = .ok (.iastore, 1) := by decide +kernel
theorem dX11_feed_104 : decode cX11_feed 104 = .ok (.aload_n 0, 1) := by decide +kernel
theorem dX11_feed_105 : decode cX11_feed 105 = .ok (.dup, 1) := by decide +kernel
theorem dX11_feed_106 : decode cX11_feed 106 = .ok (.getfield 312, 3) := by decide +kernel
theorem dX11_feed_109 : decode cX11_feed 109 = .ok (.iconst 1, 1) := by decide +kernel
theorem dX11_feed_110 : decode cX11_feed 110 = .ok (.iadd, 1) := by decide +kernel
theorem dX11_feed_111 : decode cX11_feed 111 = .ok (.putfield 312, 3) := by decide +kernel
theorem dX11_feed_114 : decode cX11_feed 114 = .ok (.iinc 6 1, 3) := by decide +kernel
theorem dX11_feed_117 : decode cX11_feed 117 = .ok (.goto (-94), 3) := by decide +kernel
theorem dX11_feed_120 : decode cX11_feed 120 = .ok (.aload_n 0, 1) := by decide +kernel
theorem dX11_feed_121 : decode cX11_feed 121 = .ok (.getfield 312, 3) := by decide +kernel
theorem dX11_feed_124 : decode cX11_feed 124 = .ok (.ireturn, 1) := by decide +kernel
theorem dX11_errorPosition_0 : decode cX11_errorPosition 0 = .ok (.aload_n 0, 1) := by decide +kernel
theorem dX11_errorPosition_1 : decode cX11_errorPosition 1 = .ok (.iconst 0, 1) := by decide +kernel
theorem dX11_errorPosition_2 : decode cX11_errorPosition 2 = .ok (.putfield 81, 3) := by decide +kernel
theorem dX11_errorPosition_5 : decode cX11_errorPosition 5 = .ok (.aload_n 0, 1) := by decide +kernel
theorem dX11_errorPosition_6 : decode cX11_errorPosition 6 = .ok (.getfield 46, 3) := by decide +kernel
theorem dX11_errorPosition_9 : decode cX11_errorPosition 9 = .ok (.ireturn, 1) := by decide +kernel
theorem dX11_byteAt_0 : decode cX11_byteAt 0 = .ok (.iload_n 1, 1) := by decide +kernel
theorem dX11_byteAt_1 : decode cX11_byteAt 1 = .ok (.aload_n 0, 1) := by decide +kernel
theorem dX11_byteAt_2 : decode cX11_byteAt 2 = .ok (.getfield 315, 3) := by decide +kernel
theorem dX11_byteAt_5 : decode cX11_byteAt 5 = .ok (.if_icmp .ge 12, 3) := by decide +kernel
theorem dX11_byteAt_8 : decode cX11_byteAt 8 = .ok (.aload_n 0, 1) := by decide +kernel
theorem dX11_byteAt_9 : decode cX11_byteAt 9 = .ok (.getfield 43, 3) := by decide +kernel
theorem dX11_byteAt_12 : decode cX11_byteAt 12 = .ok (.iload_n 1, 1) := by decide +kernel
theorem dX11_byteAt_13 : decode cX11_byteAt 13 = .ok (.iaload, 1) := by decide +kernel
theorem dX11_byteAt_14 : decode cX11_byteAt 14 = .ok (.goto 4, 3) := by decide +kernel
theorem dX11_byteAt_17 : decode cX11_byteAt 17 = .ok (.iconst (-1), 1) := by decide +kernel
theorem dX11_byteAt_18 : decode cX11_byteAt 18 = .ok (.ireturn, 1) := by decide +kernel
theorem dX11_isLetter_0 : decode cX11_isLetter 0 = .ok (.aload_n 0, 1) := by decide +kernel
theorem dX11_isLetter_1 : decode cX11_isLetter 1 = .ok (.iload_n 1, 1) := by decide +kernel
theorem dX11_isLetter_2 : decode cX11_isLetter 2 = .ok (.invokevirtual 318, 3) := by decide +kernel
theorem dX11_isLetter_5 : decode cX11_isLetter 5 = .ok (.bipush 97, 2) := by decide +kernel
theorem dX11_isLetter_7 : decode cX11_isLetter 7 = .ok (.if_icmp .lt 17, 3) := by decide +kernel
theorem dX11_isLetter_10 : decode cX11_isLetter 10 = .ok (.aload_n 0, 1) := by decide +kernel
theorem dX11_isLetter_11 : decode cX11_isLetter 11 = .ok (.iload_n 1, 1) := by decide +kernel
theorem dX11_isLetter_12 : decode cX11_isLetter 12 = .ok (.invokevirtual 318, 3) := by decide +kernel
theorem dX11_isLetter_15 : decode cX11_isLetter 15 = .ok (.bipush 122, 2) := by decide +kernel
theorem dX11_isLetter_17 : decode cX11_isLetter 17 = .ok (.if_icmp .gt 7, 3) := by decide +kernel
theorem dX11_isLetter_20 : decode cX11_isLetter 20 = .ok (.iconst 1, 1) := by decide +kernel
theorem dX11_isLetter_21 : decode cX11_isLetter 21 = .ok (.goto 4, 3) := by decide +kernel
theorem dX11_isLetter_24 : decode cX11_isLetter 24 = .ok (.iconst 0, 1) := by decide +kernel
theorem dX11_isLetter_25 : decode cX11_isLetter 25 = .ok (.ireturn, 1) := by decide +kernel
theorem dX11_isDigit_0 : decode cX11_isDigit 0 = .ok (.aload_n 0, 1) := by decide +kernel
theorem dX11_isDigit_1 : decode cX11_isDigit 1 = .ok (.iload_n 1, 1) := by decide +kernel
theorem dX11_isDigit_2 : decode cX11_isDigit 2 = .ok (.invokevirtual 318, 3) := by decide +kernel
theorem dX11_isDigit_5 : decode cX11_isDigit 5 = .ok (.bipush 48, 2) := by decide +kernel
theorem dX11_isDigit_7 : decode cX11_isDigit 7 = .ok (.if_icmp .lt 17, 3) := by decide +kernel
theorem dX11_isDigit_10 : decode cX11_isDigit 10 = .ok (.aload_n 0, 1) := by decide +kernel
theorem dX11_isDigit_11 : decode cX11_isDigit 11 = .ok (.iload_n 1, 1) := by decide +kernel
theorem dX11_isDigit_12 : decode cX11_isDigit 12 = .ok (.invokevirtual 318, 3) := by decide +kernel
theorem dX11_isDigit_15 : decode cX11_isDigit 15 = .ok (.bipush 57, 2) := by decide +kernel
theorem dX11_isDigit_17 : decode cX11_isDigit 17 = .ok (.if_icmp .gt 7, 3) := by decide +kernel
theorem dX11_isDigit_20 : decode cX11_isDigit 20 = .ok (.iconst 1, 1) := by decide +kernel
theorem dX11_isDigit_21 : decode cX11_isDigit 21 = .ok (.goto 4, 3) := by decide +kernel
theorem dX11_isDigit_24 : decode cX11_isDigit 24 = .ok (.iconst 0, 1) := by decide +kernel
theorem dX11_isDigit_25 : decode cX11_isDigit 25 = .ok (.ireturn, 1) := by decide +kernel
theorem dX11_scan_0 : decode cX11_scan 0 = .ok (.aload_n 0, 1) := by decide +kernel
theorem dX11_scan_1 : decode cX11_scan 1 = .ok (.aload_n 0, 1) := by decide +kernel
theorem dX11_scan_2 : decode cX11_scan 2 = .ok (.getfield 321, 3) := by decide +kernel
theorem dX11_scan_5 : decode cX11_scan 5 = .ok (.invokevirtual 318, 3) := by decide +kernel
theorem dX11_scan_8 : decode cX11_scan 8 = .ok (.bipush 32, 2) := by decide +kernel
theorem dX11_scan_10 : decode cX11_scan 10 = .ok (.if_icmp .eq 16, 3) := by decide +kernel
theorem dX11_scan_13 : decode cX11_scan 13 = .ok (.aload_n 0, 1) := by decide +kernel
theorem dX11_scan_14 : decode cX11_scan 14 = .ok (.aload_n 0, 1) := by decide +kernel
theorem dX11_scan_15 : decode cX11_scan 15 = .ok (.getfield 321, 3) := by decide +kernel
theorem dX11_scan_18 : decode cX11_scan 18 = .ok (.invokevirtual 318, 3) := by decide +kernel
theorem dX11_scan_21 : decode cX11_scan 21 = .ok (.bipush 10, 2) := by decide +kernel
theorem dX11_scan_23 : decode cX11_scan 23 = .ok (.if_icmp .ne 16, 3) := by decide +kernel
theorem dX11_scan_26 : decode cX11_scan 26 = .ok (.aload_n 0, 1) := by decide +kernel
theorem dX11_scan_27 : decode cX11_scan 27 = .ok (.dup, 1) := by decide +kernel
theorem dX11_scan_28 : decode cX11_scan 28 = .ok (.getfield 321, 3) := by decide +kernel
theorem dX11_scan_31 : decode cX11_scan 31 = .ok (.iconst 1, 1) := by decide +kernel
theorem dX11_scan_32 : decode cX11_scan 32 = .ok (.iadd, 1) := by decide +kernel
theorem dX11_scan_33 : decode cX11_scan 33 = .ok (.putfield 321, 3) := by decide +kernel
theorem dX11_scan_36 : decode cX11_scan 36 = .ok (.goto (-36), 3) := by decide +kernel
theorem dX11_scan_39 : decode cX11_scan 39 = .ok (.aload_n 0, 1) := by decide +kernel
theorem dX11_scan_40 : decode cX11_scan 40 = .ok (.aload_n 0, 1) := by decide +kernel
theorem dX11_scan_41 : decode cX11_scan 41 = .ok (.getfield 321, 3) := by decide +kernel
theorem dX11_scan_44 : decode cX11_scan 44 = .ok (.putfield 324, 3) := by decide +kernel
theorem dX11_scan_47 : decode cX11_scan 47 = .ok (.aload_n 0, 1) := by decide +kernel
theorem dX11_scan_48 : decode cX11_scan 48 = .ok (.getfield 321, 3) := by decide +kernel
theorem dX11_scan_51 : decode cX11_scan 51 = .ok (.aload_n 0, 1) := by decide +kernel
theorem dX11_scan_52 : decode cX11_scan 52 = .ok (.getfield 315, 3) := by decide +kernel
theorem dX11_scan_55 : decode cX11_scan 55 = .ok (.if_icmp .lt 11, 3) := by decide +kernel
theorem dX11_scan_58 : decode cX11_scan 58 = .ok (.aload_n 0, 1) := by decide +kernel
theorem dX11_scan_59 : decode cX11_scan 59 = .ok (.iconst 0, 1) := by decide +kernel
theorem dX11_scan_60 : decode cX11_scan 60 = .ok (.putfield 327, 3) := by decide +kernel
theorem dX11_scan_63 : decode cX11_scan 63 = .ok (.goto 104, 3) := by decide +kernel
theorem dX11_scan_66 : decode cX11_scan 66 = .ok (.aload_n 0, 1) := by decide +kernel
theorem dX11_scan_67 : decode cX11_scan 67 = .ok (.aload_n 0, 1) := by decide +kernel
theorem dX11_scan_68 : decode cX11_scan 68 = .ok (.getfield 321, 3) := by decide +kernel
theorem dX11_scan_71 : decode cX11_scan 71 = .ok (.invokevirtual 330, 3) := by decide +kernel
theorem dX11_scan_74 : decode cX11_scan 74 = .ok (.ifCond .eq 35, 3) := by decide +kernel
theorem dX11_scan_77 : decode cX11_scan 77 = .ok (.aload_n 0, 1) := by decide +kernel
theorem dX11_scan_78 : decode cX11_scan 78 = .ok (.aload_n 0, 1) := by decide +kernel
theorem dX11_scan_79 : decode cX11_scan 79 = .ok (.getfield 321, 3) := by decide +kernel
theorem dX11_scan_82 : decode cX11_scan 82 = .ok (.invokevirtual 330, 3) := by decide +kernel
theorem dX11_scan_85 : decode cX11_scan 85 = .ok (.ifCond .eq 16, 3) := by decide +kernel
theorem dX11_scan_88 : decode cX11_scan 88 = .ok (.aload_n 0, 1) := by decide +kernel
theorem dX11_scan_89 : decode cX11_scan 89 = .ok (.dup, 1) := by decide +kernel
theorem dX11_scan_90 : decode cX11_scan 90 = .ok (.getfield 321, 3) := by decide +kernel
theorem dX11_scan_93 : decode cX11_scan 93 = .ok (.iconst 1, 1) := by decide +kernel
theorem dX11_scan_94 : decode cX11_scan 94 = .ok (.iadd, 1) := by decide +kernel
theorem dX11_scan_95 : decode cX11_scan 95 = .ok (.putfield 321, 3) := by decide +kernel
theorem dX11_scan_98 : decode cX11_scan 98 = .ok (.goto (-21), 3) := by decide +kernel
theorem dX11_scan_101 : decode cX11_scan 101 = .ok (.aload_n 0, 1) := by decide +kernel
theorem dX11_scan_102 : decode cX11_scan 102 = .ok (.iconst 1, 1) := by decide +kernel
theorem dX11_scan_103 : decode cX11_scan 103 = .ok (.putfield 327, 3) := by decide +kernel
theorem dX11_scan_106 : decode cX11_scan 106 = .ok (.goto 61, 3) := by decide +kernel
theorem dX11_scan_109 : decode cX11_scan 109 = .ok (.aload_n 0, 1) := by decide +kernel
theorem dX11_scan_110 : decode cX11_scan 110 = .ok (.aload_n 0, 1) := by decide +kernel
theorem dX11_scan_111 : decode cX11_scan 111 = .ok (.getfield 321, 3) := by decide +kernel
theorem dX11_scan_114 : decode cX11_scan 114 = .ok (.invokevirtual 333, 3) := by decide +kernel
theorem dX11_scan_117 : decode cX11_scan 117 = .ok (.ifCond .eq 35, 3) := by decide +kernel
theorem dX11_scan_120 : decode cX11_scan 120 = .ok (.aload_n 0, 1) := by decide +kernel
theorem dX11_scan_121 : decode cX11_scan 121 = .ok (.aload_n 0, 1) := by decide +kernel
theorem dX11_scan_122 : decode cX11_scan 122 = .ok (.getfield 321, 3) := by decide +kernel
theorem dX11_scan_125 : decode cX11_scan 125 = .ok (.invokevirtual 333, 3) := by decide +kernel
theorem dX11_scan_128 : decode cX11_scan 128 = .ok (.ifCond .eq 16, 3) := by decide +kernel
theorem dX11_scan_131 : decode cX11_scan 131 = .ok (.aload_n 0, 1) := by decide +kernel
theorem dX11_scan_132 : decode cX11_scan 132 = .ok (.dup, 1) := by decide +kernel
theorem dX11_scan_133 : decode cX11_scan 133 = .ok (.getfield 321, 3) := by decide +kernel
theorem dX11_scan_136 : decode cX11_scan 136 = .ok (.iconst 1, 1) := by decide +kernel
theorem dX11_scan_137 : decode cX11_scan 137 = .ok (.iadd, 1) := by decide +kernel
theorem dX11_scan_138 : decode cX11_scan 138 = .ok (.putfield 321, 3) := by decide +kernel
theorem dX11_scan_141 : decode cX11_scan 141 = .ok (.goto (-21), 3) := by decide +kernel
theorem dX11_scan_144 : decode cX11_scan 144 = .ok (.aload_n 0, 1) := by decide +kernel
theorem dX11_scan_145 : decode cX11_scan 145 = .ok (.iconst 2, 1) := by decide +kernel
theorem dX11_scan_146 : decode cX11_scan 146 = .ok (.putfield 327, 3) := by decide +kernel
theorem dX11_scan_149 : decode cX11_scan 149 = .ok (.goto 18, 3) := by decide +kernel
theorem dX11_scan_152 : decode cX11_scan 152 = .ok (.aload_n 0, 1) := by decide +kernel
theorem dX11_scan_153 : decode cX11_scan 153 = .ok (.dup, 1) := by decide +kernel
theorem dX11_scan_154 : decode cX11_scan 154 = .ok (.getfield 321, 3) := by decide +kernel
theorem dX11_scan_157 : decode cX11_scan 157 = .ok (.iconst 1, 1) := by decide +kernel
theorem dX11_scan_158 : decode cX11_scan 158 = .ok (.iadd, 1) := by decide +kernel
theorem dX11_scan_159 : decode cX11_scan 159 = .ok (.putfield 321, 3) := by decide +kernel
theorem dX11_scan_162 : decode cX11_scan 162 = .ok (.aload_n 0, 1) := by decide +kernel
theorem dX11_scan_163 : decode cX11_scan 163 = .ok (.iconst 3, 1) := by decide +kernel
theorem dX11_scan_164 : decode cX11_scan 164 = .ok (.putfield 327, 3) := by decide +kernel
theorem dX11_scan_167 : decode cX11_scan 167 = .ok (.return_, 1) := by decide +kernel
theorem dX11_startText_0 : decode cX11_startText 0 = .ok (.aload_n 0, 1) := by decide +kernel
theorem dX11_startText_1 : decode cX11_startText 1 = .ok (.iload_n 1, 1) := by decide +kernel
theorem dX11_startText_2 : decode cX11_startText 2 = .ok (.putfield 315, 3) := by decide +kernel
theorem dX11_startText_5 : decode cX11_startText 5 = .ok (.aload_n 0, 1) := by decide +kernel
theorem dX11_startText_6 : decode cX11_startText 6 = .ok (.iconst 0, 1) := by decide +kernel
theorem dX11_startText_7 : decode cX11_startText 7 = .ok (.putfield 321, 3) := by decide +kernel
theorem dX11_startText_10 : decode cX11_startText 10 = .ok (.aload_n 0, 1) := by decide +kernel
theorem dX11_startText_11 : decode cX11_startText 11 = .ok (.iconst 0, 1) := by decide +kernel
theorem dX11_startText_12 : decode cX11_startText 12 = .ok (.putfield 336, 3) := by decide +kernel
theorem dX11_startText_15 : decode cX11_startText 15 = .ok (.aload_n 0, 1) := by decide +kernel
theorem dX11_startText_16 : decode cX11_startText 16 = .ok (.iconst 0, 1) := by decide +kernel
theorem dX11_startText_17 : decode cX11_startText 17 = .ok (.putfield 339, 3) := by decide +kernel
theorem dX11_startText_20 : decode cX11_startText 20 = .ok (.aload_n 0, 1) := by decide +kernel
theorem dX11_startText_21 : decode cX11_startText 21 = .ok (.invokevirtual 342, 3) := by decide +kernel
theorem dX11_startText_24 : decode cX11_startText 24 = .ok (.return_, 1) := by decide +kernel
theorem dX11_finish_0 : decode cX11_finish 0 = .ok (.aload_n 0, 1) := by decide +kernel
theorem dX11_finish_1 : decode cX11_finish 1 = .ok (.iconst 0, 1) := by decide +kernel
theorem dX11_finish_2 : decode cX11_finish 2 = .ok (.putfield 312, 3) := by decide +kernel
theorem dX11_finish_5 : decode cX11_finish 5 = .ok (.aload_n 0, 1) := by decide +kernel
theorem dX11_finish_6 : decode cX11_finish 6 = .ok (.aload_n 0, 1) := by decide +kernel
theorem dX11_finish_7 : decode cX11_finish 7 = .ok (.getfield 336, 3) := by decide +kernel
theorem dX11_finish_10 : decode cX11_finish 10 = .ok (.ifCond .ne 7, 3) := by decide +kernel
theorem dX11_finish_13 : decode cX11_finish 13 = .ok (.iconst (-1), 1) := by decide +kernel
theorem dX11_finish_14 : decode cX11_finish 14 = .ok (.goto 7, 3) := by decide +kernel
theorem dX11_finish_17 : decode cX11_finish 17 = .ok (.aload_n 0, 1) := by decide +kernel
theorem dX11_finish_18 : decode cX11_finish 18 = .ok (.getfield 345, 3) := by decide +kernel
theorem dX11_finish_21 : decode cX11_finish 21 = .ok (.putfield 46, 3) := by decide +kernel
theorem dX11_finish_24 : decode cX11_finish 24 = .ok (.aload_n 0, 1) := by decide +kernel
theorem dX11_finish_25 : decode cX11_finish 25 = .ok (.getfield 336, 3) := by decide +kernel
theorem dX11_finish_28 : decode cX11_finish 28 = .ok (.ireturn, 1) := by decide +kernel
theorem dX11_demand_0 : decode cX11_demand 0 = .ok (.iload_n 1, 1) := by decide +kernel
theorem dX11_demand_1 : decode cX11_demand 1 = .ok (.ifCond .ne 23, 3) := by decide +kernel
theorem dX11_demand_4 : decode cX11_demand 4 = .ok (.aload_n 0, 1) := by decide +kernel
theorem dX11_demand_5 : decode cX11_demand 5 = .ok (.getfield 336, 3) := by decide +kernel
theorem dX11_demand_8 : decode cX11_demand 8 = .ok (.ifCond .ne 16, 3) := by decide +kernel
theorem dX11_demand_11 : decode cX11_demand 11 = .ok (.aload_n 0, 1) := by decide +kernel
theorem dX11_demand_12 : decode cX11_demand 12 = .ok (.iload_n 2, 1) := by decide +kernel
theorem dX11_demand_13 : decode cX11_demand 13 = .ok (.putfield 336, 3) := by decide +kernel
theorem dX11_demand_16 : decode cX11_demand 16 = .ok (.aload_n 0, 1) := by decide +kernel
theorem dX11_demand_17 : decode cX11_demand 17 = .ok (.aload_n 0, 1) := by decide +kernel
theorem dX11_demand_18 : decode cX11_demand 18 = .ok (.getfield 324, 3) := by decide +kernel
theorem dX11_demand_21 : decode cX11_demand 21 = .ok (.putfield 345, 3) := by decide +kernel
theorem dX11_demand_24 : decode cX11_demand 24 = .ok (.return_, 1) := by decide +kernel
theorem dX11_advance_0 : decode cX11_advance 0 = .ok (.aload_n 0, 1) := by decide +kernel
theorem dX11_advance_1 : decode cX11_advance 1 = .ok (.getfield 336, 3) := by decide +kernel
theorem dX11_advance_4 : decode cX11_advance 4 = .ok (.ifCond .ne 7, 3) := by decide +kernel
theorem dX11_advance_7 : decode cX11_advance 7 = .ok (.aload_n 0, 1) := by decide +kernel
theorem dX11_advance_8 : decode cX11_advance 8 = .ok (.invokevirtual 342, 3) := by decide +kernel
theorem dX11_advance_11 : decode cX11_advance 11 = .ok (.return_, 1) := by decide +kernel
theorem dX11_isSymbol_0 : decode cX11_isSymbol 0 = .ok (.aload_n 0, 1) := by decide +kernel
theorem dX11_isSymbol_1 : decode cX11_isSymbol 1 = .ok (.getfield 336, 3) := by decide +kernel
theorem dX11_isSymbol_4 : decode cX11_isSymbol 4 = .ok (.ifCond .ne 28, 3) := by decide +kernel
theorem dX11_isSymbol_7 : decode cX11_isSymbol 7 = .ok (.aload_n 0, 1) := by decide +kernel
theorem dX11_isSymbol_8 : decode cX11_isSymbol 8 = .ok (.getfield 327, 3) := by decide +kernel
theorem dX11_isSymbol_11 : decode cX11_isSymbol 11 = .ok (.iconst 3, 1) := by decide +kernel
theorem dX11_isSymbol_12 : decode cX11_isSymbol 12 = .ok (.if_icmp .ne 20, 3) := by decide +kernel
theorem dX11_isSymbol_15 : decode cX11_isSymbol 15 = .ok (.aload_n 0, 1) := by decide +kernel
theorem dX11_isSymbol_16 : decode cX11_isSymbol 16 = .ok (.getfield 43, 3) := by decide +kernel
theorem dX11_isSymbol_19 : decode cX11_isSymbol 19 = .ok (.aload_n 0, 1) := by decide +kernel
theorem dX11_isSymbol_20 : decode cX11_isSymbol 20 = .ok (.getfield 324, 3) := by decide +kernel
theorem dX11_isSymbol_23 : decode cX11_isSymbol 23 = .ok (.iaload, 1) := by decide +kernel
theorem dX11_isSymbol_24 : decode cX11_isSymbol 24 = .ok (.iload_n 1, 1) := by decide +kernel
theorem dX11_isSymbol_25 : decode cX11_isSymbol 25 = .ok (.if_icmp .ne 7, 3) := by decide +kernel
theorem dX11_isSymbol_28 : decode cX11_isSymbol 28 = .ok (.iconst 1, 1) := by decide +kernel
theorem dX11_isSymbol_29 : decode cX11_isSymbol 29 = .ok (.goto 4, 3) := by decide +kernel
theorem dX11_isSymbol_32 : decode cX11_isSymbol 32 = .ok (.iconst 0, 1) := by decide +kernel
theorem dX11_isSymbol_33 : decode cX11_isSymbol 33 = .ok (.ireturn, 1) := by decide +kernel
theorem dX11_isWord_0 : decode cX11_isWord 0 = .ok (.aload_n 0, 1) := by decide +kernel
theorem dX11_isWord_1 : decode cX11_isWord 1 = .ok (.getfield 336, 3) := by decide +kernel
theorem dX11_isWord_4 : decode cX11_isWord 4 = .ok (.ifCond .ne 31, 3) := by decide +kernel
theorem dX11_isWord_7 : decode cX11_isWord 7 = .ok (.aload_n 0, 1) := by decide +kernel
theorem dX11_isWord_8 : decode cX11_isWord 8 = .ok (.getfield 327, 3) := by decide +kernel
theorem dX11_isWord_11 : decode cX11_isWord 11 = .ok (.iconst 1, 1) := by decide +kernel
theorem dX11_isWord_12 : decode cX11_isWord 12 = .ok (.if_icmp .ne 23, 3) := by decide +kernel
theorem dX11_isWord_15 : decode cX11_isWord 15 = .ok (.aload_n 1, 1) := by decide +kernel
theorem dX11_isWord_16 : decode cX11_isWord 16 = .ok (.invokevirtual 348, 3) := by decide +kernel
theorem dX11_isWord_19 : decode cX11_isWord 19 = .ok (.aload_n 0, 1) := by decide +kernel
theorem dX11_isWord_20 : decode cX11_isWord 20 = .ok (.getfield 321, 3) := by decide +kernel
theorem dX11_isWord_23 : decode cX11_isWord 23 = .ok (.aload_n 0, 1) := by decide +kernel
theorem dX11_isWord_24 : decode cX11_isWord 24 = .ok (.getfield 324, 3) := by decide +kernel
theorem dX11_isWord_27 : decode cX11_isWord 27 = .ok (.isub, 1) := by decide +kernel
theorem dX11_isWord_28 : decode cX11_isWord 28 = .ok (.if_icmp .ne 7, 3) := by decide +kernel
theorem dX11_isWord_31 : decode cX11_isWord 31 = .ok (.iconst 1, 1) := by decide +kernel
theorem dX11_isWord_32 : decode cX11_isWord 32 = .ok (.goto 4, 3) := by decide +kernel
theorem dX11_isWord_35 : decode cX11_isWord 35 = .ok (.iconst 0, 1) := by decide +kernel
theorem dX11_isWord_36 : decode cX11_isWord 36 = .ok (.istore_n 2, 1) := by decide +kernel
theorem dX11_isWord_37 : decode cX11_isWord 37 = .ok (.iconst 0, 1) := by decide +kernel
theorem dX11_isWord_38 : decode cX11_isWord 38 = .ok (.istore_n 3, 1) := by decide +kernel
theorem dX11_isWord_39 : decode cX11_isWord 39 = .ok (.iload_n 2, 1) := by decide +kernel
theorem dX11_isWord_40 : decode cX11_isWord 40 = .ok (.ifCond .eq 42, 3) := by decide +kernel
theorem dX11_isWord_43 : decode cX11_isWord 43 = .ok (.iload_n 3, 1) := by decide +kernel
theorem dX11_isWord_44 : decode cX11_isWord 44 = .ok (.aload_n 1, 1) := by decide +kernel
theorem dX11_isWord_45 : decode cX11_isWord 45 = .ok (.invokevirtual 348, 3) := by decide +kernel
theorem dX11_isWord_48 : decode cX11_isWord 48 = .ok (.if_icmp .ge 34, 3) := by decide +kernel
theorem dX11_isWord_51 : decode cX11_isWord 51 = .ok (.aload_n 1, 1) := by decide +kernel
theorem dX11_isWord_52 : decode cX11_isWord 52 = .ok (.iload_n 3, 1) := by decide +kernel
theorem dX11_isWord_53 : decode cX11_isWord 53 = .ok (.invokevirtual 351, 3) := by decide +kernel
theorem dX11_isWord_56 : decode cX11_isWord 56 = .ok (.aload_n 0, 1) := by decide +kernel
theorem dX11_isWord_57 : decode cX11_isWord 57 = .ok (.getfield 43, 3) := by decide +kernel
theorem dX11_isWord_60 : decode cX11_isWord 60 = .ok (.aload_n 0, 1) := by decide +kernel
theorem dX11_isWord_61 : decode cX11_isWord 61 = .ok (.getfield 324, 3) := by decide +kernel
theorem dX11_isWord_64 : decode cX11_isWord 64 = .ok (.iload_n 3, 1) := by decide +kernel
theorem dX11_isWord_65 : decode cX11_isWord 65 = .ok (.iadd, 1) := by decide +kernel
theorem dX11_isWord_66 : decode cX11_isWord 66 = .ok (.iaload, 1) := by decide +kernel
theorem dX11_isWord_67 : decode cX11_isWord 67 = .ok (.if_icmp .ne 7, 3) := by decide +kernel
theorem dX11_isWord_70 : decode cX11_isWord 70 = .ok (.iconst 1, 1) := by decide +kernel
theorem dX11_isWord_71 : decode cX11_isWord 71 = .ok (.goto 4, 3) := by decide +kernel
theorem dX11_isWord_74 : decode cX11_isWord 74 = .ok (.iconst 0, 1) := by decide +kernel
theorem dX11_isWord_75 : decode cX11_isWord 75 = .ok (.istore_n 2, 1) := by decide +kernel
theorem dX11_isWord_76 : decode cX11_isWord 76 = .ok (.iinc 3 1, 3) := by decide +kernel
theorem dX11_isWord_79 : decode cX11_isWord 79 = .ok (.goto (-40), 3) := by decide +kernel
theorem dX11_isWord_82 : decode cX11_isWord 82 = .ok (.iload_n 2, 1) := by decide +kernel
theorem dX11_isWord_83 : decode cX11_isWord 83 = .ok (.ireturn, 1) := by decide +kernel
theorem dX11_accept_0 : decode cX11_accept 0 = .ok (.aload_n 0, 1) := by decide +kernel
theorem dX11_accept_1 : decode cX11_accept 1 = .ok (.aload_n 1, 1) := by decide +kernel
theorem dX11_accept_2 : decode cX11_accept 2 = .ok (.invokevirtual 355, 3) := by decide +kernel
theorem dX11_accept_5 : decode cX11_accept 5 = .ok (.istore_n 2, 1) := by decide +kernel
theorem dX11_accept_6 : decode cX11_accept 6 = .ok (.iload_n 2, 1) := by decide +kernel
theorem dX11_accept_7 : decode cX11_accept 7 = .ok (.ifCond .eq 7, 3) := by decide +kernel
theorem dX11_accept_10 : decode cX11_accept 10 = .ok (.aload_n 0, 1) := by decide +kernel
theorem dX11_accept_11 : decode cX11_accept 11 = .ok (.invokevirtual 342, 3) := by decide +kernel
theorem dX11_accept_14 : decode cX11_accept 14 = .ok (.iload_n 2, 1) := by decide +kernel
theorem dX11_accept_15 : decode cX11_accept 15 = .ok (.ireturn, 1) := by decide +kernel
theorem dX11_expect_0 : decode cX11_expect 0 = .ok (.aload_n 0, 1) := by decide +kernel
theorem dX11_expect_1 : decode cX11_expect 1 = .ok (.aload_n 0, 1) := by decide +kernel
theorem dX11_expect_2 : decode cX11_expect 2 = .ok (.iload_n 1, 1) := by decide +kernel
theorem dX11_expect_3 : decode cX11_expect 3 = .ok (.invokevirtual 359, 3) := by decide +kernel
theorem dX11_expect_6 : decode cX11_expect 6 = .ok (.iconst 1, 1) := by decide +kernel
theorem dX11_expect_7 : decode cX11_expect 7 = .ok (.invokevirtual 362, 3) := by decide +kernel
theorem dX11_expect_10 : decode cX11_expect 10 = .ok (.aload_n 0, 1) := by decide +kernel
theorem dX11_expect_11 : decode cX11_expect 11 = .ok (.invokevirtual 366, 3) := by decide +kernel
theorem dX11_expect_14 : decode cX11_expect 14 = .ok (.return_, 1) := by decide +kernel
theorem dX11_value_0 : decode cX11_value 0 = .ok (.iconst 0, 1) := by decide +kernel
theorem dX11_value_1 : decode cX11_value 1 = .ok (.istore_n 1, 1) := by decide +kernel
theorem dX11_value_2 : decode cX11_value 2 = .ok (.aload_n 0, 1) := by decide +kernel
theorem dX11_value_3 : decode cX11_value 3 = .ok (.getfield 324, 3) := by decide +kernel
theorem dX11_value_6 : decode cX11_value 6 = .ok (.istore_n 2, 1) := by decide +kernel
theorem dX11_value_7 : decode cX11_value 7 = .ok (.iload_n 2, 1) := by decide +kernel
theorem dX11_value_8 : decode cX11_value 8 = .ok (.aload_n 0, 1) := by decide +kernel
theorem dX11_value_9 : decode cX11_value 9 = .ok (.getfield 321, 3) := by decide +kernel
theorem dX11_value_12 : decode cX11_value 12 = .ok (.if_icmp .ge 43, 3) := by decide +kernel
theorem dX11_value_15 : decode cX11_value 15 = .ok (.aload_n 0, 1) := by decide +kernel
theorem dX11_value_16 : decode cX11_value 16 = .ok (.getfield 327, 3) := by decide +kernel
theorem dX11_value_19 : decode cX11_value 19 = .ok (.iconst 2, 1) := by decide +kernel
theorem dX11_value_20 : decode cX11_value 20 = .ok (.if_icmp .ne 35, 3) := by decide +kernel
theorem dX11_value_23 : decode cX11_value 23 = .ok (.iload_n 1, 1) := by decide +kernel
theorem dX11_value_24 : decode cX11_value 24 = .ok (.ldc_w 369, 3) := by decide +kernel
theorem dX11_value_27 : decode cX11_value 27 = .ok (.if_icmp .le 7, 3) := by decide +kernel
theorem dX11_value_30 : decode cX11_value 30 = .ok (.iload_n 1, 1) := by decide +kernel
theorem dX11_value_31 : decode cX11_value 31 = .ok (.goto 17, 3) := by decide +kernel
theorem dX11_value_34 : decode cX11_value 34 = .ok (.bipush 10, 2) := by decide +kernel
theorem dX11_value_36 : decode cX11_value 36 = .ok (.iload_n 1, 1) := by decide +kernel
theorem dX11_value_37 : decode cX11_value 37 = .ok (.imul, 1) := by decide +kernel
theorem dX11_value_38 : decode cX11_value 38 = .ok (.aload_n 0, 1) := by decide +kernel
theorem dX11_value_39 : decode cX11_value 39 = .ok (.getfield 43, 3) := by decide +kernel
theorem dX11_value_42 : decode cX11_value 42 = .ok (.iload_n 2, 1) := by decide +kernel
theorem dX11_value_43 : decode cX11_value 43 = .ok (.iaload, 1) := by decide +kernel
theorem dX11_value_44 : decode cX11_value 44 = .ok (.iadd, 1) := by decide +kernel
theorem dX11_value_45 : decode cX11_value 45 = .ok (.bipush 48, 2) := by decide +kernel
theorem dX11_value_47 : decode cX11_value 47 = .ok (.isub, 1) := by decide +kernel
theorem dX11_value_48 : decode cX11_value 48 = .ok (.istore_n 1, 1) := by decide +kernel
theorem dX11_value_49 : decode cX11_value 49 = .ok (.iinc 2 1, 3) := by decide +kernel
theorem dX11_value_52 : decode cX11_value 52 = .ok (.goto (-45), 3) := by decide +kernel
theorem dX11_value_55 : decode cX11_value 55 = .ok (.iload_n 1, 1) := by decide +kernel
theorem dX11_value_56 : decode cX11_value 56 = .ok (.ireturn, 1) := by decide +kernel
theorem dX11_look_0 : decode cX11_look 0 = .ok (.aload_n 0, 1) := by decide +kernel
theorem dX11_look_1 : decode cX11_look 1 = .ok (.aload_n 0, 1) := by decide +kernel
theorem dX11_look_2 : decode cX11_look 2 = .ok (.getfield 327, 3) := by decide +kernel
theorem dX11_look_5 : decode cX11_look 5 = .ok (.iconst 2, 1) := by decide +kernel
theorem dX11_look_6 : decode cX11_look 6 = .ok (.if_icmp .ne 7, 3) := by decide +kernel
theorem dX11_look_9 : decode cX11_look 9 = .ok (.iconst 1, 1) := by decide +kernel
theorem dX11_look_10 : decode cX11_look 10 = .ok (.goto 4, 3) := by decide +kernel
theorem dX11_look_13 : decode cX11_look 13 = .ok (.iconst 0, 1) := by decide +kernel
theorem dX11_look_14 : decode cX11_look 14 = .ok (.iconst 1, 1) := by decide +kernel
theorem dX11_look_15 : decode cX11_look 15 = .ok (.invokevirtual 362, 3) := by decide +kernel
theorem dX11_look_18 : decode cX11_look 18 = .ok (.aload_n 0, 1) := by decide +kernel
theorem dX11_look_19 : decode cX11_look 19 = .ok (.invokevirtual 370, 3) := by decide +kernel
theorem dX11_look_22 : decode cX11_look 22 = .ok (.istore_n 3, 1) := by decide +kernel
theorem dX11_look_23 : decode cX11_look 23 = .ok (.aload_n 0, 1) := by decide +kernel
theorem dX11_look_24 : decode cX11_look 24 = .ok (.iload_n 3, 1) := by decide +kernel
theorem dX11_look_25 : decode cX11_look 25 = .ok (.iload_n 1, 1) := by decide +kernel
theorem dX11_look_26 : decode cX11_look 26 = .ok (.iload_n 2, 1) := by decide +kernel
theorem dX11_look_27 : decode cX11_look 27 = .ok (.invokestatic 91, 3) := by decide +kernel
theorem dX11_look_30 : decode cX11_look 30 = .ok (.iconst 2, 1) := by decide +kernel
theorem dX11_look_31 : decode cX11_look 31 = .ok (.invokevirtual 362, 3) := by decide +kernel
theorem dX11_look_34 : decode cX11_look 34 = .ok (.aload_n 0, 1) := by decide +kernel
theorem dX11_look_35 : decode cX11_look 35 = .ok (.getfield 336, 3) := by decide +kernel
theorem dX11_look_38 : decode cX11_look 38 = .ok (.ifCond .ne 7, 3) := by decide +kernel
theorem dX11_look_41 : decode cX11_look 41 = .ok (.iload_n 3, 1) := by decide +kernel
theorem dX11_look_42 : decode cX11_look 42 = .ok (.goto 4, 3) := by decide +kernel
theorem dX11_look_45 : decode cX11_look 45 = .ok (.iload_n 1, 1) := by decide +kernel
theorem dX11_look_46 : decode cX11_look 46 = .ok (.ireturn, 1) := by decide +kernel
theorem dX11_readNumber_0 : decode cX11_readNumber 0 = .ok (.aload_n 0, 1) := by decide +kernel
theorem dX11_readNumber_1 : decode cX11_readNumber 1 = .ok (.iload_n 1, 1) := by decide +kernel
theorem dX11_readNumber_2 : decode cX11_readNumber 2 = .ok (.iload_n 2, 1) := by decide +kernel
theorem dX11_readNumber_3 : decode cX11_readNumber 3 = .ok (.invokevirtual 373, 3) := by decide +kernel
theorem dX11_readNumber_6 : decode cX11_readNumber 6 = .ok (.istore_n 3, 1) := by decide +kernel
theorem dX11_readNumber_7 : decode cX11_readNumber 7 = .ok (.aload_n 0, 1) := by decide +kernel
theorem dX11_readNumber_8 : decode cX11_readNumber 8 = .ok (.invokevirtual 366, 3) := by decide +kernel
theorem dX11_readNumber_11 : decode cX11_readNumber 11 = .ok (.iload_n 3, 1) := by decide +kernel
theorem dX11_readNumber_12 : decode cX11_readNumber 12 = .ok (.ireturn, 1) := by decide +kernel
theorem dX11_readNewMark_0 : decode cX11_readNewMark 0 = .ok (.aload_n 0, 1) := by decide +kernel
theorem dX11_readNewMark_1 : decode cX11_readNewMark 1 = .ok (.iconst 0, 1) := by decide +kernel
theorem dX11_readNewMark_2 : decode cX11_readNewMark 2 = .ok (.sipush 9999, 3) := by decide +kernel
theorem dX11_readNewMark_5 : decode cX11_readNewMark 5 = .ok (.invokevirtual 373, 3) := by decide +kernel
theorem dX11_readNewMark_8 : decode cX11_readNewMark 8 = .ok (.istore_n 1, 1) := by decide +kernel
theorem dX11_readNewMark_9 : decode cX11_readNewMark 9 = .ok (.aload_n 0, 1) := by decide +kernel
theorem dX11_readNewMark_10 : decode cX11_readNewMark 10 = .ok (.aload_n 0, 1) := by decide +kernel
theorem dX11_readNewMark_11 : decode cX11_readNewMark 11 = .ok (.getfield 336, 3) := by decide +kernel
theorem dX11_readNewMark_14 : decode cX11_readNewMark 14 = .ok (.ifCond .ne 12, 3) := by decide +kernel
theorem dX11_readNewMark_17 : decode cX11_readNewMark 17 = .ok (.aload_n 0, 1) := by decide +kernel
theorem dX11_readNewMark_18 : decode cX11_readNewMark 18 = .ok (.iload_n 1, 1) := by decide +kernel
theorem dX11_readNewMark_19 : decode cX11_readNewMark 19 = .ok (.invokevirtual 198, 3) := by decide +kernel
theorem dX11_readNewMark_22 : decode cX11_readNewMark 22 = .ok (.iconst (-1), 1) := by decide +kernel
theorem dX11_readNewMark_23 : decode cX11_readNewMark 23 = .ok (.if_icmp .ne 7, 3) := by decide +kernel
theorem dX11_readNewMark_26 : decode cX11_readNewMark 26 = .ok (.iconst 1, 1) := by decide +kernel
theorem dX11_readNewMark_27 : decode cX11_readNewMark 27 = .ok (.goto 4, 3) := by decide +kernel
theorem dX11_readNewMark_30 : decode cX11_readNewMark 30 = .ok (.iconst 0, 1) := by decide +kernel
theorem dX11_readNewMark_31 : decode cX11_readNewMark 31 = .ok (.iconst 3, 1) := by decide +kernel
theorem dX11_readNewMark_32 : decode cX11_readNewMark 32 = .ok (.invokevirtual 362, 3) := by decide +kernel
theorem dX11_readNewMark_35 : decode cX11_readNewMark 35 = .ok (.aload_n 0, 1) := by decide +kernel
theorem dX11_readNewMark_36 : decode cX11_readNewMark 36 = .ok (.invokevirtual 366, 3) := by decide +kernel
theorem dX11_readNewMark_39 : decode cX11_readNewMark 39 = .ok (.iload_n 1, 1) := by decide +kernel
theorem dX11_readNewMark_40 : decode cX11_readNewMark 40 = .ok (.ireturn, 1) := by decide +kernel
theorem dX11_readFolder_0 : decode cX11_readFolder 0 = .ok (.aload_n 0, 1) := by decide +kernel
theorem dX11_readFolder_1 : decode cX11_readFolder 1 = .ok (.aload_n 0, 1) := by decide +kernel
theorem dX11_readFolder_2 : decode cX11_readFolder 2 = .ok (.getfield 336, 3) := by decide +kernel
theorem dX11_readFolder_5 : decode cX11_readFolder 5 = .ok (.ifCond .ne 13, 3) := by decide +kernel
theorem dX11_readFolder_8 : decode cX11_readFolder 8 = .ok (.aload_n 0, 1) := by decide +kernel
theorem dX11_readFolder_9 : decode cX11_readFolder 9 = .ok (.ldc_w 376, 3) := by decide +kernel
theorem dX11_readFolder_12 : decode cX11_readFolder 12 = .ok (.invokevirtual 355, 3) := by decide +kernel
theorem dX11_readFolder_15 : decode cX11_readFolder 15 = .ok (.ifCond .eq 7, 3) := by decide +kernel
theorem dX11_readFolder_18 : decode cX11_readFolder 18 = .ok (.iconst 1, 1) := by decide +kernel
theorem dX11_readFolder_19 : decode cX11_readFolder 19 = .ok (.goto 4, 3) := by decide +kernel
theorem dX11_readFolder_22 : decode cX11_readFolder 22 = .ok (.iconst 0, 1) := by decide +kernel
theorem dX11_readFolder_23 : decode cX11_readFolder 23 = .ok (.iconst 1, 1) := by decide +kernel
theorem dX11_readFolder_24 : decode cX11_readFolder 24 = .ok (.invokevirtual 362, 3) := by decide +kernel
theorem dX11_readFolder_27 : decode cX11_readFolder 27 = .ok (.aload_n 0, 1) := by decide +kernel
theorem dX11_readFolder_28 : decode cX11_readFolder 28 = .ok (.aload_n 0, 1) := by decide +kernel
theorem dX11_readFolder_29 : decode cX11_readFolder 29 = .ok (.getfield 336, 3) := by decide +kernel
theorem dX11_readFolder_32 : decode cX11_readFolder 32 = .ok (.ifCond .ne 14, 3) := by decide +kernel
theorem dX11_readFolder_35 : decode cX11_readFolder 35 = .ok (.aload_n 0, 1) := by decide +kernel
theorem dX11_readFolder_36 : decode cX11_readFolder 36 = .ok (.getfield 31, 3) := by decide +kernel
theorem dX11_readFolder_39 : decode cX11_readFolder 39 = .ok (.iconst 5, 1) := by decide +kernel
theorem dX11_readFolder_40 : decode cX11_readFolder 40 = .ok (.iaload, 1) := by decide +kernel
theorem dX11_readFolder_41 : decode cX11_readFolder 41 = .ok (.bipush 24, 2) := by decide +kernel
theorem dX11_readFolder_43 : decode cX11_readFolder 43 = .ok (.if_icmp .ge 7, 3) := by decide +kernel
theorem dX11_readFolder_46 : decode cX11_readFolder 46 = .ok (.iconst 1, 1) := by decide +kernel
theorem dX11_readFolder_47 : decode cX11_readFolder 47 = .ok (.goto 4, 3) := by decide +kernel
theorem dX11_readFolder_50 : decode cX11_readFolder 50 = .ok (.iconst 0, 1) := by decide +kernel
theorem dX11_readFolder_51 : decode cX11_readFolder 51 = .ok (.iconst 4, 1) := by decide +kernel
theorem dX11_readFolder_52 : decode cX11_readFolder 52 = .ok (.invokevirtual 362, 3) := by decide +kernel
theorem dX11_readFolder_55 : decode cX11_readFolder 55 = .ok (.aload_n 0, 1) := by decide +kernel
theorem dX11_readFolder_56 : decode cX11_readFolder 56 = .ok (.invokevirtual 366, 3) := by decide +kernel
theorem dX11_readFolder_59 : decode cX11_readFolder 59 = .ok (.aload_n 0, 1) := by decide +kernel
theorem dX11_readFolder_60 : decode cX11_readFolder 60 = .ok (.invokevirtual 378, 3) := by decide +kernel
theorem dX11_readFolder_63 : decode cX11_readFolder 63 = .ok (.istore_n 1, 1) := by decide +kernel
theorem dX11_readFolder_64 : decode cX11_readFolder 64 = .ok (.aload_n 0, 1) := by decide +kernel
theorem dX11_readFolder_65 : decode cX11_readFolder 65 = .ok (.ldc 67, 2) := by decide +kernel
theorem dX11_readFolder_67 : decode cX11_readFolder 67 = .ok (.invokevirtual 381, 3) := by decide +kernel
theorem dX11_readFolder_70 : decode cX11_readFolder 70 = .ok (.ifCond .eq 14, 3) := by decide +kernel
theorem dX11_readFolder_73 : decode cX11_readFolder 73 = .ok (.aload_n 0, 1) := by decide +kernel
theorem dX11_readFolder_74 : decode cX11_readFolder 74 = .ok (.iconst 0, 1) := by decide +kernel
theorem dX11_readFolder_75 : decode cX11_readFolder 75 = .ok (.sipush 999, 3) := by decide +kernel
theorem dX11_readFolder_78 : decode cX11_readFolder 78 = .ok (.invokevirtual 384, 3) := by decide +kernel
theorem dX11_readFolder_81 : decode cX11_readFolder 81 = .ok (.goto 4, 3) := by decide +kernel
theorem dX11_readFolder_84 : decode cX11_readFolder 84 = .ok (.iconst 0, 1) := by decide +kernel
theorem dX11_readFolder_85 : decode cX11_readFolder 85 = .ok (.istore_n 2, 1) := by decide +kernel
theorem dX11_readFolder_86 : decode cX11_readFolder 86 = .ok (.aload_n 0, 1) := by decide +kernel
theorem dX11_readFolder_87 : decode cX11_readFolder 87 = .ok (.bipush 59, 2) := by decide +kernel
theorem dX11_readFolder_89 : decode cX11_readFolder 89 = .ok (.invokevirtual 387, 3) := by decide +kernel
theorem dX11_readFolder_92 : decode cX11_readFolder 92 = .ok (.aload_n 0, 1) := by decide +kernel
theorem dX11_readFolder_93 : decode cX11_readFolder 93 = .ok (.getfield 336, 3) := by decide +kernel
theorem dX11_readFolder_96 : decode cX11_readFolder 96 = .ok (.ifCond .ne 9, 3) := by decide +kernel
theorem dX11_readFolder_99 : decode cX11_readFolder 99 = .ok (.aload_n 0, 1) := by decide +kernel
theorem dX11_readFolder_100 : decode cX11_readFolder 100 = .ok (.iload_n 1, 1) := by decide +kernel
theorem dX11_readFolder_101 : decode cX11_readFolder 101 = .ok (.iload_n 2, 1) := by decide +kernel
theorem dX11_readFolder_102 : decode cX11_readFolder 102 = .ok (.invokevirtual 77, 3) := by decide +kernel
theorem dX11_readFolder_105 : decode cX11_readFolder 105 = .ok (.return_, 1) := by decide +kernel
theorem dX11_readText_0 : decode cX11_readText 0 = .ok (.aload_n 0, 1) := by decide +kernel
theorem dX11_readText_1 : decode cX11_readText 1 = .ok (.aload_n 0, 1) := by decide +kernel
theorem dX11_readText_2 : decode cX11_readText 2 = .ok (.ldc_w 390, 3) := by decide +kernel
theorem dX11_readText_5 : decode cX11_readText 5 = .ok (.invokevirtual 355, 3) := by decide +kernel
theorem dX11_readText_8 : decode cX11_readText 8 = .ok (.iconst 1, 1) := by decide +kernel
theorem dX11_readText_9 : decode cX11_readText 9 = .ok (.invokevirtual 362, 3) := by decide +kernel
theorem dX11_readText_12 : decode cX11_readText 12 = .ok (.aload_n 0, 1) := by decide +kernel
theorem dX11_readText_13 : decode cX11_readText 13 = .ok (.invokevirtual 366, 3) := by decide +kernel
theorem dX11_readText_16 : decode cX11_readText 16 = .ok (.aload_n 0, 1) := by decide +kernel
theorem dX11_readText_17 : decode cX11_readText 17 = .ok (.iconst 1, 1) := by decide +kernel
theorem dX11_readText_18 : decode cX11_readText 18 = .ok (.bipush 14, 2) := by decide +kernel
theorem dX11_readText_20 : decode cX11_readText 20 = .ok (.invokevirtual 384, 3) := by decide +kernel
theorem dX11_readText_23 : decode cX11_readText 23 = .ok (.istore_n 1, 1) := by decide +kernel
theorem dX11_readText_24 : decode cX11_readText 24 = .ok (.aload_n 0, 1) := by decide +kernel
theorem dX11_readText_25 : decode cX11_readText 25 = .ok (.iconst 1, 1) := by decide +kernel
theorem dX11_readText_26 : decode cX11_readText 26 = .ok (.bipush 6, 2) := by decide +kernel
theorem dX11_readText_28 : decode cX11_readText 28 = .ok (.invokevirtual 384, 3) := by decide +kernel
theorem dX11_readText_31 : decode cX11_readText 31 = .ok (.istore_n 2, 1) := by decide +kernel
theorem dX11_readText_32 : decode cX11_readText 32 = .ok (.aload_n 0, 1) := by decide +kernel
theorem dX11_readText_33 : decode cX11_readText 33 = .ok (.iconst 1, 1) := by decide +kernel
theorem dX11_readText_34 : decode cX11_readText 34 = .ok (.bipush 8, 2) := by decide +kernel
theorem dX11_readText_36 : decode cX11_readText 36 = .ok (.invokevirtual 384, 3) := by decide +kernel
theorem dX11_readText_39 : decode cX11_readText 39 = .ok (.istore_n 3, 1) := by decide +kernel
theorem dX11_readText_40 : decode cX11_readText 40 = .ok (.aload_n 0, 1) := by decide +kernel
theorem dX11_readText_41 : decode cX11_readText 41 = .ok (.iconst 1, 1) := by decide +kernel
theorem dX11_readText_42 : decode cX11_readText 42 = .ok (.iconst 5, 1) := by decide +kernel
theorem dX11_readText_43 : decode cX11_readText 43 = .ok (.invokevirtual 384, 3) := by decide +kernel
theorem dX11_readText_46 : decode cX11_readText 46 = .ok (.istore 4, 2) := by decide +kernel
theorem dX11_readText_48 : decode cX11_readText 48 = .ok (.aload_n 0, 1) := by decide +kernel
theorem dX11_readText_49 : decode cX11_readText 49 = .ok (.iload_n 1, 1) := by decide +kernel
theorem dX11_readText_50 : decode cX11_readText 50 = .ok (.iload_n 2, 1) := by decide +kernel
theorem dX11_readText_51 : decode cX11_readText 51 = .ok (.iload_n 3, 1) := by decide +kernel
theorem dX11_readText_52 : decode cX11_readText 52 = .ok (.iload 4, 2) := by decide +kernel
theorem dX11_readText_54 : decode cX11_readText 54 = .ok (.invokevirtual 73, 3) := by decide +kernel
theorem dX11_readText_57 : decode cX11_readText 57 = .ok (.aload_n 0, 1) := by decide +kernel
theorem dX11_readText_58 : decode cX11_readText 58 = .ok (.bipush 59, 2) := by decide +kernel
theorem dX11_readText_60 : decode cX11_readText 60 = .ok (.invokevirtual 387, 3) := by decide +kernel
theorem dX11_readText_63 : decode cX11_readText 63 = .ok (.aload_n 0, 1) := by decide +kernel
theorem dX11_readText_64 : decode cX11_readText 64 = .ok (.invokevirtual 392, 3) := by decide +kernel
theorem dX11_readText_67 : decode cX11_readText 67 = .ok (.aload_n 0, 1) := by decide +kernel
theorem dX11_readText_68 : decode cX11_readText 68 = .ok (.getfield 336, 3) := by decide +kernel
theorem dX11_readText_71 : decode cX11_readText 71 = .ok (.ifCond .ne 17, 3) := by decide +kernel
theorem dX11_readText_74 : decode cX11_readText 74 = .ok (.aload_n 0, 1) := by decide +kernel
theorem dX11_readText_75 : decode cX11_readText 75 = .ok (.getfield 327, 3) := by decide +kernel
theorem dX11_readText_78 : decode cX11_readText 78 = .ok (.ifCond .eq 10, 3) := by decide +kernel
theorem dX11_readText_81 : decode cX11_readText 81 = .ok (.aload_n 0, 1) := by decide +kernel
theorem dX11_readText_82 : decode cX11_readText 82 = .ok (.invokevirtual 392, 3) := by decide +kernel
theorem dX11_readText_85 : decode cX11_readText 85 = .ok (.goto (-18), 3) := by decide +kernel
theorem dX11_readText_88 : decode cX11_readText 88 = .ok (.return_, 1) := by decide +kernel
theorem dX11_load_0 : decode cX11_load 0 = .ok (.aload_n 0, 1) := by decide +kernel
theorem dX11_load_1 : decode cX11_load 1 = .ok (.iconst 0, 1) := by decide +kernel
theorem dX11_load_2 : decode cX11_load 2 = .ok (.putfield 81, 3) := by decide +kernel
theorem dX11_load_5 : decode cX11_load 5 = .ok (.iload_n 1, 1) := by decide +kernel
theorem dX11_load_6 : decode cX11_load 6 = .ok (.iconst 0, 1) := by decide +kernel
theorem dX11_load_7 : decode cX11_load 7 = .ok (.aload_n 0, 1) := by decide +kernel
theorem dX11_load_8 : decode cX11_load 8 = .ok (.getfield 312, 3) := by decide +kernel
theorem dX11_load_11 : decode cX11_load 11 = .ok (.invokestatic 91, 3) := by decide +kernel
theorem dX11_load_14 : decode cX11_load 14 = .ok (.ifCond .ne 9, 3) := by decide +kernel
theorem dX11_load_17 : decode cX11_load 17 = .ok (.aload_n 0, 1) := by decide +kernel
theorem dX11_load_18 : decode cX11_load 18 = .ok (.iconst 1, 1) := by decide +kernel
theorem dX11_load_19 : decode cX11_load 19 = .ok (.invokevirtual 195, 3) := by decide +kernel
theorem dX11_load_22 : decode cX11_load 22 = .ok (.ireturn, 1) := by decide +kernel
theorem dX11_load_23 : decode cX11_load 23 = .ok (.aload_n 0, 1) := by decide +kernel
theorem dX11_load_24 : decode cX11_load 24 = .ok (.iload_n 1, 1) := by decide +kernel
theorem dX11_load_25 : decode cX11_load 25 = .ok (.invokevirtual 395, 3) := by decide +kernel
theorem dX11_load_28 : decode cX11_load 28 = .ok (.aload_n 0, 1) := by decide +kernel
theorem dX11_load_29 : decode cX11_load 29 = .ok (.aload_n 0, 1) := by decide +kernel
theorem dX11_load_30 : decode cX11_load 30 = .ok (.getfield 13, 3) := by decide +kernel
theorem dX11_load_33 : decode cX11_load 33 = .ok (.putfield 31, 3) := by decide +kernel
theorem dX11_load_36 : decode cX11_load 36 = .ok (.aload_n 0, 1) := by decide +kernel
theorem dX11_load_37 : decode cX11_load 37 = .ok (.invokevirtual 398, 3) := by decide +kernel
theorem dX11_load_40 : decode cX11_load 40 = .ok (.aload_n 0, 1) := by decide +kernel
theorem dX11_load_41 : decode cX11_load 41 = .ok (.aload_n 0, 1) := by decide +kernel
theorem dX11_load_42 : decode cX11_load 42 = .ok (.getfield 9, 3) := by decide +kernel
theorem dX11_load_45 : decode cX11_load 45 = .ok (.putfield 31, 3) := by decide +kernel
theorem dX11_load_48 : decode cX11_load 48 = .ok (.aload_n 0, 1) := by decide +kernel
theorem dX11_load_49 : decode cX11_load 49 = .ok (.invokevirtual 401, 3) := by decide +kernel
theorem dX11_load_52 : decode cX11_load 52 = .ok (.ifCond .eq 11, 3) := by decide +kernel
theorem dX11_load_55 : decode cX11_load 55 = .ok (.bipush (-10), 2) := by decide +kernel
theorem dX11_load_57 : decode cX11_load 57 = .ok (.aload_n 0, 1) := by decide +kernel
theorem dX11_load_58 : decode cX11_load 58 = .ok (.getfield 336, 3) := by decide +kernel
theorem dX11_load_61 : decode cX11_load 61 = .ok (.isub, 1) := by decide +kernel
theorem dX11_load_62 : decode cX11_load 62 = .ok (.ireturn, 1) := by decide +kernel
theorem dX11_load_63 : decode cX11_load 63 = .ok (.aload_n 0, 1) := by decide +kernel
theorem dX11_load_64 : decode cX11_load 64 = .ok (.getfield 13, 3) := by decide +kernel
theorem dX11_load_67 : decode cX11_load 67 = .ok (.iconst 0, 1) := by decide +kernel
theorem dX11_load_68 : decode cX11_load 68 = .ok (.aload_n 0, 1) := by decide +kernel
theorem dX11_load_69 : decode cX11_load 69 = .ok (.getfield 9, 3) := by decide +kernel
theorem dX11_load_72 : decode cX11_load 72 = .ok (.iconst 0, 1) := by decide +kernel
theorem dX11_load_73 : decode cX11_load 73 = .ok (.invokestatic 238, 3) := by decide +kernel
theorem dX11_load_76 : decode cX11_load 76 = .ok (.aload_n 0, 1) := by decide +kernel
theorem dX11_load_77 : decode cX11_load 77 = .ok (.iconst 0, 1) := by decide +kernel
theorem dX11_load_78 : decode cX11_load 78 = .ok (.putfield 263, 3) := by decide +kernel
theorem dX11_load_81 : decode cX11_load 81 = .ok (.aload_n 0, 1) := by decide +kernel
theorem dX11_load_82 : decode cX11_load 82 = .ok (.iconst 0, 1) := by decide +kernel
theorem dX11_load_83 : decode cX11_load 83 = .ok (.putfield 308, 3) := by decide +kernel
theorem dX11_load_86 : decode cX11_load 86 = .ok (.aload_n 0, 1) := by decide +kernel
theorem dX11_load_87 : decode cX11_load 87 = .ok (.getfield 31, 3) := by decide +kernel
theorem dX11_load_90 : decode cX11_load 90 = .ok (.iconst 5, 1) := by decide +kernel
theorem dX11_load_91 : decode cX11_load 91 = .ok (.iaload, 1) := by decide +kernel
theorem dX11_load_92 : decode cX11_load 92 = .ok (.ireturn, 1) := by decide +kernel
theorem dX11_orderHere_0 : decode cX11_orderHere 0 = .ok (.iconst 0, 1) := by decide +kernel
theorem dX11_orderHere_1 : decode cX11_orderHere 1 = .ok (.istore_n 1, 1) := by decide +kernel
theorem dX11_orderHere_2 : decode cX11_orderHere 2 = .ok (.iload_n 1, 1) := by decide +kernel
theorem dX11_orderHere_3 : decode cX11_orderHere 3 = .ok (.aload_n 0, 1) := by decide +kernel
theorem dX11_orderHere_4 : decode cX11_orderHere 4 = .ok (.getfield 69, 3) := by decide +kernel
theorem dX11_orderHere_7 : decode cX11_orderHere 7 = .ok (.arraylength, 1) := by decide +kernel
theorem dX11_orderHere_8 : decode cX11_orderHere 8 = .ok (.if_icmp .ge 24, 3) := by decide +kernel
theorem dX11_orderHere_11 : decode cX11_orderHere 11 = .ok (.aload_n 0, 1) := by decide +kernel
theorem dX11_orderHere_12 : decode cX11_orderHere 12 = .ok (.aload_n 0, 1) := by decide +kernel
theorem dX11_orderHere_13 : decode cX11_orderHere 13 = .ok (.getfield 69, 3) := by decide +kernel
theorem dX11_orderHere_16 : decode cX11_orderHere 16 = .ok (.iload_n 1, 1) := by decide +kernel
theorem dX11_orderHere_17 : decode cX11_orderHere 17 = .ok (.aaload, 1) := by decide +kernel
theorem dX11_orderHere_18 : decode cX11_orderHere 18 = .ok (.invokevirtual 355, 3) := by decide +kernel
theorem dX11_orderHere_21 : decode cX11_orderHere 21 = .ok (.ifCond .eq 5, 3) := by decide +kernel
theorem dX11_orderHere_24 : decode cX11_orderHere 24 = .ok (.iload_n 1, 1) := by decide +kernel
theorem dX11_orderHere_25 : decode cX11_orderHere 25 = .ok (.ireturn, 1) := by decide +kernel
theorem dX11_orderHere_26 : decode cX11_orderHere 26 = .ok (.iinc 1 1, 3) := by decide +kernel
theorem dX11_orderHere_29 : decode cX11_orderHere 29 = .ok (.goto (-27), 3) := by decide +kernel
theorem dX11_orderHere_32 : decode cX11_orderHere 32 = .ok (.iconst (-1), 1) := by decide +kernel
theorem dX11_orderHere_33 : decode cX11_orderHere 33 = .ok (.ireturn, 1) := by decide +kernel
theorem dX11_readFirst_0 : decode cX11_readFirst 0 = .ok (.iload_n 1, 1) := by decide +kernel
theorem dX11_readFirst_1 : decode cX11_readFirst 1 = .ok (.tableswitch 71 0 5 #[39, 47, 71, 55, 71, 63], 39) := by decide +kernel
theorem dX11_readFirst_40 : decode cX11_readFirst 40 = .ok (.aload_n 0, 1) := by decide +kernel
theorem dX11_readFirst_41 : decode cX11_readFirst 41 = .ok (.iconst 0, 1) := by decide +kernel
theorem dX11_readFirst_42 : decode cX11_readFirst 42 = .ok (.bipush 7, 2) := by decide +kernel
theorem dX11_readFirst_44 : decode cX11_readFirst 44 = .ok (.invokevirtual 384, 3) := by decide +kernel
theorem dX11_readFirst_47 : decode cX11_readFirst 47 = .ok (.ireturn, 1) := by decide +kernel
theorem dX11_readFirst_48 : decode cX11_readFirst 48 = .ok (.aload_n 0, 1) := by decide +kernel
theorem dX11_readFirst_49 : decode cX11_readFirst 49 = .ok (.iconst 0, 1) := by decide +kernel
theorem dX11_readFirst_50 : decode cX11_readFirst 50 = .ok (.bipush 15, 2) := by decide +kernel
theorem dX11_readFirst_52 : decode cX11_readFirst 52 = .ok (.invokevirtual 384, 3) := by decide +kernel
theorem dX11_readFirst_55 : decode cX11_readFirst 55 = .ok (.ireturn, 1) := by decide +kernel
theorem dX11_readFirst_56 : decode cX11_readFirst 56 = .ok (.aload_n 0, 1) := by decide +kernel
theorem dX11_readFirst_57 : decode cX11_readFirst 57 = .ok (.iconst 1, 1) := by decide +kernel
theorem dX11_readFirst_58 : decode cX11_readFirst 58 = .ok (.bipush 60, 2) := by decide +kernel
theorem dX11_readFirst_60 : decode cX11_readFirst 60 = .ok (.invokevirtual 384, 3) := by decide +kernel
theorem dX11_readFirst_63 : decode cX11_readFirst 63 = .ok (.ireturn, 1) := by decide +kernel
theorem dX11_readFirst_64 : decode cX11_readFirst 64 = .ok (.aload_n 0, 1) := by decide +kernel
theorem dX11_readFirst_65 : decode cX11_readFirst 65 = .ok (.iconst 1, 1) := by decide +kernel
theorem dX11_readFirst_66 : decode cX11_readFirst 66 = .ok (.bipush 99, 2) := by decide +kernel
theorem dX11_readFirst_68 : decode cX11_readFirst 68 = .ok (.invokevirtual 384, 3) := by decide +kernel
theorem dX11_readFirst_71 : decode cX11_readFirst 71 = .ok (.ireturn, 1) := by decide +kernel
theorem dX11_readFirst_72 : decode cX11_readFirst 72 = .ok (.aload_n 0, 1) := by decide +kernel
theorem dX11_readFirst_73 : decode cX11_readFirst 73 = .ok (.iconst 0, 1) := by decide +kernel
theorem dX11_readFirst_74 : decode cX11_readFirst 74 = .ok (.sipush 9999, 3) := by decide +kernel
theorem dX11_readFirst_77 : decode cX11_readFirst 77 = .ok (.invokevirtual 384, 3) := by decide +kernel
theorem dX11_readFirst_80 : decode cX11_readFirst 80 = .ok (.ireturn, 1) := by decide +kernel
theorem dX11_readSecond_0 : decode cX11_readSecond 0 = .ok (.iload_n 1, 1) := by decide +kernel
theorem dX11_readSecond_1 : decode cX11_readSecond 1 = .ok (.lookupswitch 61 #[(0, 35), (4, 44), (6, 52)], 35) := by decide +kernel
theorem dX11_readSecond_36 : decode cX11_readSecond 36 = .ok (.aload_n 0, 1) := by decide +kernel
theorem dX11_readSecond_37 : decode cX11_readSecond 37 = .ok (.iconst 0, 1) := by decide +kernel
theorem dX11_readSecond_38 : decode cX11_readSecond 38 = .ok (.sipush 9999, 3) := by decide +kernel
theorem dX11_readSecond_41 : decode cX11_readSecond 41 = .ok (.invokevirtual 384, 3) := by decide +kernel
theorem dX11_readSecond_44 : decode cX11_readSecond 44 = .ok (.ireturn, 1) := by decide +kernel
theorem dX11_readSecond_45 : decode cX11_readSecond 45 = .ok (.aload_n 0, 1) := by decide +kernel
theorem dX11_readSecond_46 : decode cX11_readSecond 46 = .ok (.iconst 0, 1) := by decide +kernel
theorem dX11_readSecond_47 : decode cX11_readSecond 47 = .ok (.bipush 23, 2) := by decide +kernel
theorem dX11_readSecond_49 : decode cX11_readSecond 49 = .ok (.invokevirtual 384, 3) := by decide +kernel
theorem dX11_readSecond_52 : decode cX11_readSecond 52 = .ok (.ireturn, 1) := by decide +kernel
theorem dX11_readSecond_53 : decode cX11_readSecond 53 = .ok (.aload_n 0, 1) := by decide +kernel
theorem dX11_readSecond_54 : decode cX11_readSecond 54 = .ok (.iconst 0, 1) := by decide +kernel
theorem dX11_readSecond_55 : decode cX11_readSecond 55 = .ok (.sipush 999, 3) := by decide +kernel
theorem dX11_readSecond_58 : decode cX11_readSecond 58 = .ok (.invokevirtual 384, 3) := by decide +kernel
theorem dX11_readSecond_61 : decode cX11_readSecond 61 = .ok (.ireturn, 1) := by decide +kernel
theorem dX11_readSecond_62 : decode cX11_readSecond 62 = .ok (.iconst 0, 1) := by decide +kernel
theorem dX11_readSecond_63 : decode cX11_readSecond 63 = .ok (.ireturn, 1) := by decide +kernel
theorem dX11_readOrder_0 : decode cX11_readOrder 0 = .ok (.aload_n 0, 1) := by decide +kernel
theorem dX11_readOrder_1 : decode cX11_readOrder 1 = .ok (.invokevirtual 404, 3) := by decide +kernel
theorem dX11_readOrder_4 : decode cX11_readOrder 4 = .ok (.istore_n 1, 1) := by decide +kernel
theorem dX11_readOrder_5 : decode cX11_readOrder 5 = .ok (.aload_n 0, 1) := by decide +kernel
theorem dX11_readOrder_6 : decode cX11_readOrder 6 = .ok (.iload_n 1, 1) := by decide +kernel
theorem dX11_readOrder_7 : decode cX11_readOrder 7 = .ok (.iconst (-1), 1) := by decide +kernel
theorem dX11_readOrder_8 : decode cX11_readOrder 8 = .ok (.if_icmp .eq 7, 3) := by decide +kernel
theorem dX11_readOrder_11 : decode cX11_readOrder 11 = .ok (.iconst 1, 1) := by decide +kernel
theorem dX11_readOrder_12 : decode cX11_readOrder 12 = .ok (.goto 4, 3) := by decide +kernel
theorem dX11_readOrder_15 : decode cX11_readOrder 15 = .ok (.iconst 0, 1) := by decide +kernel
theorem dX11_readOrder_16 : decode cX11_readOrder 16 = .ok (.iconst 1, 1) := by decide +kernel
theorem dX11_readOrder_17 : decode cX11_readOrder 17 = .ok (.invokevirtual 362, 3) := by decide +kernel
theorem dX11_readOrder_20 : decode cX11_readOrder 20 = .ok (.aload_n 0, 1) := by decide +kernel
theorem dX11_readOrder_21 : decode cX11_readOrder 21 = .ok (.aload_n 0, 1) := by decide +kernel
theorem dX11_readOrder_22 : decode cX11_readOrder 22 = .ok (.getfield 336, 3) := by decide +kernel
theorem dX11_readOrder_25 : decode cX11_readOrder 25 = .ok (.ifCond .ne 12, 3) := by decide +kernel
theorem dX11_readOrder_28 : decode cX11_readOrder 28 = .ok (.aload_n 0, 1) := by decide +kernel
theorem dX11_readOrder_29 : decode cX11_readOrder 29 = .ok (.getfield 407, 3) := by decide +kernel
theorem dX11_readOrder_32 : decode cX11_readOrder 32 = .ok (.bipush 20, 2) := by decide +kernel
theorem dX11_readOrder_34 : decode cX11_readOrder 34 = .ok (.if_icmp .ge 7, 3) := by decide +kernel
theorem dX11_readOrder_37 : decode cX11_readOrder 37 = .ok (.iconst 1, 1) := by decide +kernel
theorem dX11_readOrder_38 : decode cX11_readOrder 38 = .ok (.goto 4, 3) := by decide +kernel
theorem dX11_readOrder_41 : decode cX11_readOrder 41 = .ok (.iconst 0, 1) := by decide +kernel
theorem dX11_readOrder_42 : decode cX11_readOrder 42 = .ok (.iconst 4, 1) := by decide +kernel
theorem dX11_readOrder_43 : decode cX11_readOrder 43 = .ok (.invokevirtual 362, 3) := by decide +kernel
theorem dX11_readOrder_46 : decode cX11_readOrder 46 = .ok (.aload_n 0, 1) := by decide +kernel
theorem dX11_readOrder_47 : decode cX11_readOrder 47 = .ok (.invokevirtual 366, 3) := by decide +kernel
theorem dX11_readOrder_50 : decode cX11_readOrder 50 = .ok (.aload_n 0, 1) := by decide +kernel
theorem dX11_readOrder_51 : decode cX11_readOrder 51 = .ok (.getfield 336, 3) := by decide +kernel
theorem dX11_readOrder_54 : decode cX11_readOrder 54 = .ok (.ifCond .eq 4, 3) := by decide +kernel
theorem dX11_readOrder_57 : decode cX11_readOrder 57 = .ok (.return_, 1) := by decide +kernel
theorem dX11_readOrder_58 : decode cX11_readOrder 58 = .ok (.iconst 3, 1) := by decide +kernel
theorem dX11_readOrder_59 : decode cX11_readOrder 59 = .ok (.aload_n 0, 1) := by decide +kernel
theorem dX11_readOrder_60 : decode cX11_readOrder 60 = .ok (.getfield 407, 3) := by decide +kernel
theorem dX11_readOrder_63 : decode cX11_readOrder 63 = .ok (.imul, 1) := by decide +kernel
theorem dX11_readOrder_64 : decode cX11_readOrder 64 = .ok (.istore_n 2, 1) := by decide +kernel
theorem dX11_readOrder_65 : decode cX11_readOrder 65 = .ok (.aload_n 0, 1) := by decide +kernel
theorem dX11_readOrder_66 : decode cX11_readOrder 66 = .ok (.getfield 50, 3) := by decide +kernel
theorem dX11_readOrder_69 : decode cX11_readOrder 69 = .ok (.iload_n 2, 1) := by decide +kernel
theorem dX11_readOrder_70 : decode cX11_readOrder 70 = .ok (.iload_n 1, 1) := by decide +kernel
theorem dX11_readOrder_71 : decode cX11_readOrder 71 = .ok (.iastore, 1) := by decide +kernel
theorem dX11_readOrder_72 : decode cX11_readOrder 72 = .ok (.aload_n 0, 1) := by decide +kernel
theorem dX11_readOrder_73 : decode cX11_readOrder 73 = .ok (.getfield 50, 3) := by decide +kernel
theorem dX11_readOrder_76 : decode cX11_readOrder 76 = .ok (.iload_n 2, 1) := by decide +kernel
theorem dX11_readOrder_77 : decode cX11_readOrder 77 = .ok (.iconst 1, 1) := by decide +kernel
theorem dX11_readOrder_78 : decode cX11_readOrder 78 = .ok (.iadd, 1) := by decide +kernel
theorem dX11_readOrder_79 : decode cX11_readOrder 79 = .ok (.aload_n 0, 1) := by decide +kernel
theorem dX11_readOrder_80 : decode cX11_readOrder 80 = .ok (.iload_n 1, 1) := by decide +kernel
theorem dX11_readOrder_81 : decode cX11_readOrder 81 = .ok (.invokevirtual 410, 3) := by decide +kernel
theorem dX11_readOrder_84 : decode cX11_readOrder 84 = .ok (.iastore, 1) := by decide +kernel
theorem dX11_readOrder_85 : decode cX11_readOrder 85 = .ok (.aload_n 0, 1) := by decide +kernel
theorem dX11_readOrder_86 : decode cX11_readOrder 86 = .ok (.getfield 50, 3) := by decide +kernel
theorem dX11_readOrder_89 : decode cX11_readOrder 89 = .ok (.iload_n 2, 1) := by decide +kernel
theorem dX11_readOrder_90 : decode cX11_readOrder 90 = .ok (.iconst 2, 1) := by decide +kernel
theorem dX11_readOrder_91 : decode cX11_readOrder 91 = .ok (.iadd, 1) := by decide +kernel
theorem dX11_readOrder_92 : decode cX11_readOrder 92 = .ok (.aload_n 0, 1) := by decide +kernel
theorem dX11_readOrder_93 : decode cX11_readOrder 93 = .ok (.iload_n 1, 1) := by decide +kernel
theorem dX11_readOrder_94 : decode cX11_readOrder 94 = .ok (.invokevirtual 413, 3) := by decide +kernel
theorem dX11_readOrder_97 : decode cX11_readOrder 97 = .ok (.iastore, 1) := by decide +kernel
theorem dX11_readOrder_98 : decode cX11_readOrder 98 = .ok (.aload_n 0, 1) := by decide +kernel
theorem dX11_readOrder_99 : decode cX11_readOrder 99 = .ok (.bipush 59, 2) := by decide +kernel
theorem dX11_readOrder_101 : decode cX11_readOrder 101 = .ok (.invokevirtual 387, 3) := by decide +kernel
theorem dX11_readOrder_104 : decode cX11_readOrder 104 = .ok (.aload_n 0, 1) := by decide +kernel
theorem dX11_readOrder_105 : decode cX11_readOrder 105 = .ok (.dup, 1) := by decide +kernel
theorem dX11_readOrder_106 : decode cX11_readOrder 106 = .ok (.getfield 407, 3) := by decide +kernel
theorem dX11_readOrder_109 : decode cX11_readOrder 109 = .ok (.iconst 1, 1) := by decide +kernel
theorem dX11_readOrder_110 : decode cX11_readOrder 110 = .ok (.iadd, 1) := by decide +kernel
theorem dX11_readOrder_111 : decode cX11_readOrder 111 = .ok (.putfield 407, 3) := by decide +kernel
theorem dX11_readOrder_114 : decode cX11_readOrder 114 = .ok (.return_, 1) := by decide +kernel
theorem dX11_doesFolder_0 : decode cX11_doesFolder 0 = .ok (.iload_n 2, 1) := by decide +kernel
theorem dX11_doesFolder_1 : decode cX11_doesFolder 1 = .ok (.iconst (-1), 1) := by decide +kernel
theorem dX11_doesFolder_2 : decode cX11_doesFolder 2 = .ok (.if_icmp .ne 9, 3) := by decide +kernel
theorem dX11_doesFolder_5 : decode cX11_doesFolder 5 = .ok (.aload_n 0, 1) := by decide +kernel
theorem dX11_doesFolder_6 : decode cX11_doesFolder 6 = .ok (.iconst (-1), 1) := by decide +kernel
theorem dX11_doesFolder_7 : decode cX11_doesFolder 7 = .ok (.invokevirtual 257, 3) := by decide +kernel
theorem dX11_doesFolder_10 : decode cX11_doesFolder 10 = .ok (.ireturn, 1) := by decide +kernel
theorem dX11_doesFolder_11 : decode cX11_doesFolder 11 = .ok (.iload_n 1, 1) := by decide +kernel
theorem dX11_doesFolder_12 : decode cX11_doesFolder 12 = .ok (.lookupswitch 41 #[(2, 28), (4, 34)], 28) := by decide +kernel
theorem dX11_doesFolder_40 : decode cX11_doesFolder 40 = .ok (.aload_n 0, 1) := by decide +kernel
theorem dX11_doesFolder_41 : decode cX11_doesFolder 41 = .ok (.iload_n 2, 1) := by decide +kernel
theorem dX11_doesFolder_42 : decode cX11_doesFolder 42 = .ok (.invokevirtual 281, 3) := by decide +kernel
theorem dX11_doesFolder_45 : decode cX11_doesFolder 45 = .ok (.ireturn, 1) := by decide +kernel
theorem dX11_doesFolder_46 : decode cX11_doesFolder 46 = .ok (.aload_n 0, 1) := by decide +kernel
theorem dX11_doesFolder_47 : decode cX11_doesFolder 47 = .ok (.iload_n 2, 1) := by decide +kernel
theorem dX11_doesFolder_48 : decode cX11_doesFolder 48 = .ok (.iload_n 3, 1) := by decide +kernel
theorem dX11_doesFolder_49 : decode cX11_doesFolder 49 = .ok (.invokevirtual 287, 3) := by decide +kernel
theorem dX11_doesFolder_52 : decode cX11_doesFolder 52 = .ok (.ireturn, 1) := by decide +kernel
theorem dX11_doesFolder_53 : decode cX11_doesFolder 53 = .ok (.aload_n 0, 1) := by decide +kernel
theorem dX11_doesFolder_54 : decode cX11_doesFolder 54 = .ok (.iload_n 2, 1) := by decide +kernel
theorem dX11_doesFolder_55 : decode cX11_doesFolder 55 = .ok (.iload_n 3, 1) := by decide +kernel
theorem dX11_doesFolder_56 : decode cX11_doesFolder 56 = .ok (.invokevirtual 296, 3) := by decide +kernel
theorem dX11_doesFolder_59 : decode cX11_doesFolder 59 = .ok (.ireturn, 1) := by decide +kernel
theorem dX11_doesSlip_0 : decode cX11_doesSlip 0 = .ok (.aload_n 0, 1) := by decide +kernel
theorem dX11_doesSlip_1 : decode cX11_doesSlip 1 = .ok (.iload_n 1, 1) := by decide +kernel
theorem dX11_doesSlip_2 : decode cX11_doesSlip 2 = .ok (.iload_n 2, 1) := by decide +kernel
theorem dX11_doesSlip_3 : decode cX11_doesSlip 3 = .ok (.invokevirtual 226, 3) := by decide +kernel
theorem dX11_doesSlip_6 : decode cX11_doesSlip 6 = .ok (.ifCond .eq 12, 3) := by decide +kernel
theorem dX11_doesSlip_9 : decode cX11_doesSlip 9 = .ok (.aload_n 0, 1) := by decide +kernel
theorem dX11_doesSlip_10 : decode cX11_doesSlip 10 = .ok (.iload_n 1, 1) := by decide +kernel
theorem dX11_doesSlip_11 : decode cX11_doesSlip 11 = .ok (.iload_n 2, 1) := by decide +kernel
theorem dX11_doesSlip_12 : decode cX11_doesSlip 12 = .ok (.invokevirtual 272, 3) := by decide +kernel
theorem dX11_doesSlip_15 : decode cX11_doesSlip 15 = .ok (.goto 8, 3) := by decide +kernel
theorem dX11_doesSlip_18 : decode cX11_doesSlip 18 = .ok (.aload_n 0, 1) := by decide +kernel
theorem dX11_doesSlip_19 : decode cX11_doesSlip 19 = .ok (.iconst (-1), 1) := by decide +kernel
theorem dX11_doesSlip_20 : decode cX11_doesSlip 20 = .ok (.invokevirtual 257, 3) := by decide +kernel
theorem dX11_doesSlip_23 : decode cX11_doesSlip 23 = .ok (.ireturn, 1) := by decide +kernel
theorem dX11_does_0 : decode cX11_does 0 = .ok (.aload_n 0, 1) := by decide +kernel
theorem dX11_does_1 : decode cX11_does 1 = .ok (.getfield 50, 3) := by decide +kernel
theorem dX11_does_4 : decode cX11_does 4 = .ok (.iload_n 1, 1) := by decide +kernel
theorem dX11_does_5 : decode cX11_does 5 = .ok (.iconst 1, 1) := by decide +kernel
theorem dX11_does_6 : decode cX11_does 6 = .ok (.iadd, 1) := by decide +kernel
theorem dX11_does_7 : decode cX11_does 7 = .ok (.iaload, 1) := by decide +kernel
theorem dX11_does_8 : decode cX11_does 8 = .ok (.istore_n 2, 1) := by decide +kernel
theorem dX11_does_9 : decode cX11_does 9 = .ok (.aload_n 0, 1) := by decide +kernel
theorem dX11_does_10 : decode cX11_does 10 = .ok (.getfield 50, 3) := by decide +kernel
theorem dX11_does_13 : decode cX11_does 13 = .ok (.iload_n 1, 1) := by decide +kernel
theorem dX11_does_14 : decode cX11_does 14 = .ok (.iconst 2, 1) := by decide +kernel
theorem dX11_does_15 : decode cX11_does 15 = .ok (.iadd, 1) := by decide +kernel
theorem dX11_does_16 : decode cX11_does 16 = .ok (.iaload, 1) := by decide +kernel
theorem dX11_does_17 : decode cX11_does 17 = .ok (.istore_n 3, 1) := by decide +kernel
theorem dX11_does_18 : decode cX11_does 18 = .ok (.aload_n 0, 1) := by decide +kernel
theorem dX11_does_19 : decode cX11_does 19 = .ok (.getfield 50, 3) := by decide +kernel
theorem dX11_does_22 : decode cX11_does 22 = .ok (.iload_n 1, 1) := by decide +kernel
theorem dX11_does_23 : decode cX11_does 23 = .ok (.iaload, 1) := by decide +kernel
theorem dX11_does_24 : decode cX11_does 24 = .ok (.tableswitch 69 0 5 #[40, 51, 69, 57, 69, 63], 40) := by decide +kernel
theorem dX11_does_64 : decode cX11_does 64 = .ok (.aload_n 0, 1) := by decide +kernel
theorem dX11_does_65 : decode cX11_does 65 = .ok (.iload_n 2, 1) := by decide +kernel
theorem dX11_does_66 : decode cX11_does 66 = .ok (.aload_n 0, 1) := by decide +kernel
theorem dX11_does_67 : decode cX11_does 67 = .ok (.iload_n 3, 1) := by decide +kernel
theorem dX11_does_68 : decode cX11_does 68 = .ok (.invokevirtual 198, 3) := by decide +kernel
theorem dX11_does_71 : decode cX11_does 71 = .ok (.invokevirtual 416, 3) := by decide +kernel
theorem dX11_does_74 : decode cX11_does 74 = .ok (.ireturn, 1) := by decide +kernel
theorem dX11_does_75 : decode cX11_does 75 = .ok (.aload_n 0, 1) := by decide +kernel
theorem dX11_does_76 : decode cX11_does 76 = .ok (.iload_n 2, 1) := by decide +kernel
theorem dX11_does_77 : decode cX11_does 77 = .ok (.invokevirtual 278, 3) := by decide +kernel
theorem dX11_does_80 : decode cX11_does 80 = .ok (.ireturn, 1) := by decide +kernel
theorem dX11_does_81 : decode cX11_does 81 = .ok (.aload_n 0, 1) := by decide +kernel
theorem dX11_does_82 : decode cX11_does 82 = .ok (.iload_n 2, 1) := by decide +kernel
theorem dX11_does_83 : decode cX11_does 83 = .ok (.invokevirtual 284, 3) := by decide +kernel
theorem dX11_does_86 : decode cX11_does 86 = .ok (.ireturn, 1) := by decide +kernel
theorem dX11_does_87 : decode cX11_does 87 = .ok (.aload_n 0, 1) := by decide +kernel
theorem dX11_does_88 : decode cX11_does 88 = .ok (.iload_n 2, 1) := by decide +kernel
theorem dX11_does_89 : decode cX11_does 89 = .ok (.invokevirtual 293, 3) := by decide +kernel
theorem dX11_does_92 : decode cX11_does 92 = .ok (.ireturn, 1) := by decide +kernel
theorem dX11_does_93 : decode cX11_does 93 = .ok (.aload_n 0, 1) := by decide +kernel
theorem dX11_does_94 : decode cX11_does 94 = .ok (.aload_n 0, 1) := by decide +kernel
theorem dX11_does_95 : decode cX11_does 95 = .ok (.getfield 50, 3) := by decide +kernel
theorem dX11_does_98 : decode cX11_does 98 = .ok (.iload_n 1, 1) := by decide +kernel
theorem dX11_does_99 : decode cX11_does 99 = .ok (.iaload, 1) := by decide +kernel
theorem dX11_does_100 : decode cX11_does 100 = .ok (.aload_n 0, 1) := by decide +kernel
theorem dX11_does_101 : decode cX11_does 101 = .ok (.iload_n 2, 1) := by decide +kernel
theorem dX11_does_102 : decode cX11_does 102 = .ok (.invokevirtual 198, 3) := by decide +kernel
theorem dX11_does_105 : decode cX11_does 105 = .ok (.iload_n 3, 1) := by decide +kernel
theorem dX11_does_106 : decode cX11_does 106 = .ok (.invokevirtual 419, 3) := by decide +kernel
theorem dX11_does_109 : decode cX11_does 109 = .ok (.ireturn, 1) := by decide +kernel
theorem dX11_play_0 : decode cX11_play 0 = .ok (.aload_n 0, 1) := by decide +kernel
theorem dX11_play_1 : decode cX11_play 1 = .ok (.iconst 0, 1) := by decide +kernel
theorem dX11_play_2 : decode cX11_play 2 = .ok (.putfield 81, 3) := by decide +kernel
theorem dX11_play_5 : decode cX11_play 5 = .ok (.iload_n 1, 1) := by decide +kernel
theorem dX11_play_6 : decode cX11_play 6 = .ok (.iconst 0, 1) := by decide +kernel
theorem dX11_play_7 : decode cX11_play 7 = .ok (.aload_n 0, 1) := by decide +kernel
theorem dX11_play_8 : decode cX11_play 8 = .ok (.getfield 312, 3) := by decide +kernel
theorem dX11_play_11 : decode cX11_play 11 = .ok (.invokestatic 91, 3) := by decide +kernel
theorem dX11_play_14 : decode cX11_play 14 = .ok (.ifCond .ne 9, 3) := by decide +kernel
theorem dX11_play_17 : decode cX11_play 17 = .ok (.aload_n 0, 1) := by decide +kernel
theorem dX11_play_18 : decode cX11_play 18 = .ok (.iconst 1, 1) := by decide +kernel
theorem dX11_play_19 : decode cX11_play 19 = .ok (.invokevirtual 195, 3) := by decide +kernel
theorem dX11_play_22 : decode cX11_play 22 = .ok (.ireturn, 1) := by decide +kernel
theorem dX11_play_23 : decode cX11_play 23 = .ok (.aload_n 0, 1) := by decide +kernel
theorem dX11_play_24 : decode cX11_play 24 = .ok (.iconst 0, 1) := by decide +kernel
theorem dX11_play_25 : decode cX11_play 25 = .ok (.putfield 407, 3) := by decide +kernel
theorem dX11_play_28 : decode cX11_play 28 = .ok (.aload_n 0, 1) := by decide +kernel
theorem dX11_play_29 : decode cX11_play 29 = .ok (.iload_n 1, 1) := by decide +kernel
theorem dX11_play_30 : decode cX11_play 30 = .ok (.invokevirtual 395, 3) := by decide +kernel
theorem dX11_play_33 : decode cX11_play 33 = .ok (.aload_n 0, 1) := by decide +kernel
theorem dX11_play_34 : decode cX11_play 34 = .ok (.getfield 336, 3) := by decide +kernel
theorem dX11_play_37 : decode cX11_play 37 = .ok (.ifCond .ne 17, 3) := by decide +kernel
theorem dX11_play_40 : decode cX11_play 40 = .ok (.aload_n 0, 1) := by decide +kernel
theorem dX11_play_41 : decode cX11_play 41 = .ok (.getfield 327, 3) := by decide +kernel
theorem dX11_play_44 : decode cX11_play 44 = .ok (.ifCond .eq 10, 3) := by decide +kernel
theorem dX11_play_47 : decode cX11_play 47 = .ok (.aload_n 0, 1) := by decide +kernel
theorem dX11_play_48 : decode cX11_play 48 = .ok (.invokevirtual 422, 3) := by decide +kernel
theorem dX11_play_51 : decode cX11_play 51 = .ok (.goto (-18), 3) := by decide +kernel
theorem dX11_play_54 : decode cX11_play 54 = .ok (.aload_n 0, 1) := by decide +kernel
theorem dX11_play_55 : decode cX11_play 55 = .ok (.invokevirtual 401, 3) := by decide +kernel
theorem dX11_play_58 : decode cX11_play 58 = .ok (.ifCond .eq 11, 3) := by decide +kernel
theorem dX11_play_61 : decode cX11_play 61 = .ok (.bipush (-10), 2) := by decide +kernel
theorem dX11_play_63 : decode cX11_play 63 = .ok (.aload_n 0, 1) := by decide +kernel
theorem dX11_play_64 : decode cX11_play 64 = .ok (.getfield 336, 3) := by decide +kernel
theorem dX11_play_67 : decode cX11_play 67 = .ok (.isub, 1) := by decide +kernel
theorem dX11_play_68 : decode cX11_play 68 = .ok (.ireturn, 1) := by decide +kernel
theorem dX11_play_69 : decode cX11_play 69 = .ok (.aload_n 0, 1) := by decide +kernel
theorem dX11_play_70 : decode cX11_play 70 = .ok (.invokevirtual 269, 3) := by decide +kernel
theorem dX11_play_73 : decode cX11_play 73 = .ok (.aload_n 0, 1) := by decide +kernel
theorem dX11_play_74 : decode cX11_play 74 = .ok (.invokevirtual 266, 3) := by decide +kernel
theorem dX11_play_77 : decode cX11_play 77 = .ok (.iconst 0, 1) := by decide +kernel
theorem dX11_play_78 : decode cX11_play 78 = .ok (.istore_n 2, 1) := by decide +kernel
theorem dX11_play_79 : decode cX11_play 79 = .ok (.iload_n 2, 1) := by decide +kernel
theorem dX11_play_80 : decode cX11_play 80 = .ok (.aload_n 0, 1) := by decide +kernel
theorem dX11_play_81 : decode cX11_play 81 = .ok (.getfield 407, 3) := by decide +kernel
theorem dX11_play_84 : decode cX11_play 84 = .ok (.if_icmp .ge 19, 3) := by decide +kernel
theorem dX11_play_87 : decode cX11_play 87 = .ok (.aload_n 0, 1) := by decide +kernel
theorem dX11_play_88 : decode cX11_play 88 = .ok (.iconst 3, 1) := by decide +kernel
theorem dX11_play_89 : decode cX11_play 89 = .ok (.iload_n 2, 1) := by decide +kernel
theorem dX11_play_90 : decode cX11_play 90 = .ok (.imul, 1) := by decide +kernel
theorem dX11_play_91 : decode cX11_play 91 = .ok (.invokevirtual 425, 3) := by decide +kernel
theorem dX11_play_94 : decode cX11_play 94 = .ok (.ifCond .lt 9, 3) := by decide +kernel
theorem dX11_play_97 : decode cX11_play 97 = .ok (.iinc 2 1, 3) := by decide +kernel
theorem dX11_play_100 : decode cX11_play 100 = .ok (.goto (-21), 3) := by decide +kernel
theorem dX11_play_103 : decode cX11_play 103 = .ok (.iload_n 2, 1) := by decide +kernel
theorem dX11_play_104 : decode cX11_play 104 = .ok (.ireturn, 1) := by decide +kernel
