theorem dL_most_0 : decode cL_most 0 = .ok (.iload_n 0, 1) := by decide +kernel
theorem dL_most_1 : decode cL_most 1 = .ok (.ldc 7, 2) := by decide +kernel
theorem dL_most_3 : decode cL_most 3 = .ok (.iand, 1) := by decide +kernel
theorem dL_most_4 : decode cL_most 4 = .ok (.iload_n 1, 1) := by decide +kernel
theorem dL_most_5 : decode cL_most 5 = .ok (.irem, 1) := by decide +kernel
theorem dL_most_6 : decode cL_most 6 = .ok (.ireturn, 1) := by decide +kernel
theorem dL_cell_0 : decode cL_cell 0 = .ok (.iload_n 1, 1) := by decide +kernel
theorem dL_cell_1 : decode cL_cell 1 = .ok (.aload_n 0, 1) := by decide +kernel
theorem dL_cell_2 : decode cL_cell 2 = .ok (.arraylength, 1) := by decide +kernel
theorem dL_cell_3 : decode cL_cell 3 = .ok (.if_icmp .ge 9, 3) := by decide +kernel
theorem dL_cell_6 : decode cL_cell 6 = .ok (.aload_n 0, 1) := by decide +kernel
theorem dL_cell_7 : decode cL_cell 7 = .ok (.iload_n 1, 1) := by decide +kernel
theorem dL_cell_8 : decode cL_cell 8 = .ok (.iaload, 1) := by decide +kernel
theorem dL_cell_9 : decode cL_cell 9 = .ok (.goto 7, 3) := by decide +kernel
theorem dL_cell_12 : decode cL_cell 12 = .ok (.bipush 37, 2) := by decide +kernel
theorem dL_cell_14 : decode cL_cell 14 = .ok (.iload_n 1, 1) := by decide +kernel
theorem dL_cell_15 : decode cL_cell 15 = .ok (.imul, 1) := by decide +kernel
theorem dL_cell_16 : decode cL_cell 16 = .ok (.ireturn, 1) := by decide +kernel
theorem dL_add_0 : decode cL_add 0 = .ok (.aload_n 1, 1) := by decide +kernel
theorem dL_add_1 : decode cL_add 1 = .ok (.aload_n 1, 1) := by decide +kernel
theorem dL_add_2 : decode cL_add 2 = .ok (.iconst 5, 1) := by decide +kernel
theorem dL_add_3 : decode cL_add 3 = .ok (.iaload, 1) := by decide +kernel
theorem dL_add_4 : decode cL_add 4 = .ok (.bipush 20, 2) := by decide +kernel
theorem dL_add_6 : decode cL_add 6 = .ok (.irem, 1) := by decide +kernel
theorem dL_add_7 : decode cL_add 7 = .ok (.iconst 4, 1) := by decide +kernel
theorem dL_add_8 : decode cL_add 8 = .ok (.idiv, 1) := by decide +kernel
theorem dL_add_9 : decode cL_add 9 = .ok (.dup2, 1) := by decide +kernel
theorem dL_add_10 : decode cL_add 10 = .ok (.iaload, 1) := by decide +kernel
theorem dL_add_11 : decode cL_add 11 = .ok (.iload_n 2, 1) := by decide +kernel
theorem dL_add_12 : decode cL_add 12 = .ok (.bipush 24, 2) := by decide +kernel
theorem dL_add_14 : decode cL_add 14 = .ok (.bipush 8, 2) := by decide +kernel
theorem dL_add_16 : decode cL_add 16 = .ok (.aload_n 1, 1) := by decide +kernel
theorem dL_add_17 : decode cL_add 17 = .ok (.iconst 5, 1) := by decide +kernel
theorem dL_add_18 : decode cL_add 18 = .ok (.iaload, 1) := by decide +kernel
theorem dL_add_19 : decode cL_add 19 = .ok (.iconst 4, 1) := by decide +kernel
theorem dL_add_20 : decode cL_add 20 = .ok (.irem, 1) := by decide +kernel
theorem dL_add_21 : decode cL_add 21 = .ok (.imul, 1) := by decide +kernel
theorem dL_add_22 : decode cL_add 22 = .ok (.isub, 1) := by decide +kernel
theorem dL_add_23 : decode cL_add 23 = .ok (.ishl, 1) := by decide +kernel
theorem dL_add_24 : decode cL_add 24 = .ok (.ior, 1) := by decide +kernel
theorem dL_add_25 : decode cL_add 25 = .ok (.iastore, 1) := by decide +kernel
theorem dL_add_26 : decode cL_add 26 = .ok (.aload_n 1, 1) := by decide +kernel
theorem dL_add_27 : decode cL_add 27 = .ok (.iconst 5, 1) := by decide +kernel
theorem dL_add_28 : decode cL_add 28 = .ok (.dup2, 1) := by decide +kernel
theorem dL_add_29 : decode cL_add 29 = .ok (.iaload, 1) := by decide +kernel
theorem dL_add_30 : decode cL_add 30 = .ok (.iconst 1, 1) := by decide +kernel
theorem dL_add_31 : decode cL_add 31 = .ok (.iadd, 1) := by decide +kernel
theorem dL_add_32 : decode cL_add 32 = .ok (.iastore, 1) := by decide +kernel
theorem dL_add_33 : decode cL_add 33 = .ok (.aload_n 1, 1) := by decide +kernel
theorem dL_add_34 : decode cL_add 34 = .ok (.iconst 5, 1) := by decide +kernel
theorem dL_add_35 : decode cL_add 35 = .ok (.iaload, 1) := by decide +kernel
theorem dL_add_36 : decode cL_add 36 = .ok (.bipush 20, 2) := by decide +kernel
theorem dL_add_38 : decode cL_add 38 = .ok (.irem, 1) := by decide +kernel
theorem dL_add_39 : decode cL_add 39 = .ok (.ifCond .eq 4, 3) := by decide +kernel
theorem dL_add_42 : decode cL_add 42 = .ok (.return_, 1) := by decide +kernel
theorem dL_add_43 : decode cL_add 43 = .ok (.aload_n 0, 1) := by decide +kernel
theorem dL_add_44 : decode cL_add 44 = .ok (.aload_n 1, 1) := by decide +kernel
theorem dL_add_45 : decode cL_add 45 = .ok (.iconst 0, 1) := by decide +kernel
theorem dL_add_46 : decode cL_add 46 = .ok (.iaload, 1) := by decide +kernel
theorem dL_add_47 : decode cL_add 47 = .ok (.aload_n 1, 1) := by decide +kernel
theorem dL_add_48 : decode cL_add 48 = .ok (.iconst 1, 1) := by decide +kernel
theorem dL_add_49 : decode cL_add 49 = .ok (.iaload, 1) := by decide +kernel
theorem dL_add_50 : decode cL_add 50 = .ok (.aload_n 1, 1) := by decide +kernel
theorem dL_add_51 : decode cL_add 51 = .ok (.iconst 2, 1) := by decide +kernel
theorem dL_add_52 : decode cL_add 52 = .ok (.iaload, 1) := by decide +kernel
theorem dL_add_53 : decode cL_add 53 = .ok (.aload_n 1, 1) := by decide +kernel
theorem dL_add_54 : decode cL_add 54 = .ok (.iconst 3, 1) := by decide +kernel
theorem dL_add_55 : decode cL_add 55 = .ok (.iaload, 1) := by decide +kernel
theorem dL_add_56 : decode cL_add 56 = .ok (.aload_n 1, 1) := by decide +kernel
theorem dL_add_57 : decode cL_add 57 = .ok (.iconst 4, 1) := by decide +kernel
theorem dL_add_58 : decode cL_add 58 = .ok (.iaload, 1) := by decide +kernel
theorem dL_add_59 : decode cL_add 59 = .ok (.invokevirtual 8, 3) := by decide +kernel
theorem dL_add_62 : decode cL_add 62 = .ok (.pop, 1) := by decide +kernel
theorem dL_add_63 : decode cL_add 63 = .ok (.iconst 0, 1) := by decide +kernel
theorem dL_add_64 : decode cL_add 64 = .ok (.istore_n 3, 1) := by decide +kernel
theorem dL_add_65 : decode cL_add 65 = .ok (.iload_n 3, 1) := by decide +kernel
theorem dL_add_66 : decode cL_add 66 = .ok (.iconst 5, 1) := by decide +kernel
theorem dL_add_67 : decode cL_add 67 = .ok (.if_icmp .ge 13, 3) := by decide +kernel
theorem dL_add_70 : decode cL_add 70 = .ok (.aload_n 1, 1) := by decide +kernel
theorem dL_add_71 : decode cL_add 71 = .ok (.iload_n 3, 1) := by decide +kernel
theorem dL_add_72 : decode cL_add 72 = .ok (.iconst 0, 1) := by decide +kernel
theorem dL_add_73 : decode cL_add 73 = .ok (.iastore, 1) := by decide +kernel
theorem dL_add_74 : decode cL_add 74 = .ok (.iinc 3 1, 3) := by decide +kernel
theorem dL_add_77 : decode cL_add 77 = .ok (.goto (-12), 3) := by decide +kernel
theorem dL_add_80 : decode cL_add 80 = .ok (.return_, 1) := by decide +kernel
theorem dL_say_0 : decode cL_say 0 = .ok (.iconst 0, 1) := by decide +kernel
theorem dL_say_1 : decode cL_say 1 = .ok (.istore_n 3, 1) := by decide +kernel
theorem dL_say_2 : decode cL_say 2 = .ok (.iload_n 3, 1) := by decide +kernel
theorem dL_say_3 : decode cL_say 3 = .ok (.aload_n 2, 1) := by decide +kernel
theorem dL_say_4 : decode cL_say 4 = .ok (.invokevirtual 14, 3) := by decide +kernel
theorem dL_say_7 : decode cL_say 7 = .ok (.if_icmp .ge 19, 3) := by decide +kernel
theorem dL_say_10 : decode cL_say 10 = .ok (.aload_n 0, 1) := by decide +kernel
theorem dL_say_11 : decode cL_say 11 = .ok (.aload_n 1, 1) := by decide +kernel
theorem dL_say_12 : decode cL_say 12 = .ok (.aload_n 2, 1) := by decide +kernel
theorem dL_say_13 : decode cL_say 13 = .ok (.iload_n 3, 1) := by decide +kernel
theorem dL_say_14 : decode cL_say 14 = .ok (.invokevirtual 20, 3) := by decide +kernel
theorem dL_say_17 : decode cL_say 17 = .ok (.invokestatic 24, 3) := by decide +kernel
theorem dL_say_20 : decode cL_say 20 = .ok (.iinc 3 1, 3) := by decide +kernel
theorem dL_say_23 : decode cL_say 23 = .ok (.goto (-21), 3) := by decide +kernel
theorem dL_say_26 : decode cL_say 26 = .ok (.return_, 1) := by decide +kernel
theorem dL_end_0 : decode cL_end 0 = .ok (.aload_n 1, 1) := by decide +kernel
theorem dL_end_1 : decode cL_end 1 = .ok (.iconst 5, 1) := by decide +kernel
theorem dL_end_2 : decode cL_end 2 = .ok (.iaload, 1) := by decide +kernel
theorem dL_end_3 : decode cL_end 3 = .ok (.istore_n 2, 1) := by decide +kernel
theorem dL_end_4 : decode cL_end 4 = .ok (.aload_n 1, 1) := by decide +kernel
theorem dL_end_5 : decode cL_end 5 = .ok (.iconst 5, 1) := by decide +kernel
theorem dL_end_6 : decode cL_end 6 = .ok (.iaload, 1) := by decide +kernel
theorem dL_end_7 : decode cL_end 7 = .ok (.bipush 20, 2) := by decide +kernel
theorem dL_end_9 : decode cL_end 9 = .ok (.irem, 1) := by decide +kernel
theorem dL_end_10 : decode cL_end 10 = .ok (.ifCond .eq 13, 3) := by decide +kernel
theorem dL_end_13 : decode cL_end 13 = .ok (.aload_n 0, 1) := by decide +kernel
theorem dL_end_14 : decode cL_end 14 = .ok (.aload_n 1, 1) := by decide +kernel
theorem dL_end_15 : decode cL_end 15 = .ok (.bipush 32, 2) := by decide +kernel
theorem dL_end_17 : decode cL_end 17 = .ok (.invokestatic 24, 3) := by decide +kernel
theorem dL_end_20 : decode cL_end 20 = .ok (.goto (-16), 3) := by decide +kernel
theorem dL_end_23 : decode cL_end 23 = .ok (.aload_n 1, 1) := by decide +kernel
theorem dL_end_24 : decode cL_end 24 = .ok (.iconst 5, 1) := by decide +kernel
theorem dL_end_25 : decode cL_end 25 = .ok (.iconst 0, 1) := by decide +kernel
theorem dL_end_26 : decode cL_end 26 = .ok (.iastore, 1) := by decide +kernel
theorem dL_end_27 : decode cL_end 27 = .ok (.iload_n 2, 1) := by decide +kernel
theorem dL_end_28 : decode cL_end 28 = .ok (.ireturn, 1) := by decide +kernel
theorem dL_all_0 : decode cL_all 0 = .ok (.aload_n 0, 1) := by decide +kernel
theorem dL_all_1 : decode cL_all 1 = .ok (.iconst 5, 1) := by decide +kernel
theorem dL_all_2 : decode cL_all 2 = .ok (.invokevirtual 30, 3) := by decide +kernel
theorem dL_all_5 : decode cL_all 5 = .ok (.istore_n 1, 1) := by decide +kernel
theorem dL_all_6 : decode cL_all 6 = .ok (.aload_n 0, 1) := by decide +kernel
theorem dL_all_7 : decode cL_all 7 = .ok (.bipush 9, 2) := by decide +kernel
theorem dL_all_9 : decode cL_all 9 = .ok (.invokevirtual 30, 3) := by decide +kernel
theorem dL_all_12 : decode cL_all 12 = .ok (.istore_n 2, 1) := by decide +kernel
theorem dL_all_13 : decode cL_all 13 = .ok (.aload_n 0, 1) := by decide +kernel
theorem dL_all_14 : decode cL_all 14 = .ok (.iconst 3, 1) := by decide +kernel
theorem dL_all_15 : decode cL_all 15 = .ok (.invokevirtual 30, 3) := by decide +kernel
theorem dL_all_18 : decode cL_all 18 = .ok (.istore_n 3, 1) := by decide +kernel
theorem dL_all_19 : decode cL_all 19 = .ok (.bipush 20, 2) := by decide +kernel
theorem dL_all_21 : decode cL_all 21 = .ok (.bipush 7, 2) := by decide +kernel
theorem dL_all_23 : decode cL_all 23 = .ok (.iload_n 1, 1) := by decide +kernel
theorem dL_all_24 : decode cL_all 24 = .ok (.imul, 1) := by decide +kernel
theorem dL_all_25 : decode cL_all 25 = .ok (.iadd, 1) := by decide +kernel
theorem dL_all_26 : decode cL_all 26 = .ok (.iconst 5, 1) := by decide +kernel
theorem dL_all_27 : decode cL_all 27 = .ok (.iload_n 2, 1) := by decide +kernel
theorem dL_all_28 : decode cL_all 28 = .ok (.imul, 1) := by decide +kernel
theorem dL_all_29 : decode cL_all 29 = .ok (.iadd, 1) := by decide +kernel
theorem dL_all_30 : decode cL_all 30 = .ok (.iconst 3, 1) := by decide +kernel
theorem dL_all_31 : decode cL_all 31 = .ok (.iload_n 3, 1) := by decide +kernel
theorem dL_all_32 : decode cL_all 32 = .ok (.imul, 1) := by decide +kernel
theorem dL_all_33 : decode cL_all 33 = .ok (.iadd, 1) := by decide +kernel
theorem dL_all_34 : decode cL_all 34 = .ok (.newarray .int, 2) := by decide +kernel
theorem dL_all_36 : decode cL_all 36 = .ok (.astore 4, 2) := by decide +kernel
theorem dL_all_38 : decode cL_all 38 = .ok (.iconst 0, 1) := by decide +kernel
theorem dL_all_39 : decode cL_all 39 = .ok (.istore 5, 2) := by decide +kernel
theorem dL_all_41 : decode cL_all 41 = .ok (.iconst 0, 1) := by decide +kernel
theorem dL_all_42 : decode cL_all 42 = .ok (.istore 6, 2) := by decide +kernel
theorem dL_all_44 : decode cL_all 44 = .ok (.iload 6, 2) := by decide +kernel
theorem dL_all_46 : decode cL_all 46 = .ok (.bipush 12, 2) := by decide +kernel
theorem dL_all_48 : decode cL_all 48 = .ok (.if_icmp .ge 23, 3) := by decide +kernel
theorem dL_all_51 : decode cL_all 51 = .ok (.aload 4, 2) := by decide +kernel
theorem dL_all_53 : decode cL_all 53 = .ok (.iload 5, 2) := by decide +kernel
theorem dL_all_55 : decode cL_all 55 = .ok (.iinc 5 1, 3) := by decide +kernel
theorem dL_all_58 : decode cL_all 58 = .ok (.aload_n 0, 1) := by decide +kernel
theorem dL_all_59 : decode cL_all 59 = .ok (.iload 6, 2) := by decide +kernel
theorem dL_all_61 : decode cL_all 61 = .ok (.invokevirtual 30, 3) := by decide +kernel
theorem dL_all_64 : decode cL_all 64 = .ok (.iastore, 1) := by decide +kernel
theorem dL_all_65 : decode cL_all 65 = .ok (.iinc 6 1, 3) := by decide +kernel
theorem dL_all_68 : decode cL_all 68 = .ok (.goto (-24), 3) := by decide +kernel
theorem dL_all_71 : decode cL_all 71 = .ok (.iconst 3, 1) := by decide +kernel
theorem dL_all_72 : decode cL_all 72 = .ok (.istore 6, 2) := by decide +kernel
theorem dL_all_74 : decode cL_all 74 = .ok (.iload 6, 2) := by decide +kernel
theorem dL_all_76 : decode cL_all 76 = .ok (.bipush 11, 2) := by decide +kernel
theorem dL_all_78 : decode cL_all 78 = .ok (.if_icmp .ge 23, 3) := by decide +kernel
theorem dL_all_81 : decode cL_all 81 = .ok (.aload 4, 2) := by decide +kernel
theorem dL_all_83 : decode cL_all 83 = .ok (.iload 5, 2) := by decide +kernel
theorem dL_all_85 : decode cL_all 85 = .ok (.iinc 5 1, 3) := by decide +kernel
theorem dL_all_88 : decode cL_all 88 = .ok (.aload_n 0, 1) := by decide +kernel
theorem dL_all_89 : decode cL_all 89 = .ok (.iload 6, 2) := by decide +kernel
theorem dL_all_91 : decode cL_all 91 = .ok (.invokevirtual 34, 3) := by decide +kernel
theorem dL_all_94 : decode cL_all 94 = .ok (.iastore, 1) := by decide +kernel
theorem dL_all_95 : decode cL_all 95 = .ok (.iinc 6 1, 3) := by decide +kernel
theorem dL_all_98 : decode cL_all 98 = .ok (.goto (-24), 3) := by decide +kernel
theorem dL_all_101 : decode cL_all 101 = .ok (.iconst 0, 1) := by decide +kernel
theorem dL_all_102 : decode cL_all 102 = .ok (.istore 6, 2) := by decide +kernel
theorem dL_all_104 : decode cL_all 104 = .ok (.iload 6, 2) := by decide +kernel
theorem dL_all_106 : decode cL_all 106 = .ok (.iload_n 1, 1) := by decide +kernel
theorem dL_all_107 : decode cL_all 107 = .ok (.if_icmp .ge 41, 3) := by decide +kernel
theorem dL_all_110 : decode cL_all 110 = .ok (.iconst 0, 1) := by decide +kernel
theorem dL_all_111 : decode cL_all 111 = .ok (.istore 7, 2) := by decide +kernel
theorem dL_all_113 : decode cL_all 113 = .ok (.iload 7, 2) := by decide +kernel
theorem dL_all_115 : decode cL_all 115 = .ok (.bipush 7, 2) := by decide +kernel
theorem dL_all_117 : decode cL_all 117 = .ok (.if_icmp .ge 25, 3) := by decide +kernel
theorem dL_all_120 : decode cL_all 120 = .ok (.aload 4, 2) := by decide +kernel
theorem dL_all_122 : decode cL_all 122 = .ok (.iload 5, 2) := by decide +kernel
theorem dL_all_124 : decode cL_all 124 = .ok (.iinc 5 1, 3) := by decide +kernel
theorem dL_all_127 : decode cL_all 127 = .ok (.aload_n 0, 1) := by decide +kernel
theorem dL_all_128 : decode cL_all 128 = .ok (.iload 6, 2) := by decide +kernel
theorem dL_all_130 : decode cL_all 130 = .ok (.iload 7, 2) := by decide +kernel
theorem dL_all_132 : decode cL_all 132 = .ok (.invokevirtual 37, 3) := by decide +kernel
theorem dL_all_135 : decode cL_all 135 = .ok (.iastore, 1) := by decide +kernel
theorem dL_all_136 : decode cL_all 136 = .ok (.iinc 7 1, 3) := by decide +kernel
theorem dL_all_139 : decode cL_all 139 = .ok (.goto (-26), 3) := by decide +kernel
theorem dL_all_142 : decode cL_all 142 = .ok (.iinc 6 1, 3) := by decide +kernel
theorem dL_all_145 : decode cL_all 145 = .ok (.goto (-41), 3) := by decide +kernel
theorem dL_all_148 : decode cL_all 148 = .ok (.iconst 0, 1) := by decide +kernel
theorem dL_all_149 : decode cL_all 149 = .ok (.istore 6, 2) := by decide +kernel
theorem dL_all_151 : decode cL_all 151 = .ok (.iload 6, 2) := by decide +kernel
theorem dL_all_153 : decode cL_all 153 = .ok (.iload_n 2, 1) := by decide +kernel
theorem dL_all_154 : decode cL_all 154 = .ok (.if_icmp .ge 40, 3) := by decide +kernel
theorem dL_all_157 : decode cL_all 157 = .ok (.iconst 0, 1) := by decide +kernel
theorem dL_all_158 : decode cL_all 158 = .ok (.istore 7, 2) := by decide +kernel
theorem dL_all_160 : decode cL_all 160 = .ok (.iload 7, 2) := by decide +kernel
theorem dL_all_162 : decode cL_all 162 = .ok (.iconst 5, 1) := by decide +kernel
theorem dL_all_163 : decode cL_all 163 = .ok (.if_icmp .ge 25, 3) := by decide +kernel
theorem dL_all_166 : decode cL_all 166 = .ok (.aload 4, 2) := by decide +kernel
theorem dL_all_168 : decode cL_all 168 = .ok (.iload 5, 2) := by decide +kernel
theorem dL_all_170 : decode cL_all 170 = .ok (.iinc 5 1, 3) := by decide +kernel
theorem dL_all_173 : decode cL_all 173 = .ok (.aload_n 0, 1) := by decide +kernel
theorem dL_all_174 : decode cL_all 174 = .ok (.iload 6, 2) := by decide +kernel
theorem dL_all_176 : decode cL_all 176 = .ok (.iload 7, 2) := by decide +kernel
theorem dL_all_178 : decode cL_all 178 = .ok (.invokevirtual 41, 3) := by decide +kernel
theorem dL_all_181 : decode cL_all 181 = .ok (.iastore, 1) := by decide +kernel
theorem dL_all_182 : decode cL_all 182 = .ok (.iinc 7 1, 3) := by decide +kernel
theorem dL_all_185 : decode cL_all 185 = .ok (.goto (-25), 3) := by decide +kernel
theorem dL_all_188 : decode cL_all 188 = .ok (.iinc 6 1, 3) := by decide +kernel
theorem dL_all_191 : decode cL_all 191 = .ok (.goto (-40), 3) := by decide +kernel
theorem dL_all_194 : decode cL_all 194 = .ok (.iconst 0, 1) := by decide +kernel
theorem dL_all_195 : decode cL_all 195 = .ok (.istore 6, 2) := by decide +kernel
theorem dL_all_197 : decode cL_all 197 = .ok (.iload 6, 2) := by decide +kernel
theorem dL_all_199 : decode cL_all 199 = .ok (.iload_n 3, 1) := by decide +kernel
theorem dL_all_200 : decode cL_all 200 = .ok (.if_icmp .ge 40, 3) := by decide +kernel
theorem dL_all_203 : decode cL_all 203 = .ok (.iconst 0, 1) := by decide +kernel
theorem dL_all_204 : decode cL_all 204 = .ok (.istore 7, 2) := by decide +kernel
theorem dL_all_206 : decode cL_all 206 = .ok (.iload 7, 2) := by decide +kernel
theorem dL_all_208 : decode cL_all 208 = .ok (.iconst 3, 1) := by decide +kernel
theorem dL_all_209 : decode cL_all 209 = .ok (.if_icmp .ge 25, 3) := by decide +kernel
theorem dL_all_212 : decode cL_all 212 = .ok (.aload 4, 2) := by decide +kernel
theorem dL_all_214 : decode cL_all 214 = .ok (.iload 5, 2) := by decide +kernel
theorem dL_all_216 : decode cL_all 216 = .ok (.iinc 5 1, 3) := by decide +kernel
theorem dL_all_219 : decode cL_all 219 = .ok (.aload_n 0, 1) := by decide +kernel
theorem dL_all_220 : decode cL_all 220 = .ok (.iload 6, 2) := by decide +kernel
theorem dL_all_222 : decode cL_all 222 = .ok (.iload 7, 2) := by decide +kernel
theorem dL_all_224 : decode cL_all 224 = .ok (.invokevirtual 44, 3) := by decide +kernel
theorem dL_all_227 : decode cL_all 227 = .ok (.iastore, 1) := by decide +kernel
theorem dL_all_228 : decode cL_all 228 = .ok (.iinc 7 1, 3) := by decide +kernel
theorem dL_all_231 : decode cL_all 231 = .ok (.goto (-25), 3) := by decide +kernel
theorem dL_all_234 : decode cL_all 234 = .ok (.iinc 6 1, 3) := by decide +kernel
theorem dL_all_237 : decode cL_all 237 = .ok (.goto (-40), 3) := by decide +kernel
theorem dL_all_240 : decode cL_all 240 = .ok (.aload 4, 2) := by decide +kernel
theorem dL_all_242 : decode cL_all 242 = .ok (.areturn, 1) := by decide +kernel
theorem dL_alike_0 : decode cL_alike 0 = .ok (.aload_n 0, 1) := by decide +kernel
theorem dL_alike_1 : decode cL_alike 1 = .ok (.arraylength, 1) := by decide +kernel
theorem dL_alike_2 : decode cL_alike 2 = .ok (.aload_n 1, 1) := by decide +kernel
theorem dL_alike_3 : decode cL_alike 3 = .ok (.arraylength, 1) := by decide +kernel
theorem dL_alike_4 : decode cL_alike 4 = .ok (.if_icmp .eq 5, 3) := by decide +kernel
theorem dL_alike_7 : decode cL_alike 7 = .ok (.iconst 0, 1) := by decide +kernel
theorem dL_alike_8 : decode cL_alike 8 = .ok (.ireturn, 1) := by decide +kernel
theorem dL_alike_9 : decode cL_alike 9 = .ok (.iconst 0, 1) := by decide +kernel
theorem dL_alike_10 : decode cL_alike 10 = .ok (.istore_n 2, 1) := by decide +kernel
theorem dL_alike_11 : decode cL_alike 11 = .ok (.iload_n 2, 1) := by decide +kernel
theorem dL_alike_12 : decode cL_alike 12 = .ok (.aload_n 0, 1) := by decide +kernel
theorem dL_alike_13 : decode cL_alike 13 = .ok (.arraylength, 1) := by decide +kernel
theorem dL_alike_14 : decode cL_alike 14 = .ok (.if_icmp .ge 20, 3) := by decide +kernel
theorem dL_alike_17 : decode cL_alike 17 = .ok (.aload_n 0, 1) := by decide +kernel
theorem dL_alike_18 : decode cL_alike 18 = .ok (.iload_n 2, 1) := by decide +kernel
theorem dL_alike_19 : decode cL_alike 19 = .ok (.iaload, 1) := by decide +kernel
theorem dL_alike_20 : decode cL_alike 20 = .ok (.aload_n 1, 1) := by decide +kernel
theorem dL_alike_21 : decode cL_alike 21 = .ok (.iload_n 2, 1) := by decide +kernel
theorem dL_alike_22 : decode cL_alike 22 = .ok (.iaload, 1) := by decide +kernel
theorem dL_alike_23 : decode cL_alike 23 = .ok (.if_icmp .eq 5, 3) := by decide +kernel
theorem dL_alike_26 : decode cL_alike 26 = .ok (.iconst 0, 1) := by decide +kernel
theorem dL_alike_27 : decode cL_alike 27 = .ok (.ireturn, 1) := by decide +kernel
theorem dL_alike_28 : decode cL_alike 28 = .ok (.iinc 2 1, 3) := by decide +kernel
theorem dL_alike_31 : decode cL_alike 31 = .ok (.goto (-20), 3) := by decide +kernel
theorem dL_alike_34 : decode cL_alike 34 = .ok (.iconst 1, 1) := by decide +kernel
theorem dL_alike_35 : decode cL_alike 35 = .ok (.ireturn, 1) := by decide +kernel
theorem dL_isArchive_0 : decode cL_isArchive 0 = .ok (.aload_n 0, 1) := by decide +kernel
theorem dL_isArchive_1 : decode cL_isArchive 1 = .ok (.bipush 6, 2) := by decide +kernel
theorem dL_isArchive_3 : decode cL_isArchive 3 = .ok (.invokevirtual 30, 3) := by decide +kernel
theorem dL_isArchive_6 : decode cL_isArchive 6 = .ok (.istore_n 1, 1) := by decide +kernel
theorem dL_isArchive_7 : decode cL_isArchive 7 = .ok (.iconst 0, 1) := by decide +kernel
theorem dL_isArchive_8 : decode cL_isArchive 8 = .ok (.istore_n 2, 1) := by decide +kernel
theorem dL_isArchive_9 : decode cL_isArchive 9 = .ok (.iconst 0, 1) := by decide +kernel
theorem dL_isArchive_10 : decode cL_isArchive 10 = .ok (.istore_n 3, 1) := by decide +kernel
theorem dL_isArchive_11 : decode cL_isArchive 11 = .ok (.iconst 0, 1) := by decide +kernel
theorem dL_isArchive_12 : decode cL_isArchive 12 = .ok (.istore 4, 2) := by decide +kernel
theorem dL_isArchive_14 : decode cL_isArchive 14 = .ok (.iconst 0, 1) := by decide +kernel
theorem dL_isArchive_15 : decode cL_isArchive 15 = .ok (.istore 5, 2) := by decide +kernel
theorem dL_isArchive_17 : decode cL_isArchive 17 = .ok (.iconst 0, 1) := by decide +kernel
theorem dL_isArchive_18 : decode cL_isArchive 18 = .ok (.istore 6, 2) := by decide +kernel
theorem dL_isArchive_20 : decode cL_isArchive 20 = .ok (.iload 6, 2) := by decide +kernel
theorem dL_isArchive_22 : decode cL_isArchive 22 = .ok (.aload_n 0, 1) := by decide +kernel
theorem dL_isArchive_23 : decode cL_isArchive 23 = .ok (.iconst 5, 1) := by decide +kernel
theorem dL_isArchive_24 : decode cL_isArchive 24 = .ok (.invokevirtual 30, 3) := by decide +kernel
theorem dL_isArchive_27 : decode cL_isArchive 27 = .ok (.if_icmp .ge 166, 3) := by decide +kernel
theorem dL_isArchive_30 : decode cL_isArchive 30 = .ok (.aload_n 0, 1) := by decide +kernel
theorem dL_isArchive_31 : decode cL_isArchive 31 = .ok (.iload 6, 2) := by decide +kernel
theorem dL_isArchive_33 : decode cL_isArchive 33 = .ok (.iconst 2, 1) := by decide +kernel
theorem dL_isArchive_34 : decode cL_isArchive 34 = .ok (.invokevirtual 37, 3) := by decide +kernel
theorem dL_isArchive_37 : decode cL_isArchive 37 = .ok (.istore 7, 2) := by decide +kernel
theorem dL_isArchive_39 : decode cL_isArchive 39 = .ok (.iload_n 2, 1) := by decide +kernel
theorem dL_isArchive_40 : decode cL_isArchive 40 = .ok (.iload 7, 2) := by decide +kernel
theorem dL_isArchive_42 : decode cL_isArchive 42 = .ok (.iconst 1, 1) := by decide +kernel
theorem dL_isArchive_43 : decode cL_isArchive 43 = .ok (.if_icmp .ne 7, 3) := by decide +kernel
theorem dL_isArchive_46 : decode cL_isArchive 46 = .ok (.iconst 1, 1) := by decide +kernel
theorem dL_isArchive_47 : decode cL_isArchive 47 = .ok (.goto 4, 3) := by decide +kernel
theorem dL_isArchive_50 : decode cL_isArchive 50 = .ok (.iconst 0, 1) := by decide +kernel
theorem dL_isArchive_51 : decode cL_isArchive 51 = .ok (.iadd, 1) := by decide +kernel
theorem dL_isArchive_52 : decode cL_isArchive 52 = .ok (.istore_n 2, 1) := by decide +kernel
theorem dL_isArchive_53 : decode cL_isArchive 53 = .ok (.iload_n 3, 1) := by decide +kernel
theorem dL_isArchive_54 : decode cL_isArchive 54 = .ok (.iload 7, 2) := by decide +kernel
theorem dL_isArchive_56 : decode cL_isArchive 56 = .ok (.iconst 2, 1) := by decide +kernel
theorem dL_isArchive_57 : decode cL_isArchive 57 = .ok (.if_icmp .ne 7, 3) := by decide +kernel
theorem dL_isArchive_60 : decode cL_isArchive 60 = .ok (.iconst 1, 1) := by decide +kernel
theorem dL_isArchive_61 : decode cL_isArchive 61 = .ok (.goto 4, 3) := by decide +kernel
theorem dL_isArchive_64 : decode cL_isArchive 64 = .ok (.iconst 0, 1) := by decide +kernel
theorem dL_isArchive_65 : decode cL_isArchive 65 = .ok (.iadd, 1) := by decide +kernel
theorem dL_isArchive_66 : decode cL_isArchive 66 = .ok (.istore_n 3, 1) := by decide +kernel
theorem dL_isArchive_67 : decode cL_isArchive 67 = .ok (.iload 4, 2) := by decide +kernel
theorem dL_isArchive_69 : decode cL_isArchive 69 = .ok (.aload_n 0, 1) := by decide +kernel
theorem dL_isArchive_70 : decode cL_isArchive 70 = .ok (.iload 6, 2) := by decide +kernel
theorem dL_isArchive_72 : decode cL_isArchive 72 = .ok (.iconst 5, 1) := by decide +kernel
theorem dL_isArchive_73 : decode cL_isArchive 73 = .ok (.invokevirtual 37, 3) := by decide +kernel
theorem dL_isArchive_76 : decode cL_isArchive 76 = .ok (.iadd, 1) := by decide +kernel
theorem dL_isArchive_77 : decode cL_isArchive 77 = .ok (.istore 4, 2) := by decide +kernel
theorem dL_isArchive_79 : decode cL_isArchive 79 = .ok (.iload 5, 2) := by decide +kernel
theorem dL_isArchive_81 : decode cL_isArchive 81 = .ok (.aload_n 0, 1) := by decide +kernel
theorem dL_isArchive_82 : decode cL_isArchive 82 = .ok (.iload 6, 2) := by decide +kernel
theorem dL_isArchive_84 : decode cL_isArchive 84 = .ok (.iconst 4, 1) := by decide +kernel
theorem dL_isArchive_85 : decode cL_isArchive 85 = .ok (.invokevirtual 37, 3) := by decide +kernel
theorem dL_isArchive_88 : decode cL_isArchive 88 = .ok (.iadd, 1) := by decide +kernel
theorem dL_isArchive_89 : decode cL_isArchive 89 = .ok (.istore 5, 2) := by decide +kernel
theorem dL_isArchive_91 : decode cL_isArchive 91 = .ok (.aload_n 0, 1) := by decide +kernel
theorem dL_isArchive_92 : decode cL_isArchive 92 = .ok (.aload_n 0, 1) := by decide +kernel
theorem dL_isArchive_93 : decode cL_isArchive 93 = .ok (.iload 6, 2) := by decide +kernel
theorem dL_isArchive_95 : decode cL_isArchive 95 = .ok (.iconst 0, 1) := by decide +kernel
theorem dL_isArchive_96 : decode cL_isArchive 96 = .ok (.invokevirtual 37, 3) := by decide +kernel
theorem dL_isArchive_99 : decode cL_isArchive 99 = .ok (.invokevirtual 47, 3) := by decide +kernel
theorem dL_isArchive_102 : decode cL_isArchive 102 = .ok (.iload 6, 2) := by decide +kernel
theorem dL_isArchive_104 : decode cL_isArchive 104 = .ok (.if_icmp .ne 81, 3) := by decide +kernel
theorem dL_isArchive_107 : decode cL_isArchive 107 = .ok (.iload 7, 2) := by decide +kernel
theorem dL_isArchive_109 : decode cL_isArchive 109 = .ok (.ifCond .ne 19, 3) := by decide +kernel
theorem dL_isArchive_112 : decode cL_isArchive 112 = .ok (.aload_n 0, 1) := by decide +kernel
theorem dL_isArchive_113 : decode cL_isArchive 113 = .ok (.aload_n 0, 1) := by decide +kernel
theorem dL_isArchive_114 : decode cL_isArchive 114 = .ok (.iload 6, 2) := by decide +kernel
theorem dL_isArchive_116 : decode cL_isArchive 116 = .ok (.iconst 3, 1) := by decide +kernel
theorem dL_isArchive_117 : decode cL_isArchive 117 = .ok (.invokevirtual 37, 3) := by decide +kernel
theorem dL_isArchive_120 : decode cL_isArchive 120 = .ok (.invokevirtual 50, 3) := by decide +kernel
theorem dL_isArchive_123 : decode cL_isArchive 123 = .ok (.iload 6, 2) := by decide +kernel
theorem dL_isArchive_125 : decode cL_isArchive 125 = .ok (.if_icmp .ne 60, 3) := by decide +kernel
theorem dL_isArchive_128 : decode cL_isArchive 128 = .ok (.aload_n 0, 1) := by decide +kernel
theorem dL_isArchive_129 : decode cL_isArchive 129 = .ok (.iload 6, 2) := by decide +kernel
theorem dL_isArchive_131 : decode cL_isArchive 131 = .ok (.bipush 6, 2) := by decide +kernel
theorem dL_isArchive_133 : decode cL_isArchive 133 = .ok (.invokevirtual 37, 3) := by decide +kernel
theorem dL_isArchive_136 : decode cL_isArchive 136 = .ok (.iconst 1, 1) := by decide +kernel
theorem dL_isArchive_137 : decode cL_isArchive 137 = .ok (.if_icmp .ne 7, 3) := by decide +kernel
theorem dL_isArchive_140 : decode cL_isArchive 140 = .ok (.iconst 1, 1) := by decide +kernel
theorem dL_isArchive_141 : decode cL_isArchive 141 = .ok (.goto 4, 3) := by decide +kernel
theorem dL_isArchive_144 : decode cL_isArchive 144 = .ok (.iconst 0, 1) := by decide +kernel
theorem dL_isArchive_145 : decode cL_isArchive 145 = .ok (.aload_n 0, 1) := by decide +kernel
theorem dL_isArchive_146 : decode cL_isArchive 146 = .ok (.iconst 0, 1) := by decide +kernel
theorem dL_isArchive_147 : decode cL_isArchive 147 = .ok (.invokevirtual 30, 3) := by decide +kernel
theorem dL_isArchive_150 : decode cL_isArchive 150 = .ok (.aload_n 0, 1) := by decide +kernel
theorem dL_isArchive_151 : decode cL_isArchive 151 = .ok (.iload 6, 2) := by decide +kernel
theorem dL_isArchive_153 : decode cL_isArchive 153 = .ok (.iconst 1, 1) := by decide +kernel
theorem dL_isArchive_154 : decode cL_isArchive 154 = .ok (.invokevirtual 37, 3) := by decide +kernel
theorem dL_isArchive_157 : decode cL_isArchive 157 = .ok (.if_icmp .ge 7, 3) := by decide +kernel
theorem dL_isArchive_160 : decode cL_isArchive 160 = .ok (.iconst 1, 1) := by decide +kernel
theorem dL_isArchive_161 : decode cL_isArchive 161 = .ok (.goto 4, 3) := by decide +kernel
theorem dL_isArchive_164 : decode cL_isArchive 164 = .ok (.iconst 0, 1) := by decide +kernel
theorem dL_isArchive_165 : decode cL_isArchive 165 = .ok (.if_icmp .ne 20, 3) := by decide +kernel
theorem dL_isArchive_168 : decode cL_isArchive 168 = .ok (.aload_n 0, 1) := by decide +kernel
theorem dL_isArchive_169 : decode cL_isArchive 169 = .ok (.iload 6, 2) := by decide +kernel
theorem dL_isArchive_171 : decode cL_isArchive 171 = .ok (.iconst 4, 1) := by decide +kernel
theorem dL_isArchive_172 : decode cL_isArchive 172 = .ok (.invokevirtual 37, 3) := by decide +kernel
theorem dL_isArchive_175 : decode cL_isArchive 175 = .ok (.ifCond .le 12, 3) := by decide +kernel
theorem dL_isArchive_178 : decode cL_isArchive 178 = .ok (.aload_n 0, 1) := by decide +kernel
theorem dL_isArchive_179 : decode cL_isArchive 179 = .ok (.invokevirtual 53, 3) := by decide +kernel
theorem dL_isArchive_182 : decode cL_isArchive 182 = .ok (.ifCond .ge 5, 3) := by decide +kernel
theorem dL_isArchive_185 : decode cL_isArchive 185 = .ok (.iconst 0, 1) := by decide +kernel
theorem dL_isArchive_186 : decode cL_isArchive 186 = .ok (.ireturn, 1) := by decide +kernel
theorem dL_isArchive_187 : decode cL_isArchive 187 = .ok (.iinc 6 1, 3) := by decide +kernel
theorem dL_isArchive_190 : decode cL_isArchive 190 = .ok (.goto (-170), 3) := by decide +kernel
theorem dL_isArchive_193 : decode cL_isArchive 193 = .ok (.iconst 0, 1) := by decide +kernel
theorem dL_isArchive_194 : decode cL_isArchive 194 = .ok (.istore 6, 2) := by decide +kernel
theorem dL_isArchive_196 : decode cL_isArchive 196 = .ok (.iconst 0, 1) := by decide +kernel
theorem dL_isArchive_197 : decode cL_isArchive 197 = .ok (.istore 7, 2) := by decide +kernel
theorem dL_isArchive_199 : decode cL_isArchive 199 = .ok (.iconst 0, 1) := by decide +kernel
theorem dL_isArchive_200 : decode cL_isArchive 200 = .ok (.istore 8, 2) := by decide +kernel
theorem dL_isArchive_202 : decode cL_isArchive 202 = .ok (.iload 8, 2) := by decide +kernel
theorem dL_isArchive_204 : decode cL_isArchive 204 = .ok (.iload_n 1, 1) := by decide +kernel
theorem dL_isArchive_205 : decode cL_isArchive 205 = .ok (.if_icmp .ge 179, 3) := by decide +kernel
theorem dL_isArchive_208 : decode cL_isArchive 208 = .ok (.aload_n 0, 1) := by decide +kernel
theorem dL_isArchive_209 : decode cL_isArchive 209 = .ok (.iload 8, 2) := by decide +kernel
theorem dL_isArchive_211 : decode cL_isArchive 211 = .ok (.invokevirtual 50, 3) := by decide +kernel
theorem dL_isArchive_214 : decode cL_isArchive 214 = .ok (.istore 9, 2) := by decide +kernel
theorem dL_isArchive_216 : decode cL_isArchive 216 = .ok (.aload_n 0, 1) := by decide +kernel
theorem dL_isArchive_217 : decode cL_isArchive 217 = .ok (.iload 9, 2) := by decide +kernel
theorem dL_isArchive_219 : decode cL_isArchive 219 = .ok (.iconst 0, 1) := by decide +kernel
theorem dL_isArchive_220 : decode cL_isArchive 220 = .ok (.invokevirtual 37, 3) := by decide +kernel
theorem dL_isArchive_223 : decode cL_isArchive 223 = .ok (.istore 10, 2) := by decide +kernel
theorem dL_isArchive_225 : decode cL_isArchive 225 = .ok (.aload_n 0, 1) := by decide +kernel
theorem dL_isArchive_226 : decode cL_isArchive 226 = .ok (.iload 10, 2) := by decide +kernel
theorem dL_isArchive_228 : decode cL_isArchive 228 = .ok (.invokevirtual 56, 3) := by decide +kernel
theorem dL_isArchive_231 : decode cL_isArchive 231 = .ok (.istore 11, 2) := by decide +kernel
theorem dL_isArchive_233 : decode cL_isArchive 233 = .ok (.aload_n 0, 1) := by decide +kernel
theorem dL_isArchive_234 : decode cL_isArchive 234 = .ok (.iload 10, 2) := by decide +kernel
theorem dL_isArchive_236 : decode cL_isArchive 236 = .ok (.invokevirtual 59, 3) := by decide +kernel
theorem dL_isArchive_239 : decode cL_isArchive 239 = .ok (.istore 12, 2) := by decide +kernel
theorem dL_isArchive_241 : decode cL_isArchive 241 = .ok (.iload 6, 2) := by decide +kernel
theorem dL_isArchive_243 : decode cL_isArchive 243 = .ok (.iload 11, 2) := by decide +kernel
theorem dL_isArchive_245 : decode cL_isArchive 245 = .ok (.ifCond .ge 7, 3) := by decide +kernel
theorem dL_isArchive_248 : decode cL_isArchive 248 = .ok (.iconst 1, 1) := by decide +kernel
theorem dL_isArchive_249 : decode cL_isArchive 249 = .ok (.goto 4, 3) := by decide +kernel
theorem dL_isArchive_252 : decode cL_isArchive 252 = .ok (.iconst 0, 1) := by decide +kernel
theorem dL_isArchive_253 : decode cL_isArchive 253 = .ok (.iadd, 1) := by decide +kernel
theorem dL_isArchive_254 : decode cL_isArchive 254 = .ok (.istore 6, 2) := by decide +kernel
theorem dL_isArchive_256 : decode cL_isArchive 256 = .ok (.iload 7, 2) := by decide +kernel
theorem dL_isArchive_258 : decode cL_isArchive 258 = .ok (.iload 8, 2) := by decide +kernel
theorem dL_isArchive_260 : decode cL_isArchive 260 = .ok (.ifCond .le 25, 3) := by decide +kernel
theorem dL_isArchive_263 : decode cL_isArchive 263 = .ok (.aload_n 0, 1) := by decide +kernel
theorem dL_isArchive_264 : decode cL_isArchive 264 = .ok (.aload_n 0, 1) := by decide +kernel
theorem dL_isArchive_265 : decode cL_isArchive 265 = .ok (.iload 8, 2) := by decide +kernel
theorem dL_isArchive_267 : decode cL_isArchive 267 = .ok (.iconst 1, 1) := by decide +kernel
theorem dL_isArchive_268 : decode cL_isArchive 268 = .ok (.isub, 1) := by decide +kernel
theorem dL_isArchive_269 : decode cL_isArchive 269 = .ok (.invokevirtual 50, 3) := by decide +kernel
theorem dL_isArchive_272 : decode cL_isArchive 272 = .ok (.iconst 0, 1) := by decide +kernel
theorem dL_isArchive_273 : decode cL_isArchive 273 = .ok (.invokevirtual 37, 3) := by decide +kernel
theorem dL_isArchive_276 : decode cL_isArchive 276 = .ok (.iload 10, 2) := by decide +kernel
theorem dL_isArchive_278 : decode cL_isArchive 278 = .ok (.if_icmp .le 7, 3) := by decide +kernel
theorem dL_isArchive_281 : decode cL_isArchive 281 = .ok (.iconst 1, 1) := by decide +kernel
theorem dL_isArchive_282 : decode cL_isArchive 282 = .ok (.goto 4, 3) := by decide +kernel
theorem dL_isArchive_285 : decode cL_isArchive 285 = .ok (.iconst 0, 1) := by decide +kernel
theorem dL_isArchive_286 : decode cL_isArchive 286 = .ok (.iadd, 1) := by decide +kernel
theorem dL_isArchive_287 : decode cL_isArchive 287 = .ok (.istore 7, 2) := by decide +kernel
theorem dL_isArchive_289 : decode cL_isArchive 289 = .ok (.iload 11, 2) := by decide +kernel
theorem dL_isArchive_291 : decode cL_isArchive 291 = .ok (.ifCond .lt 36, 3) := by decide +kernel
theorem dL_isArchive_294 : decode cL_isArchive 294 = .ok (.iload 11, 2) := by decide +kernel
theorem dL_isArchive_296 : decode cL_isArchive 296 = .ok (.iload 8, 2) := by decide +kernel
theorem dL_isArchive_298 : decode cL_isArchive 298 = .ok (.if_icmp .ne 78, 3) := by decide +kernel
theorem dL_isArchive_301 : decode cL_isArchive 301 = .ok (.aload_n 0, 1) := by decide +kernel
theorem dL_isArchive_302 : decode cL_isArchive 302 = .ok (.iload 10, 2) := by decide +kernel
theorem dL_isArchive_304 : decode cL_isArchive 304 = .ok (.iload 12, 2) := by decide +kernel
theorem dL_isArchive_306 : decode cL_isArchive 306 = .ok (.iconst 1, 1) := by decide +kernel
theorem dL_isArchive_307 : decode cL_isArchive 307 = .ok (.isub, 1) := by decide +kernel
theorem dL_isArchive_308 : decode cL_isArchive 308 = .ok (.invokevirtual 62, 3) := by decide +kernel
theorem dL_isArchive_311 : decode cL_isArchive 311 = .ok (.iload 9, 2) := by decide +kernel
theorem dL_isArchive_313 : decode cL_isArchive 313 = .ok (.if_icmp .ne 63, 3) := by decide +kernel
theorem dL_isArchive_316 : decode cL_isArchive 316 = .ok (.aload_n 0, 1) := by decide +kernel
theorem dL_isArchive_317 : decode cL_isArchive 317 = .ok (.iload 10, 2) := by decide +kernel
theorem dL_isArchive_319 : decode cL_isArchive 319 = .ok (.invokevirtual 65, 3) := by decide +kernel
theorem dL_isArchive_322 : decode cL_isArchive 322 = .ok (.iload 8, 2) := by decide +kernel
theorem dL_isArchive_324 : decode cL_isArchive 324 = .ok (.if_icmp .ne 52, 3) := by decide +kernel
theorem dL_isArchive_327 : decode cL_isArchive 327 = .ok (.iload 11, 2) := by decide +kernel
theorem dL_isArchive_329 : decode cL_isArchive 329 = .ok (.ifCond .ge 23, 3) := by decide +kernel
theorem dL_isArchive_332 : decode cL_isArchive 332 = .ok (.iload 12, 2) := by decide +kernel
theorem dL_isArchive_334 : decode cL_isArchive 334 = .ok (.ifCond .le 18, 3) := by decide +kernel
theorem dL_isArchive_337 : decode cL_isArchive 337 = .ok (.aload_n 0, 1) := by decide +kernel
theorem dL_isArchive_338 : decode cL_isArchive 338 = .ok (.iload 10, 2) := by decide +kernel
theorem dL_isArchive_340 : decode cL_isArchive 340 = .ok (.iload 12, 2) := by decide +kernel
theorem dL_isArchive_342 : decode cL_isArchive 342 = .ok (.iconst 1, 1) := by decide +kernel
theorem dL_isArchive_343 : decode cL_isArchive 343 = .ok (.isub, 1) := by decide +kernel
theorem dL_isArchive_344 : decode cL_isArchive 344 = .ok (.invokevirtual 62, 3) := by decide +kernel
theorem dL_isArchive_347 : decode cL_isArchive 347 = .ok (.iload 9, 2) := by decide +kernel
theorem dL_isArchive_349 : decode cL_isArchive 349 = .ok (.if_icmp .eq 27, 3) := by decide +kernel
theorem dL_isArchive_352 : decode cL_isArchive 352 = .ok (.iload 12, 2) := by decide +kernel
theorem dL_isArchive_354 : decode cL_isArchive 354 = .ok (.iconst 1, 1) := by decide +kernel
theorem dL_isArchive_355 : decode cL_isArchive 355 = .ok (.if_icmp .lt 21, 3) := by decide +kernel
theorem dL_isArchive_358 : decode cL_isArchive 358 = .ok (.iload 12, 2) := by decide +kernel
theorem dL_isArchive_360 : decode cL_isArchive 360 = .ok (.iconst 5, 1) := by decide +kernel
theorem dL_isArchive_361 : decode cL_isArchive 361 = .ok (.if_icmp .gt 15, 3) := by decide +kernel
theorem dL_isArchive_364 : decode cL_isArchive 364 = .ok (.aload_n 0, 1) := by decide +kernel
theorem dL_isArchive_365 : decode cL_isArchive 365 = .ok (.iload 10, 2) := by decide +kernel
theorem dL_isArchive_367 : decode cL_isArchive 367 = .ok (.iload 12, 2) := by decide +kernel
theorem dL_isArchive_369 : decode cL_isArchive 369 = .ok (.invokevirtual 62, 3) := by decide +kernel
theorem dL_isArchive_372 : decode cL_isArchive 372 = .ok (.iconst (-1), 1) := by decide +kernel
theorem dL_isArchive_373 : decode cL_isArchive 373 = .ok (.if_icmp .eq 5, 3) := by decide +kernel
theorem dL_isArchive_376 : decode cL_isArchive 376 = .ok (.iconst 0, 1) := by decide +kernel
theorem dL_isArchive_377 : decode cL_isArchive 377 = .ok (.ireturn, 1) := by decide +kernel
theorem dL_isArchive_378 : decode cL_isArchive 378 = .ok (.iinc 8 1, 3) := by decide +kernel
theorem dL_isArchive_381 : decode cL_isArchive 381 = .ok (.goto (-179), 3) := by decide +kernel
theorem dL_isArchive_384 : decode cL_isArchive 384 = .ok (.iconst 0, 1) := by decide +kernel
theorem dL_isArchive_385 : decode cL_isArchive 385 = .ok (.istore 8, 2) := by decide +kernel
theorem dL_isArchive_387 : decode cL_isArchive 387 = .ok (.iconst 0, 1) := by decide +kernel
theorem dL_isArchive_388 : decode cL_isArchive 388 = .ok (.istore 9, 2) := by decide +kernel
theorem dL_isArchive_390 : decode cL_isArchive 390 = .ok (.aload_n 0, 1) := by decide +kernel
theorem dL_isArchive_391 : decode cL_isArchive 391 = .ok (.iconst 4, 1) := by decide +kernel
theorem dL_isArchive_392 : decode cL_isArchive 392 = .ok (.invokevirtual 30, 3) := by decide +kernel
theorem dL_isArchive_395 : decode cL_isArchive 395 = .ok (.istore 10, 2) := by decide +kernel
theorem dL_isArchive_397 : decode cL_isArchive 397 = .ok (.iconst 0, 1) := by decide +kernel
theorem dL_isArchive_398 : decode cL_isArchive 398 = .ok (.istore 11, 2) := by decide +kernel
theorem dL_isArchive_400 : decode cL_isArchive 400 = .ok (.iload 11, 2) := by decide +kernel
theorem dL_isArchive_402 : decode cL_isArchive 402 = .ok (.aload_n 0, 1) := by decide +kernel
theorem dL_isArchive_403 : decode cL_isArchive 403 = .ok (.iconst 3, 1) := by decide +kernel
theorem dL_isArchive_404 : decode cL_isArchive 404 = .ok (.invokevirtual 30, 3) := by decide +kernel
theorem dL_isArchive_407 : decode cL_isArchive 407 = .ok (.if_icmp .ge 47, 3) := by decide +kernel
theorem dL_isArchive_410 : decode cL_isArchive 410 = .ok (.iload 9, 2) := by decide +kernel
theorem dL_isArchive_412 : decode cL_isArchive 412 = .ok (.aload_n 0, 1) := by decide +kernel
theorem dL_isArchive_413 : decode cL_isArchive 413 = .ok (.iload 11, 2) := by decide +kernel
theorem dL_isArchive_415 : decode cL_isArchive 415 = .ok (.iconst 2, 1) := by decide +kernel
theorem dL_isArchive_416 : decode cL_isArchive 416 = .ok (.invokevirtual 44, 3) := by decide +kernel
theorem dL_isArchive_419 : decode cL_isArchive 419 = .ok (.iadd, 1) := by decide +kernel
theorem dL_isArchive_420 : decode cL_isArchive 420 = .ok (.istore 9, 2) := by decide +kernel
theorem dL_isArchive_422 : decode cL_isArchive 422 = .ok (.iload 8, 2) := by decide +kernel
theorem dL_isArchive_424 : decode cL_isArchive 424 = .ok (.aload_n 0, 1) := by decide +kernel
theorem dL_isArchive_425 : decode cL_isArchive 425 = .ok (.iload 11, 2) := by decide +kernel
theorem dL_isArchive_427 : decode cL_isArchive 427 = .ok (.iconst 0, 1) := by decide +kernel
theorem dL_isArchive_428 : decode cL_isArchive 428 = .ok (.invokevirtual 44, 3) := by decide +kernel
theorem dL_isArchive_431 : decode cL_isArchive 431 = .ok (.iadd, 1) := by decide +kernel
theorem dL_isArchive_432 : decode cL_isArchive 432 = .ok (.istore 8, 2) := by decide +kernel
theorem dL_isArchive_434 : decode cL_isArchive 434 = .ok (.aload_n 0, 1) := by decide +kernel
theorem dL_isArchive_435 : decode cL_isArchive 435 = .ok (.iload 11, 2) := by decide +kernel
theorem dL_isArchive_437 : decode cL_isArchive 437 = .ok (.iconst 0, 1) := by decide +kernel
theorem dL_isArchive_438 : decode cL_isArchive 438 = .ok (.invokevirtual 44, 3) := by decide +kernel
theorem dL_isArchive_441 : decode cL_isArchive 441 = .ok (.iload 10, 2) := by decide +kernel
theorem dL_isArchive_443 : decode cL_isArchive 443 = .ok (.if_icmp .le 5, 3) := by decide +kernel
theorem dL_isArchive_446 : decode cL_isArchive 446 = .ok (.iconst 0, 1) := by decide +kernel
theorem dL_isArchive_447 : decode cL_isArchive 447 = .ok (.ireturn, 1) := by decide +kernel
theorem dL_isArchive_448 : decode cL_isArchive 448 = .ok (.iinc 11 1, 3) := by decide +kernel
theorem dL_isArchive_451 : decode cL_isArchive 451 = .ok (.goto (-51), 3) := by decide +kernel
theorem dL_isArchive_454 : decode cL_isArchive 454 = .ok (.iconst 0, 1) := by decide +kernel
theorem dL_isArchive_455 : decode cL_isArchive 455 = .ok (.istore 11, 2) := by decide +kernel
theorem dL_isArchive_457 : decode cL_isArchive 457 = .ok (.iload 11, 2) := by decide +kernel
theorem dL_isArchive_459 : decode cL_isArchive 459 = .ok (.aload_n 0, 1) := by decide +kernel
theorem dL_isArchive_460 : decode cL_isArchive 460 = .ok (.bipush 9, 2) := by decide +kernel
theorem dL_isArchive_462 : decode cL_isArchive 462 = .ok (.invokevirtual 30, 3) := by decide +kernel
theorem dL_isArchive_465 : decode cL_isArchive 465 = .ok (.if_icmp .ge 241, 3) := by decide +kernel
theorem dL_isArchive_468 : decode cL_isArchive 468 = .ok (.aload_n 0, 1) := by decide +kernel
theorem dL_isArchive_469 : decode cL_isArchive 469 = .ok (.iload 11, 2) := by decide +kernel
theorem dL_isArchive_471 : decode cL_isArchive 471 = .ok (.iconst 4, 1) := by decide +kernel
theorem dL_isArchive_472 : decode cL_isArchive 472 = .ok (.invokevirtual 41, 3) := by decide +kernel
theorem dL_isArchive_475 : decode cL_isArchive 475 = .ok (.istore 12, 2) := by decide +kernel
theorem dL_isArchive_477 : decode cL_isArchive 477 = .ok (.aload_n 0, 1) := by decide +kernel
theorem dL_isArchive_478 : decode cL_isArchive 478 = .ok (.iload 11, 2) := by decide +kernel
theorem dL_isArchive_480 : decode cL_isArchive 480 = .ok (.iconst 1, 1) := by decide +kernel
theorem dL_isArchive_481 : decode cL_isArchive 481 = .ok (.invokevirtual 41, 3) := by decide +kernel
theorem dL_isArchive_484 : decode cL_isArchive 484 = .ok (.istore 13, 2) := by decide +kernel
theorem dL_isArchive_486 : decode cL_isArchive 486 = .ok (.aload_n 0, 1) := by decide +kernel
theorem dL_isArchive_487 : decode cL_isArchive 487 = .ok (.iload 11, 2) := by decide +kernel
theorem dL_isArchive_489 : decode cL_isArchive 489 = .ok (.iconst 0, 1) := by decide +kernel
theorem dL_isArchive_490 : decode cL_isArchive 490 = .ok (.invokevirtual 41, 3) := by decide +kernel
theorem dL_isArchive_493 : decode cL_isArchive 493 = .ok (.istore 14, 2) := by decide +kernel
theorem dL_isArchive_495 : decode cL_isArchive 495 = .ok (.iload 12, 2) := by decide +kernel
theorem dL_isArchive_497 : decode cL_isArchive 497 = .ok (.iconst 1, 1) := by decide +kernel
theorem dL_isArchive_498 : decode cL_isArchive 498 = .ok (.if_icmp .ne 7, 3) := by decide +kernel
theorem dL_isArchive_501 : decode cL_isArchive 501 = .ok (.iconst 1, 1) := by decide +kernel
theorem dL_isArchive_502 : decode cL_isArchive 502 = .ok (.goto 4, 3) := by decide +kernel
theorem dL_isArchive_505 : decode cL_isArchive 505 = .ok (.iconst 0, 1) := by decide +kernel
theorem dL_isArchive_506 : decode cL_isArchive 506 = .ok (.aload_n 0, 1) := by decide +kernel
theorem dL_isArchive_507 : decode cL_isArchive 507 = .ok (.iload 13, 2) := by decide +kernel
theorem dL_isArchive_509 : decode cL_isArchive 509 = .ok (.iconst 2, 1) := by decide +kernel
theorem dL_isArchive_510 : decode cL_isArchive 510 = .ok (.invokevirtual 37, 3) := by decide +kernel
theorem dL_isArchive_513 : decode cL_isArchive 513 = .ok (.iconst 1, 1) := by decide +kernel
theorem dL_isArchive_514 : decode cL_isArchive 514 = .ok (.if_icmp .ne 7, 3) := by decide +kernel
theorem dL_isArchive_517 : decode cL_isArchive 517 = .ok (.iconst 1, 1) := by decide +kernel
theorem dL_isArchive_518 : decode cL_isArchive 518 = .ok (.goto 4, 3) := by decide +kernel
theorem dL_isArchive_521 : decode cL_isArchive 521 = .ok (.iconst 0, 1) := by decide +kernel
theorem dL_isArchive_522 : decode cL_isArchive 522 = .ok (.if_icmp .ne 176, 3) := by decide +kernel
theorem dL_isArchive_525 : decode cL_isArchive 525 = .ok (.iload 12, 2) := by decide +kernel
theorem dL_isArchive_527 : decode cL_isArchive 527 = .ok (.iconst 2, 1) := by decide +kernel
theorem dL_isArchive_528 : decode cL_isArchive 528 = .ok (.if_icmp .ne 7, 3) := by decide +kernel
theorem dL_isArchive_531 : decode cL_isArchive 531 = .ok (.iconst 1, 1) := by decide +kernel
theorem dL_isArchive_532 : decode cL_isArchive 532 = .ok (.goto 4, 3) := by decide +kernel
theorem dL_isArchive_535 : decode cL_isArchive 535 = .ok (.iconst 0, 1) := by decide +kernel
theorem dL_isArchive_536 : decode cL_isArchive 536 = .ok (.aload_n 0, 1) := by decide +kernel
theorem dL_isArchive_537 : decode cL_isArchive 537 = .ok (.iload 13, 2) := by decide +kernel
theorem dL_isArchive_539 : decode cL_isArchive 539 = .ok (.iconst 2, 1) := by decide +kernel
theorem dL_isArchive_540 : decode cL_isArchive 540 = .ok (.invokevirtual 37, 3) := by decide +kernel
theorem dL_isArchive_543 : decode cL_isArchive 543 = .ok (.iconst 2, 1) := by decide +kernel
theorem dL_isArchive_544 : decode cL_isArchive 544 = .ok (.if_icmp .ne 7, 3) := by decide +kernel
theorem dL_isArchive_547 : decode cL_isArchive 547 = .ok (.iconst 1, 1) := by decide +kernel
theorem dL_isArchive_548 : decode cL_isArchive 548 = .ok (.goto 4, 3) := by decide +kernel
theorem dL_isArchive_551 : decode cL_isArchive 551 = .ok (.iconst 0, 1) := by decide +kernel
theorem dL_isArchive_552 : decode cL_isArchive 552 = .ok (.if_icmp .ne 146, 3) := by decide +kernel
theorem dL_isArchive_555 : decode cL_isArchive 555 = .ok (.iload 12, 2) := by decide +kernel
theorem dL_isArchive_557 : decode cL_isArchive 557 = .ok (.iconst 3, 1) := by decide +kernel
theorem dL_isArchive_558 : decode cL_isArchive 558 = .ok (.if_icmp .ne 14, 3) := by decide +kernel
theorem dL_isArchive_561 : decode cL_isArchive 561 = .ok (.aload_n 0, 1) := by decide +kernel
theorem dL_isArchive_562 : decode cL_isArchive 562 = .ok (.iload 13, 2) := by decide +kernel
theorem dL_isArchive_564 : decode cL_isArchive 564 = .ok (.bipush 6, 2) := by decide +kernel
theorem dL_isArchive_566 : decode cL_isArchive 566 = .ok (.invokevirtual 37, 3) := by decide +kernel
theorem dL_isArchive_569 : decode cL_isArchive 569 = .ok (.ifCond .eq 129, 3) := by decide +kernel
theorem dL_isArchive_572 : decode cL_isArchive 572 = .ok (.iload 12, 2) := by decide +kernel
theorem dL_isArchive_574 : decode cL_isArchive 574 = .ok (.iconst 4, 1) := by decide +kernel
theorem dL_isArchive_575 : decode cL_isArchive 575 = .ok (.if_icmp .ne 15, 3) := by decide +kernel
theorem dL_isArchive_578 : decode cL_isArchive 578 = .ok (.aload_n 0, 1) := by decide +kernel
theorem dL_isArchive_579 : decode cL_isArchive 579 = .ok (.iload 14, 2) := by decide +kernel
theorem dL_isArchive_581 : decode cL_isArchive 581 = .ok (.iconst 0, 1) := by decide +kernel
theorem dL_isArchive_582 : decode cL_isArchive 582 = .ok (.invokevirtual 44, 3) := by decide +kernel
theorem dL_isArchive_585 : decode cL_isArchive 585 = .ok (.iload 10, 2) := by decide +kernel
theorem dL_isArchive_587 : decode cL_isArchive 587 = .ok (.if_icmp .lt 111, 3) := by decide +kernel
theorem dL_isArchive_590 : decode cL_isArchive 590 = .ok (.iload 12, 2) := by decide +kernel
theorem dL_isArchive_592 : decode cL_isArchive 592 = .ok (.ifCond .ne 27, 3) := by decide +kernel
theorem dL_isArchive_595 : decode cL_isArchive 595 = .ok (.aload_n 0, 1) := by decide +kernel
theorem dL_isArchive_596 : decode cL_isArchive 596 = .ok (.iload 13, 2) := by decide +kernel
theorem dL_isArchive_598 : decode cL_isArchive 598 = .ok (.bipush 6, 2) := by decide +kernel
theorem dL_isArchive_600 : decode cL_isArchive 600 = .ok (.invokevirtual 37, 3) := by decide +kernel
theorem dL_isArchive_603 : decode cL_isArchive 603 = .ok (.iconst 1, 1) := by decide +kernel
theorem dL_isArchive_604 : decode cL_isArchive 604 = .ok (.if_icmp .eq 94, 3) := by decide +kernel
theorem dL_isArchive_607 : decode cL_isArchive 607 = .ok (.aload_n 0, 1) := by decide +kernel
theorem dL_isArchive_608 : decode cL_isArchive 608 = .ok (.iload 14, 2) := by decide +kernel
theorem dL_isArchive_610 : decode cL_isArchive 610 = .ok (.iconst 0, 1) := by decide +kernel
theorem dL_isArchive_611 : decode cL_isArchive 611 = .ok (.invokevirtual 44, 3) := by decide +kernel
theorem dL_isArchive_614 : decode cL_isArchive 614 = .ok (.iload 10, 2) := by decide +kernel
theorem dL_isArchive_616 : decode cL_isArchive 616 = .ok (.if_icmp .ge 82, 3) := by decide +kernel
theorem dL_isArchive_619 : decode cL_isArchive 619 = .ok (.aload_n 0, 1) := by decide +kernel
theorem dL_isArchive_620 : decode cL_isArchive 620 = .ok (.iload 11, 2) := by decide +kernel
theorem dL_isArchive_622 : decode cL_isArchive 622 = .ok (.iconst 3, 1) := by decide +kernel
theorem dL_isArchive_623 : decode cL_isArchive 623 = .ok (.invokevirtual 41, 3) := by decide +kernel
theorem dL_isArchive_626 : decode cL_isArchive 626 = .ok (.iconst 2, 1) := by decide +kernel
theorem dL_isArchive_627 : decode cL_isArchive 627 = .ok (.if_icmp .gt 71, 3) := by decide +kernel
theorem dL_isArchive_630 : decode cL_isArchive 630 = .ok (.aload_n 0, 1) := by decide +kernel
theorem dL_isArchive_631 : decode cL_isArchive 631 = .ok (.iload 11, 2) := by decide +kernel
theorem dL_isArchive_633 : decode cL_isArchive 633 = .ok (.iconst 2, 1) := by decide +kernel
theorem dL_isArchive_634 : decode cL_isArchive 634 = .ok (.invokevirtual 41, 3) := by decide +kernel
theorem dL_isArchive_637 : decode cL_isArchive 637 = .ok (.aload_n 0, 1) := by decide +kernel
theorem dL_isArchive_638 : decode cL_isArchive 638 = .ok (.iconst 0, 1) := by decide +kernel
theorem dL_isArchive_639 : decode cL_isArchive 639 = .ok (.invokevirtual 30, 3) := by decide +kernel
theorem dL_isArchive_642 : decode cL_isArchive 642 = .ok (.if_icmp .gt 56, 3) := by decide +kernel
theorem dL_isArchive_645 : decode cL_isArchive 645 = .ok (.aload_n 0, 1) := by decide +kernel
theorem dL_isArchive_646 : decode cL_isArchive 646 = .ok (.iload 14, 2) := by decide +kernel
theorem dL_isArchive_648 : decode cL_isArchive 648 = .ok (.iload 13, 2) := by decide +kernel
theorem dL_isArchive_650 : decode cL_isArchive 650 = .ok (.invokevirtual 68, 3) := by decide +kernel
theorem dL_isArchive_653 : decode cL_isArchive 653 = .ok (.bipush (-3), 2) := by decide +kernel
theorem dL_isArchive_655 : decode cL_isArchive 655 = .ok (.if_icmp .ne 43, 3) := by decide +kernel
theorem dL_isArchive_658 : decode cL_isArchive 658 = .ok (.aload_n 0, 1) := by decide +kernel
theorem dL_isArchive_659 : decode cL_isArchive 659 = .ok (.iload 14, 2) := by decide +kernel
theorem dL_isArchive_661 : decode cL_isArchive 661 = .ok (.iload 13, 2) := by decide +kernel
theorem dL_isArchive_663 : decode cL_isArchive 663 = .ok (.invokevirtual 71, 3) := by decide +kernel
theorem dL_isArchive_666 : decode cL_isArchive 666 = .ok (.iload 11, 2) := by decide +kernel
theorem dL_isArchive_668 : decode cL_isArchive 668 = .ok (.if_icmp .ne 30, 3) := by decide +kernel
theorem dL_isArchive_671 : decode cL_isArchive 671 = .ok (.iload 12, 2) := by decide +kernel
theorem dL_isArchive_673 : decode cL_isArchive 673 = .ok (.ifCond .ne 7, 3) := by decide +kernel
theorem dL_isArchive_676 : decode cL_isArchive 676 = .ok (.iconst 1, 1) := by decide +kernel
theorem dL_isArchive_677 : decode cL_isArchive 677 = .ok (.goto 4, 3) := by decide +kernel
theorem dL_isArchive_680 : decode cL_isArchive 680 = .ok (.iconst 0, 1) := by decide +kernel
theorem dL_isArchive_681 : decode cL_isArchive 681 = .ok (.aload_n 0, 1) := by decide +kernel
theorem dL_isArchive_682 : decode cL_isArchive 682 = .ok (.iload 11, 2) := by decide +kernel
theorem dL_isArchive_684 : decode cL_isArchive 684 = .ok (.invokevirtual 74, 3) := by decide +kernel
theorem dL_isArchive_687 : decode cL_isArchive 687 = .ok (.ifCond .ge 7, 3) := by decide +kernel
theorem dL_isArchive_690 : decode cL_isArchive 690 = .ok (.iconst 1, 1) := by decide +kernel
theorem dL_isArchive_691 : decode cL_isArchive 691 = .ok (.goto 4, 3) := by decide +kernel
theorem dL_isArchive_694 : decode cL_isArchive 694 = .ok (.iconst 0, 1) := by decide +kernel
theorem dL_isArchive_695 : decode cL_isArchive 695 = .ok (.if_icmp .eq 5, 3) := by decide +kernel
theorem dL_isArchive_698 : decode cL_isArchive 698 = .ok (.iconst 0, 1) := by decide +kernel
theorem dL_isArchive_699 : decode cL_isArchive 699 = .ok (.ireturn, 1) := by decide +kernel
theorem dL_isArchive_700 : decode cL_isArchive 700 = .ok (.iinc 11 1, 3) := by decide +kernel
theorem dL_isArchive_703 : decode cL_isArchive 703 = .ok (.goto (-246), 3) := by decide +kernel
theorem dL_isArchive_706 : decode cL_isArchive 706 = .ok (.aload_n 0, 1) := by decide +kernel
theorem dL_isArchive_707 : decode cL_isArchive 707 = .ok (.invokevirtual 77, 3) := by decide +kernel
theorem dL_isArchive_710 : decode cL_isArchive 710 = .ok (.istore 11, 2) := by decide +kernel
theorem dL_isArchive_712 : decode cL_isArchive 712 = .ok (.aload_n 0, 1) := by decide +kernel
theorem dL_isArchive_713 : decode cL_isArchive 713 = .ok (.bipush 10, 2) := by decide +kernel
theorem dL_isArchive_715 : decode cL_isArchive 715 = .ok (.invokevirtual 30, 3) := by decide +kernel
theorem dL_isArchive_718 : decode cL_isArchive 718 = .ok (.iload 7, 2) := by decide +kernel
theorem dL_isArchive_720 : decode cL_isArchive 720 = .ok (.if_icmp .ne 112, 3) := by decide +kernel
theorem dL_isArchive_723 : decode cL_isArchive 723 = .ok (.iload 11, 2) := by decide +kernel
theorem dL_isArchive_725 : decode cL_isArchive 725 = .ok (.ifCond .ne 7, 3) := by decide +kernel
theorem dL_isArchive_728 : decode cL_isArchive 728 = .ok (.iconst 1, 1) := by decide +kernel
theorem dL_isArchive_729 : decode cL_isArchive 729 = .ok (.goto 4, 3) := by decide +kernel
theorem dL_isArchive_732 : decode cL_isArchive 732 = .ok (.iconst 0, 1) := by decide +kernel
theorem dL_isArchive_733 : decode cL_isArchive 733 = .ok (.iload 7, 2) := by decide +kernel
theorem dL_isArchive_735 : decode cL_isArchive 735 = .ok (.ifCond .ne 7, 3) := by decide +kernel
theorem dL_isArchive_738 : decode cL_isArchive 738 = .ok (.iconst 1, 1) := by decide +kernel
theorem dL_isArchive_739 : decode cL_isArchive 739 = .ok (.goto 4, 3) := by decide +kernel
theorem dL_isArchive_742 : decode cL_isArchive 742 = .ok (.iconst 0, 1) := by decide +kernel
theorem dL_isArchive_743 : decode cL_isArchive 743 = .ok (.if_icmp .ne 89, 3) := by decide +kernel
theorem dL_isArchive_746 : decode cL_isArchive 746 = .ok (.iload 11, 2) := by decide +kernel
theorem dL_isArchive_748 : decode cL_isArchive 748 = .ok (.ifCond .ne 7, 3) := by decide +kernel
theorem dL_isArchive_751 : decode cL_isArchive 751 = .ok (.iconst 1, 1) := by decide +kernel
theorem dL_isArchive_752 : decode cL_isArchive 752 = .ok (.goto 4, 3) := by decide +kernel
theorem dL_isArchive_755 : decode cL_isArchive 755 = .ok (.iconst 0, 1) := by decide +kernel
theorem dL_isArchive_756 : decode cL_isArchive 756 = .ok (.aload_n 0, 1) := by decide +kernel
theorem dL_isArchive_757 : decode cL_isArchive 757 = .ok (.invokevirtual 80, 3) := by decide +kernel
theorem dL_isArchive_760 : decode cL_isArchive 760 = .ok (.iload_n 1, 1) := by decide +kernel
theorem dL_isArchive_761 : decode cL_isArchive 761 = .ok (.if_icmp .ne 7, 3) := by decide +kernel
theorem dL_isArchive_764 : decode cL_isArchive 764 = .ok (.iconst 1, 1) := by decide +kernel
theorem dL_isArchive_765 : decode cL_isArchive 765 = .ok (.goto 4, 3) := by decide +kernel
theorem dL_isArchive_768 : decode cL_isArchive 768 = .ok (.iconst 0, 1) := by decide +kernel
theorem dL_isArchive_769 : decode cL_isArchive 769 = .ok (.if_icmp .ne 63, 3) := by decide +kernel
theorem dL_isArchive_772 : decode cL_isArchive 772 = .ok (.iload 11, 2) := by decide +kernel
theorem dL_isArchive_774 : decode cL_isArchive 774 = .ok (.ifCond .ne 7, 3) := by decide +kernel
theorem dL_isArchive_777 : decode cL_isArchive 777 = .ok (.iconst 1, 1) := by decide +kernel
theorem dL_isArchive_778 : decode cL_isArchive 778 = .ok (.goto 4, 3) := by decide +kernel
theorem dL_isArchive_781 : decode cL_isArchive 781 = .ok (.iconst 0, 1) := by decide +kernel
theorem dL_isArchive_782 : decode cL_isArchive 782 = .ok (.aload_n 0, 1) := by decide +kernel
theorem dL_isArchive_783 : decode cL_isArchive 783 = .ok (.invokevirtual 83, 3) := by decide +kernel
theorem dL_isArchive_786 : decode cL_isArchive 786 = .ok (.ifCond .ge 7, 3) := by decide +kernel
theorem dL_isArchive_789 : decode cL_isArchive 789 = .ok (.iconst 1, 1) := by decide +kernel
theorem dL_isArchive_790 : decode cL_isArchive 790 = .ok (.goto 4, 3) := by decide +kernel
theorem dL_isArchive_793 : decode cL_isArchive 793 = .ok (.iconst 0, 1) := by decide +kernel
theorem dL_isArchive_794 : decode cL_isArchive 794 = .ok (.if_icmp .ne 38, 3) := by decide +kernel
theorem dL_isArchive_797 : decode cL_isArchive 797 = .ok (.iload 11, 2) := by decide +kernel
theorem dL_isArchive_799 : decode cL_isArchive 799 = .ok (.ifCond .ne 8, 3) := by decide +kernel
theorem dL_isArchive_802 : decode cL_isArchive 802 = .ok (.iload 6, 2) := by decide +kernel
theorem dL_isArchive_804 : decode cL_isArchive 804 = .ok (.ifCond .gt 28, 3) := by decide +kernel
theorem dL_isArchive_807 : decode cL_isArchive 807 = .ok (.aload_n 0, 1) := by decide +kernel
theorem dL_isArchive_808 : decode cL_isArchive 808 = .ok (.bipush 99, 2) := by decide +kernel
theorem dL_isArchive_810 : decode cL_isArchive 810 = .ok (.invokevirtual 86, 3) := by decide +kernel
theorem dL_isArchive_813 : decode cL_isArchive 813 = .ok (.ifCond .le 10, 3) := by decide +kernel
theorem dL_isArchive_816 : decode cL_isArchive 816 = .ok (.iload 11, 2) := by decide +kernel
theorem dL_isArchive_818 : decode cL_isArchive 818 = .ok (.bipush 99, 2) := by decide +kernel
theorem dL_isArchive_820 : decode cL_isArchive 820 = .ok (.if_icmp .le 12, 3) := by decide +kernel
theorem dL_isArchive_823 : decode cL_isArchive 823 = .ok (.iload 11, 2) := by decide +kernel
theorem dL_isArchive_825 : decode cL_isArchive 825 = .ok (.aload_n 0, 1) := by decide +kernel
theorem dL_isArchive_826 : decode cL_isArchive 826 = .ok (.invokevirtual 89, 3) := by decide +kernel
theorem dL_isArchive_829 : decode cL_isArchive 829 = .ok (.if_icmp .eq 5, 3) := by decide +kernel
theorem dL_isArchive_832 : decode cL_isArchive 832 = .ok (.iconst 0, 1) := by decide +kernel
theorem dL_isArchive_833 : decode cL_isArchive 833 = .ok (.ireturn, 1) := by decide +kernel
theorem dL_isArchive_834 : decode cL_isArchive 834 = .ok (.iload_n 2, 1) := by decide +kernel
theorem dL_isArchive_835 : decode cL_isArchive 835 = .ok (.aload_n 0, 1) := by decide +kernel
theorem dL_isArchive_836 : decode cL_isArchive 836 = .ok (.bipush 7, 2) := by decide +kernel
theorem dL_isArchive_838 : decode cL_isArchive 838 = .ok (.invokevirtual 30, 3) := by decide +kernel
theorem dL_isArchive_841 : decode cL_isArchive 841 = .ok (.if_icmp .ne 117, 3) := by decide +kernel
theorem dL_isArchive_844 : decode cL_isArchive 844 = .ok (.iload 8, 2) := by decide +kernel
theorem dL_isArchive_846 : decode cL_isArchive 846 = .ok (.iload_n 2, 1) := by decide +kernel
theorem dL_isArchive_847 : decode cL_isArchive 847 = .ok (.if_icmp .ne 111, 3) := by decide +kernel
theorem dL_isArchive_850 : decode cL_isArchive 850 = .ok (.iload_n 3, 1) := by decide +kernel
theorem dL_isArchive_851 : decode cL_isArchive 851 = .ok (.aload_n 0, 1) := by decide +kernel
theorem dL_isArchive_852 : decode cL_isArchive 852 = .ok (.bipush 8, 2) := by decide +kernel
theorem dL_isArchive_854 : decode cL_isArchive 854 = .ok (.invokevirtual 30, 3) := by decide +kernel
theorem dL_isArchive_857 : decode cL_isArchive 857 = .ok (.if_icmp .ne 101, 3) := by decide +kernel
theorem dL_isArchive_860 : decode cL_isArchive 860 = .ok (.iload_n 1, 1) := by decide +kernel
theorem dL_isArchive_861 : decode cL_isArchive 861 = .ok (.iload_n 2, 1) := by decide +kernel
theorem dL_isArchive_862 : decode cL_isArchive 862 = .ok (.iadd, 1) := by decide +kernel
theorem dL_isArchive_863 : decode cL_isArchive 863 = .ok (.iload_n 3, 1) := by decide +kernel
theorem dL_isArchive_864 : decode cL_isArchive 864 = .ok (.iadd, 1) := by decide +kernel
theorem dL_isArchive_865 : decode cL_isArchive 865 = .ok (.aload_n 0, 1) := by decide +kernel
theorem dL_isArchive_866 : decode cL_isArchive 866 = .ok (.iconst 5, 1) := by decide +kernel
theorem dL_isArchive_867 : decode cL_isArchive 867 = .ok (.invokevirtual 30, 3) := by decide +kernel
theorem dL_isArchive_870 : decode cL_isArchive 870 = .ok (.if_icmp .ne 88, 3) := by decide +kernel
theorem dL_isArchive_873 : decode cL_isArchive 873 = .ok (.iload 4, 2) := by decide +kernel
theorem dL_isArchive_875 : decode cL_isArchive 875 = .ok (.aload_n 0, 1) := by decide +kernel
theorem dL_isArchive_876 : decode cL_isArchive 876 = .ok (.iconst 4, 1) := by decide +kernel
theorem dL_isArchive_877 : decode cL_isArchive 877 = .ok (.invokevirtual 34, 3) := by decide +kernel
theorem dL_isArchive_880 : decode cL_isArchive 880 = .ok (.if_icmp .ne 78, 3) := by decide +kernel
theorem dL_isArchive_883 : decode cL_isArchive 883 = .ok (.iload 9, 2) := by decide +kernel
theorem dL_isArchive_885 : decode cL_isArchive 885 = .ok (.aload_n 0, 1) := by decide +kernel
theorem dL_isArchive_886 : decode cL_isArchive 886 = .ok (.iconst 4, 1) := by decide +kernel
theorem dL_isArchive_887 : decode cL_isArchive 887 = .ok (.invokevirtual 34, 3) := by decide +kernel
theorem dL_isArchive_890 : decode cL_isArchive 890 = .ok (.if_icmp .ne 68, 3) := by decide +kernel
theorem dL_isArchive_893 : decode cL_isArchive 893 = .ok (.iload 5, 2) := by decide +kernel
theorem dL_isArchive_895 : decode cL_isArchive 895 = .ok (.aload_n 0, 1) := by decide +kernel
theorem dL_isArchive_896 : decode cL_isArchive 896 = .ok (.bipush 9, 2) := by decide +kernel
theorem dL_isArchive_898 : decode cL_isArchive 898 = .ok (.invokevirtual 30, 3) := by decide +kernel
theorem dL_isArchive_901 : decode cL_isArchive 901 = .ok (.if_icmp .ne 57, 3) := by decide +kernel
theorem dL_isArchive_904 : decode cL_isArchive 904 = .ok (.iload 6, 2) := by decide +kernel
theorem dL_isArchive_906 : decode cL_isArchive 906 = .ok (.aload_n 0, 1) := by decide +kernel
theorem dL_isArchive_907 : decode cL_isArchive 907 = .ok (.invokevirtual 92, 3) := by decide +kernel
theorem dL_isArchive_910 : decode cL_isArchive 910 = .ok (.if_icmp .ne 48, 3) := by decide +kernel
theorem dL_isArchive_913 : decode cL_isArchive 913 = .ok (.aload_n 0, 1) := by decide +kernel
theorem dL_isArchive_914 : decode cL_isArchive 914 = .ok (.bipush 6, 2) := by decide +kernel
theorem dL_isArchive_916 : decode cL_isArchive 916 = .ok (.invokevirtual 34, 3) := by decide +kernel
theorem dL_isArchive_919 : decode cL_isArchive 919 = .ok (.aload_n 0, 1) := by decide +kernel
theorem dL_isArchive_920 : decode cL_isArchive 920 = .ok (.iconst 4, 1) := by decide +kernel
theorem dL_isArchive_921 : decode cL_isArchive 921 = .ok (.invokevirtual 34, 3) := by decide +kernel
theorem dL_isArchive_924 : decode cL_isArchive 924 = .ok (.if_icmp .gt 34, 3) := by decide +kernel
theorem dL_isArchive_927 : decode cL_isArchive 927 = .ok (.aload_n 0, 1) := by decide +kernel
theorem dL_isArchive_928 : decode cL_isArchive 928 = .ok (.iconst 4, 1) := by decide +kernel
theorem dL_isArchive_929 : decode cL_isArchive 929 = .ok (.invokevirtual 34, 3) := by decide +kernel
theorem dL_isArchive_932 : decode cL_isArchive 932 = .ok (.aload_n 0, 1) := by decide +kernel
theorem dL_isArchive_933 : decode cL_isArchive 933 = .ok (.bipush 9, 2) := by decide +kernel
theorem dL_isArchive_935 : decode cL_isArchive 935 = .ok (.invokevirtual 30, 3) := by decide +kernel
theorem dL_isArchive_938 : decode cL_isArchive 938 = .ok (.iadd, 1) := by decide +kernel
theorem dL_isArchive_939 : decode cL_isArchive 939 = .ok (.aload_n 0, 1) := by decide +kernel
theorem dL_isArchive_940 : decode cL_isArchive 940 = .ok (.iconst 3, 1) := by decide +kernel
theorem dL_isArchive_941 : decode cL_isArchive 941 = .ok (.invokevirtual 34, 3) := by decide +kernel
theorem dL_isArchive_944 : decode cL_isArchive 944 = .ok (.if_icmp .gt 14, 3) := by decide +kernel
theorem dL_isArchive_947 : decode cL_isArchive 947 = .ok (.aload_n 0, 1) := by decide +kernel
theorem dL_isArchive_948 : decode cL_isArchive 948 = .ok (.invokevirtual 95, 3) := by decide +kernel
theorem dL_isArchive_951 : decode cL_isArchive 951 = .ok (.ifCond .ne 7, 3) := by decide +kernel
theorem dL_isArchive_954 : decode cL_isArchive 954 = .ok (.iconst 1, 1) := by decide +kernel
theorem dL_isArchive_955 : decode cL_isArchive 955 = .ok (.goto 4, 3) := by decide +kernel
theorem dL_isArchive_958 : decode cL_isArchive 958 = .ok (.iconst 0, 1) := by decide +kernel
theorem dL_isArchive_959 : decode cL_isArchive 959 = .ok (.ireturn, 1) := by decide +kernel
theorem dL_isServed_0 : decode cL_isServed 0 = .ok (.aload_n 0, 1) := by decide +kernel
theorem dL_isServed_1 : decode cL_isServed 1 = .ok (.invokevirtual 98, 3) := by decide +kernel
theorem dL_isServed_4 : decode cL_isServed 4 = .ok (.iconst 1, 1) := by decide +kernel
theorem dL_isServed_5 : decode cL_isServed 5 = .ok (.iload_n 1, 1) := by decide +kernel
theorem dL_isServed_6 : decode cL_isServed 6 = .ok (.bipush 8, 2) := by decide +kernel
theorem dL_isServed_8 : decode cL_isServed 8 = .ok (.invokestatic 101, 3) := by decide +kernel
theorem dL_isServed_11 : decode cL_isServed 11 = .ok (.iadd, 1) := by decide +kernel
theorem dL_isServed_12 : decode cL_isServed 12 = .ok (.istore_n 2, 1) := by decide +kernel
theorem dL_isServed_13 : decode cL_isServed 13 = .ok (.aload_n 0, 1) := by decide +kernel
theorem dL_isServed_14 : decode cL_isServed 14 = .ok (.iload_n 2, 1) := by decide +kernel
theorem dL_isServed_15 : decode cL_isServed 15 = .ok (.invokevirtual 104, 3) := by decide +kernel
theorem dL_isServed_18 : decode cL_isServed 18 = .ok (.istore_n 3, 1) := by decide +kernel
theorem dL_isServed_19 : decode cL_isServed 19 = .ok (.aload_n 0, 1) := by decide +kernel
theorem dL_isServed_20 : decode cL_isServed 20 = .ok (.iload_n 2, 1) := by decide +kernel
theorem dL_isServed_21 : decode cL_isServed 21 = .ok (.invokevirtual 107, 3) := by decide +kernel
theorem dL_isServed_24 : decode cL_isServed 24 = .ok (.istore 4, 2) := by decide +kernel
theorem dL_isServed_26 : decode cL_isServed 26 = .ok (.aload_n 0, 1) := by decide +kernel
theorem dL_isServed_27 : decode cL_isServed 27 = .ok (.iconst 4, 1) := by decide +kernel
theorem dL_isServed_28 : decode cL_isServed 28 = .ok (.invokevirtual 34, 3) := by decide +kernel
theorem dL_isServed_31 : decode cL_isServed 31 = .ok (.istore 5, 2) := by decide +kernel
theorem dL_isServed_33 : decode cL_isServed 33 = .ok (.aload_n 0, 1) := by decide +kernel
theorem dL_isServed_34 : decode cL_isServed 34 = .ok (.bipush 9, 2) := by decide +kernel
theorem dL_isServed_36 : decode cL_isServed 36 = .ok (.invokevirtual 30, 3) := by decide +kernel
theorem dL_isServed_39 : decode cL_isServed 39 = .ok (.ifCond .le 11, 3) := by decide +kernel
theorem dL_isServed_42 : decode cL_isServed 42 = .ok (.aload_n 0, 1) := by decide +kernel
theorem dL_isServed_43 : decode cL_isServed 43 = .ok (.iconst 0, 1) := by decide +kernel
theorem dL_isServed_44 : decode cL_isServed 44 = .ok (.invokevirtual 110, 3) := by decide +kernel
theorem dL_isServed_47 : decode cL_isServed 47 = .ok (.goto 4, 3) := by decide +kernel
theorem dL_isServed_50 : decode cL_isServed 50 = .ok (.iconst (-1), 1) := by decide +kernel
theorem dL_isServed_51 : decode cL_isServed 51 = .ok (.istore 6, 2) := by decide +kernel
theorem dL_isServed_53 : decode cL_isServed 53 = .ok (.aload_n 0, 1) := by decide +kernel
theorem dL_isServed_54 : decode cL_isServed 54 = .ok (.iconst 0, 1) := by decide +kernel
theorem dL_isServed_55 : decode cL_isServed 55 = .ok (.iconst 0, 1) := by decide +kernel
theorem dL_isServed_56 : decode cL_isServed 56 = .ok (.invokevirtual 41, 3) := by decide +kernel
theorem dL_isServed_59 : decode cL_isServed 59 = .ok (.istore 7, 2) := by decide +kernel
theorem dL_isServed_61 : decode cL_isServed 61 = .ok (.aload_n 0, 1) := by decide +kernel
theorem dL_isServed_62 : decode cL_isServed 62 = .ok (.iconst 0, 1) := by decide +kernel
theorem dL_isServed_63 : decode cL_isServed 63 = .ok (.iconst 1, 1) := by decide +kernel
theorem dL_isServed_64 : decode cL_isServed 64 = .ok (.invokevirtual 41, 3) := by decide +kernel
theorem dL_isServed_67 : decode cL_isServed 67 = .ok (.istore 8, 2) := by decide +kernel
theorem dL_isServed_69 : decode cL_isServed 69 = .ok (.iconst 1, 1) := by decide +kernel
theorem dL_isServed_70 : decode cL_isServed 70 = .ok (.istore 9, 2) := by decide +kernel
theorem dL_isServed_72 : decode cL_isServed 72 = .ok (.iload 9, 2) := by decide +kernel
theorem dL_isServed_74 : decode cL_isServed 74 = .ok (.iload_n 2, 1) := by decide +kernel
theorem dL_isServed_75 : decode cL_isServed 75 = .ok (.if_icmp .gt 64, 3) := by decide +kernel
theorem dL_isServed_78 : decode cL_isServed 78 = .ok (.aload_n 0, 1) := by decide +kernel
theorem dL_isServed_79 : decode cL_isServed 79 = .ok (.iconst 1, 1) := by decide +kernel
theorem dL_isServed_80 : decode cL_isServed 80 = .ok (.invokevirtual 113, 3) := by decide +kernel
theorem dL_isServed_83 : decode cL_isServed 83 = .ok (.ifCond .ge 5, 3) := by decide +kernel
theorem dL_isServed_86 : decode cL_isServed 86 = .ok (.iconst 0, 1) := by decide +kernel
theorem dL_isServed_87 : decode cL_isServed 87 = .ok (.ireturn, 1) := by decide +kernel
theorem dL_isServed_88 : decode cL_isServed 88 = .ok (.iload 7, 2) := by decide +kernel
theorem dL_isServed_90 : decode cL_isServed 90 = .ok (.ifCond .lt 43, 3) := by decide +kernel
theorem dL_isServed_93 : decode cL_isServed 93 = .ok (.iload 6, 2) := by decide +kernel
theorem dL_isServed_95 : decode cL_isServed 95 = .ok (.ifCond .lt 14, 3) := by decide +kernel
theorem dL_isServed_98 : decode cL_isServed 98 = .ok (.iload 6, 2) := by decide +kernel
theorem dL_isServed_100 : decode cL_isServed 100 = .ok (.iload 9, 2) := by decide +kernel
theorem dL_isServed_102 : decode cL_isServed 102 = .ok (.if_icmp .gt 7, 3) := by decide +kernel
theorem dL_isServed_105 : decode cL_isServed 105 = .ok (.iconst 1, 1) := by decide +kernel
theorem dL_isServed_106 : decode cL_isServed 106 = .ok (.goto 4, 3) := by decide +kernel
theorem dL_isServed_109 : decode cL_isServed 109 = .ok (.iconst 0, 1) := by decide +kernel
theorem dL_isServed_110 : decode cL_isServed 110 = .ok (.aload_n 0, 1) := by decide +kernel
theorem dL_isServed_111 : decode cL_isServed 111 = .ok (.iload 7, 2) := by decide +kernel
theorem dL_isServed_113 : decode cL_isServed 113 = .ok (.iload 8, 2) := by decide +kernel
theorem dL_isServed_115 : decode cL_isServed 115 = .ok (.invokevirtual 68, 3) := by decide +kernel
theorem dL_isServed_118 : decode cL_isServed 118 = .ok (.bipush (-3), 2) := by decide +kernel
theorem dL_isServed_120 : decode cL_isServed 120 = .ok (.if_icmp .eq 7, 3) := by decide +kernel
theorem dL_isServed_123 : decode cL_isServed 123 = .ok (.iconst 1, 1) := by decide +kernel
theorem dL_isServed_124 : decode cL_isServed 124 = .ok (.goto 4, 3) := by decide +kernel
theorem dL_isServed_127 : decode cL_isServed 127 = .ok (.iconst 0, 1) := by decide +kernel
theorem dL_isServed_128 : decode cL_isServed 128 = .ok (.if_icmp .eq 5, 3) := by decide +kernel
theorem dL_isServed_131 : decode cL_isServed 131 = .ok (.iconst 0, 1) := by decide +kernel
theorem dL_isServed_132 : decode cL_isServed 132 = .ok (.ireturn, 1) := by decide +kernel
theorem dL_isServed_133 : decode cL_isServed 133 = .ok (.iinc 9 1, 3) := by decide +kernel
theorem dL_isServed_136 : decode cL_isServed 136 = .ok (.goto (-64), 3) := by decide +kernel
theorem dL_isServed_139 : decode cL_isServed 139 = .ok (.aload_n 0, 1) := by decide +kernel
theorem dL_isServed_140 : decode cL_isServed 140 = .ok (.iconst 4, 1) := by decide +kernel
theorem dL_isServed_141 : decode cL_isServed 141 = .ok (.invokevirtual 34, 3) := by decide +kernel
theorem dL_isServed_144 : decode cL_isServed 144 = .ok (.iload 5, 2) := by decide +kernel
theorem dL_isServed_146 : decode cL_isServed 146 = .ok (.iload_n 3, 1) := by decide +kernel
theorem dL_isServed_147 : decode cL_isServed 147 = .ok (.iadd, 1) := by decide +kernel
theorem dL_isServed_148 : decode cL_isServed 148 = .ok (.if_icmp .ne 21, 3) := by decide +kernel
theorem dL_isServed_151 : decode cL_isServed 151 = .ok (.aload_n 0, 1) := by decide +kernel
theorem dL_isServed_152 : decode cL_isServed 152 = .ok (.bipush 9, 2) := by decide +kernel
theorem dL_isServed_154 : decode cL_isServed 154 = .ok (.invokevirtual 30, 3) := by decide +kernel
theorem dL_isServed_157 : decode cL_isServed 157 = .ok (.iload 4, 2) := by decide +kernel
theorem dL_isServed_159 : decode cL_isServed 159 = .ok (.if_icmp .ne 10, 3) := by decide +kernel
theorem dL_isServed_162 : decode cL_isServed 162 = .ok (.aload_n 0, 1) := by decide +kernel
theorem dL_isServed_163 : decode cL_isServed 163 = .ok (.invokevirtual 116, 3) := by decide +kernel
theorem dL_isServed_166 : decode cL_isServed 166 = .ok (.ifCond .ne 5, 3) := by decide +kernel
theorem dL_isServed_169 : decode cL_isServed 169 = .ok (.iconst 0, 1) := by decide +kernel
theorem dL_isServed_170 : decode cL_isServed 170 = .ok (.ireturn, 1) := by decide +kernel
theorem dL_isServed_171 : decode cL_isServed 171 = .ok (.aload_n 0, 1) := by decide +kernel
theorem dL_isServed_172 : decode cL_isServed 172 = .ok (.bipush 9, 2) := by decide +kernel
theorem dL_isServed_174 : decode cL_isServed 174 = .ok (.invokevirtual 30, 3) := by decide +kernel
theorem dL_isServed_177 : decode cL_isServed 177 = .ok (.ifCond .le 13, 3) := by decide +kernel
theorem dL_isServed_180 : decode cL_isServed 180 = .ok (.aload_n 0, 1) := by decide +kernel
theorem dL_isServed_181 : decode cL_isServed 181 = .ok (.iconst 0, 1) := by decide +kernel
theorem dL_isServed_182 : decode cL_isServed 182 = .ok (.invokevirtual 120, 3) := by decide +kernel
theorem dL_isServed_185 : decode cL_isServed 185 = .ok (.ifCond .ge (-14), 3) := by decide +kernel
theorem dL_isServed_188 : decode cL_isServed 188 = .ok (.iconst 0, 1) := by decide +kernel
theorem dL_isServed_189 : decode cL_isServed 189 = .ok (.ireturn, 1) := by decide +kernel
theorem dL_isServed_190 : decode cL_isServed 190 = .ok (.aload_n 0, 1) := by decide +kernel
theorem dL_isServed_191 : decode cL_isServed 191 = .ok (.bipush 6, 2) := by decide +kernel
theorem dL_isServed_193 : decode cL_isServed 193 = .ok (.invokevirtual 30, 3) := by decide +kernel
theorem dL_isServed_196 : decode cL_isServed 196 = .ok (.ifCond .le 20, 3) := by decide +kernel
theorem dL_isServed_199 : decode cL_isServed 199 = .ok (.aload_n 0, 1) := by decide +kernel
theorem dL_isServed_200 : decode cL_isServed 200 = .ok (.iload_n 1, 1) := by decide +kernel
theorem dL_isServed_201 : decode cL_isServed 201 = .ok (.aload_n 0, 1) := by decide +kernel
theorem dL_isServed_202 : decode cL_isServed 202 = .ok (.bipush 6, 2) := by decide +kernel
theorem dL_isServed_204 : decode cL_isServed 204 = .ok (.invokevirtual 30, 3) := by decide +kernel
theorem dL_isServed_207 : decode cL_isServed 207 = .ok (.invokestatic 101, 3) := by decide +kernel
theorem dL_isServed_210 : decode cL_isServed 210 = .ok (.invokevirtual 50, 3) := by decide +kernel
theorem dL_isServed_213 : decode cL_isServed 213 = .ok (.goto 4, 3) := by decide +kernel
theorem dL_isServed_216 : decode cL_isServed 216 = .ok (.iconst (-1), 1) := by decide +kernel
theorem dL_isServed_217 : decode cL_isServed 217 = .ok (.istore 9, 2) := by decide +kernel
theorem dL_isServed_219 : decode cL_isServed 219 = .ok (.iload 9, 2) := by decide +kernel
theorem dL_isServed_221 : decode cL_isServed 221 = .ok (.ifCond .lt 126, 3) := by decide +kernel
theorem dL_isServed_224 : decode cL_isServed 224 = .ok (.iload_n 1, 1) := by decide +kernel
theorem dL_isServed_225 : decode cL_isServed 225 = .ok (.iconst 2, 1) := by decide +kernel
theorem dL_isServed_226 : decode cL_isServed 226 = .ok (.ishr, 1) := by decide +kernel
theorem dL_isServed_227 : decode cL_isServed 227 = .ok (.aload_n 0, 1) := by decide +kernel
theorem dL_isServed_228 : decode cL_isServed 228 = .ok (.iconst 3, 1) := by decide +kernel
theorem dL_isServed_229 : decode cL_isServed 229 = .ok (.invokevirtual 30, 3) := by decide +kernel
theorem dL_isServed_232 : decode cL_isServed 232 = .ok (.invokestatic 101, 3) := by decide +kernel
theorem dL_isServed_235 : decode cL_isServed 235 = .ok (.istore 10, 2) := by decide +kernel
theorem dL_isServed_237 : decode cL_isServed 237 = .ok (.aload_n 0, 1) := by decide +kernel
theorem dL_isServed_238 : decode cL_isServed 238 = .ok (.iload 9, 2) := by decide +kernel
theorem dL_isServed_240 : decode cL_isServed 240 = .ok (.iconst 0, 1) := by decide +kernel
theorem dL_isServed_241 : decode cL_isServed 241 = .ok (.invokevirtual 123, 3) := by decide +kernel
theorem dL_isServed_244 : decode cL_isServed 244 = .ok (.istore 11, 2) := by decide +kernel
theorem dL_isServed_246 : decode cL_isServed 246 = .ok (.iload 11, 2) := by decide +kernel
theorem dL_isServed_248 : decode cL_isServed 248 = .ok (.ifCond .lt 14, 3) := by decide +kernel
theorem dL_isServed_251 : decode cL_isServed 251 = .ok (.aload_n 0, 1) := by decide +kernel
theorem dL_isServed_252 : decode cL_isServed 252 = .ok (.iload 10, 2) := by decide +kernel
theorem dL_isServed_254 : decode cL_isServed 254 = .ok (.iload 9, 2) := by decide +kernel
theorem dL_isServed_256 : decode cL_isServed 256 = .ok (.invokevirtual 126, 3) := by decide +kernel
theorem dL_isServed_259 : decode cL_isServed 259 = .ok (.ifCond .eq 5, 3) := by decide +kernel
theorem dL_isServed_262 : decode cL_isServed 262 = .ok (.iconst 0, 1) := by decide +kernel
theorem dL_isServed_263 : decode cL_isServed 263 = .ok (.ireturn, 1) := by decide +kernel
theorem dL_isServed_264 : decode cL_isServed 264 = .ok (.aload_n 0, 1) := by decide +kernel
theorem dL_isServed_265 : decode cL_isServed 265 = .ok (.iconst 0, 1) := by decide +kernel
theorem dL_isServed_266 : decode cL_isServed 266 = .ok (.iconst 4, 1) := by decide +kernel
theorem dL_isServed_267 : decode cL_isServed 267 = .ok (.invokevirtual 41, 3) := by decide +kernel
theorem dL_isServed_270 : decode cL_isServed 270 = .ok (.ifCond .ne 77, 3) := by decide +kernel
theorem dL_isServed_273 : decode cL_isServed 273 = .ok (.aload_n 0, 1) := by decide +kernel
theorem dL_isServed_274 : decode cL_isServed 274 = .ok (.bipush 8, 2) := by decide +kernel
theorem dL_isServed_276 : decode cL_isServed 276 = .ok (.invokevirtual 30, 3) := by decide +kernel
theorem dL_isServed_279 : decode cL_isServed 279 = .ok (.ifCond .ne 68, 3) := by decide +kernel
theorem dL_isServed_282 : decode cL_isServed 282 = .ok (.aload_n 0, 1) := by decide +kernel
theorem dL_isServed_283 : decode cL_isServed 283 = .ok (.iconst 0, 1) := by decide +kernel
theorem dL_isServed_284 : decode cL_isServed 284 = .ok (.invokevirtual 110, 3) := by decide +kernel
theorem dL_isServed_287 : decode cL_isServed 287 = .ok (.istore 12, 2) := by decide +kernel
theorem dL_isServed_289 : decode cL_isServed 289 = .ok (.iload 12, 2) := by decide +kernel
theorem dL_isServed_291 : decode cL_isServed 291 = .ok (.aload_n 0, 1) := by decide +kernel
theorem dL_isServed_292 : decode cL_isServed 292 = .ok (.aload_n 0, 1) := by decide +kernel
theorem dL_isServed_293 : decode cL_isServed 293 = .ok (.iload 9, 2) := by decide +kernel
theorem dL_isServed_295 : decode cL_isServed 295 = .ok (.iconst 0, 1) := by decide +kernel
theorem dL_isServed_296 : decode cL_isServed 296 = .ok (.invokevirtual 37, 3) := by decide +kernel
theorem dL_isServed_299 : decode cL_isServed 299 = .ok (.invokevirtual 56, 3) := by decide +kernel
theorem dL_isServed_302 : decode cL_isServed 302 = .ok (.ifCond .lt 7, 3) := by decide +kernel
theorem dL_isServed_305 : decode cL_isServed 305 = .ok (.iconst 1, 1) := by decide +kernel
theorem dL_isServed_306 : decode cL_isServed 306 = .ok (.goto 4, 3) := by decide +kernel
theorem dL_isServed_309 : decode cL_isServed 309 = .ok (.iconst 3, 1) := by decide +kernel
theorem dL_isServed_310 : decode cL_isServed 310 = .ok (.if_icmp .ne 35, 3) := by decide +kernel
theorem dL_isServed_313 : decode cL_isServed 313 = .ok (.aload_n 0, 1) := by decide +kernel
theorem dL_isServed_314 : decode cL_isServed 314 = .ok (.iconst 3, 1) := by decide +kernel
theorem dL_isServed_315 : decode cL_isServed 315 = .ok (.invokevirtual 113, 3) := by decide +kernel
theorem dL_isServed_318 : decode cL_isServed 318 = .ok (.iconst 1, 1) := by decide +kernel
theorem dL_isServed_319 : decode cL_isServed 319 = .ok (.if_icmp .ne 26, 3) := by decide +kernel
theorem dL_isServed_322 : decode cL_isServed 322 = .ok (.aload_n 0, 1) := by decide +kernel
theorem dL_isServed_323 : decode cL_isServed 323 = .ok (.iload 9, 2) := by decide +kernel
theorem dL_isServed_325 : decode cL_isServed 325 = .ok (.iconst 2, 1) := by decide +kernel
theorem dL_isServed_326 : decode cL_isServed 326 = .ok (.invokevirtual 37, 3) := by decide +kernel
theorem dL_isServed_329 : decode cL_isServed 329 = .ok (.iconst 1, 1) := by decide +kernel
theorem dL_isServed_330 : decode cL_isServed 330 = .ok (.if_icmp .ne 15, 3) := by decide +kernel
theorem dL_isServed_333 : decode cL_isServed 333 = .ok (.aload_n 0, 1) := by decide +kernel
theorem dL_isServed_334 : decode cL_isServed 334 = .ok (.iload 9, 2) := by decide +kernel
theorem dL_isServed_336 : decode cL_isServed 336 = .ok (.iconst 3, 1) := by decide +kernel
theorem dL_isServed_337 : decode cL_isServed 337 = .ok (.invokevirtual 37, 3) := by decide +kernel
theorem dL_isServed_340 : decode cL_isServed 340 = .ok (.iload 10, 2) := by decide +kernel
theorem dL_isServed_342 : decode cL_isServed 342 = .ok (.if_icmp .eq 5, 3) := by decide +kernel
theorem dL_isServed_345 : decode cL_isServed 345 = .ok (.iconst 0, 1) := by decide +kernel
theorem dL_isServed_346 : decode cL_isServed 346 = .ok (.ireturn, 1) := by decide +kernel
theorem dL_isServed_347 : decode cL_isServed 347 = .ok (.aload_n 0, 1) := by decide +kernel
theorem dL_isServed_348 : decode cL_isServed 348 = .ok (.invokevirtual 116, 3) := by decide +kernel
theorem dL_isServed_351 : decode cL_isServed 351 = .ok (.ireturn, 1) := by decide +kernel
theorem dL_act_0 : decode cL_act 0 = .ok (.iload_n 1, 1) := by decide +kernel
theorem dL_act_1 : decode cL_act 1 = .ok (.bipush 20, 2) := by decide +kernel
theorem dL_act_3 : decode cL_act 3 = .ok (.invokestatic 101, 3) := by decide +kernel
theorem dL_act_6 : decode cL_act 6 = .ok (.istore_n 2, 1) := by decide +kernel
theorem dL_act_7 : decode cL_act 7 = .ok (.iload_n 1, 1) := by decide +kernel
theorem dL_act_8 : decode cL_act 8 = .ok (.iconst 4, 1) := by decide +kernel
theorem dL_act_9 : decode cL_act 9 = .ok (.ishr, 1) := by decide +kernel
theorem dL_act_10 : decode cL_act 10 = .ok (.istore_n 3, 1) := by decide +kernel
theorem dL_act_11 : decode cL_act 11 = .ok (.aload_n 0, 1) := by decide +kernel
theorem dL_act_12 : decode cL_act 12 = .ok (.iconst 5, 1) := by decide +kernel
theorem dL_act_13 : decode cL_act 13 = .ok (.invokevirtual 30, 3) := by decide +kernel
theorem dL_act_16 : decode cL_act 16 = .ok (.istore 4, 2) := by decide +kernel
theorem dL_act_18 : decode cL_act 18 = .ok (.iload_n 3, 1) := by decide +kernel
theorem dL_act_19 : decode cL_act 19 = .ok (.iconst 2, 1) := by decide +kernel
theorem dL_act_20 : decode cL_act 20 = .ok (.ishr, 1) := by decide +kernel
theorem dL_act_21 : decode cL_act 21 = .ok (.iload 4, 2) := by decide +kernel
theorem dL_act_23 : decode cL_act 23 = .ok (.invokestatic 101, 3) := by decide +kernel
theorem dL_act_26 : decode cL_act 26 = .ok (.istore 5, 2) := by decide +kernel
theorem dL_act_28 : decode cL_act 28 = .ok (.aload_n 0, 1) := by decide +kernel
theorem dL_act_29 : decode cL_act 29 = .ok (.bipush 6, 2) := by decide +kernel
theorem dL_act_31 : decode cL_act 31 = .ok (.invokevirtual 30, 3) := by decide +kernel
theorem dL_act_34 : decode cL_act 34 = .ok (.istore 6, 2) := by decide +kernel
theorem dL_act_36 : decode cL_act 36 = .ok (.aload_n 0, 1) := by decide +kernel
theorem dL_act_37 : decode cL_act 37 = .ok (.bipush 9, 2) := by decide +kernel
theorem dL_act_39 : decode cL_act 39 = .ok (.invokevirtual 30, 3) := by decide +kernel
theorem dL_act_42 : decode cL_act 42 = .ok (.istore 7, 2) := by decide +kernel
theorem dL_act_44 : decode cL_act 44 = .ok (.aload_n 0, 1) := by decide +kernel
theorem dL_act_45 : decode cL_act 45 = .ok (.iload 5, 2) := by decide +kernel
theorem dL_act_47 : decode cL_act 47 = .ok (.iconst 2, 1) := by decide +kernel
theorem dL_act_48 : decode cL_act 48 = .ok (.invokevirtual 37, 3) := by decide +kernel
theorem dL_act_51 : decode cL_act 51 = .ok (.ifCond .ne 7, 3) := by decide +kernel
theorem dL_act_54 : decode cL_act 54 = .ok (.iconst 1, 1) := by decide +kernel
theorem dL_act_55 : decode cL_act 55 = .ok (.goto 4, 3) := by decide +kernel
theorem dL_act_58 : decode cL_act 58 = .ok (.iconst 0, 1) := by decide +kernel
theorem dL_act_59 : decode cL_act 59 = .ok (.istore 8, 2) := by decide +kernel
theorem dL_act_61 : decode cL_act 61 = .ok (.iload_n 2, 1) := by decide +kernel
theorem dL_act_62 : decode cL_act 62 = .ok (.bipush 7, 2) := by decide +kernel
theorem dL_act_64 : decode cL_act 64 = .ok (.if_icmp .ge 104, 3) := by decide +kernel
theorem dL_act_67 : decode cL_act 67 = .ok (.iload_n 3, 1) := by decide +kernel
theorem dL_act_68 : decode cL_act 68 = .ok (.aload_n 0, 1) := by decide +kernel
theorem dL_act_69 : decode cL_act 69 = .ok (.iconst 3, 1) := by decide +kernel
theorem dL_act_70 : decode cL_act 70 = .ok (.invokevirtual 30, 3) := by decide +kernel
theorem dL_act_73 : decode cL_act 73 = .ok (.invokestatic 101, 3) := by decide +kernel
theorem dL_act_76 : decode cL_act 76 = .ok (.istore 9, 2) := by decide +kernel
theorem dL_act_78 : decode cL_act 78 = .ok (.aload_n 0, 1) := by decide +kernel
theorem dL_act_79 : decode cL_act 79 = .ok (.iload 9, 2) := by decide +kernel
theorem dL_act_81 : decode cL_act 81 = .ok (.iload 5, 2) := by decide +kernel
theorem dL_act_83 : decode cL_act 83 = .ok (.invokevirtual 68, 3) := by decide +kernel
theorem dL_act_86 : decode cL_act 86 = .ok (.istore 10, 2) := by decide +kernel
theorem dL_act_88 : decode cL_act 88 = .ok (.aload_n 0, 1) := by decide +kernel
theorem dL_act_89 : decode cL_act 89 = .ok (.iload 9, 2) := by decide +kernel
theorem dL_act_91 : decode cL_act 91 = .ok (.iload 5, 2) := by decide +kernel
theorem dL_act_93 : decode cL_act 93 = .ok (.invokevirtual 126, 3) := by decide +kernel
theorem dL_act_96 : decode cL_act 96 = .ok (.istore 11, 2) := by decide +kernel
theorem dL_act_98 : decode cL_act 98 = .ok (.iload 10, 2) := by decide +kernel
theorem dL_act_100 : decode cL_act 100 = .ok (.ifCond .ge 18, 3) := by decide +kernel
theorem dL_act_103 : decode cL_act 103 = .ok (.iload 11, 2) := by decide +kernel
theorem dL_act_105 : decode cL_act 105 = .ok (.iload 10, 2) := by decide +kernel
theorem dL_act_107 : decode cL_act 107 = .ok (.if_icmp .ne 7, 3) := by decide +kernel
theorem dL_act_110 : decode cL_act 110 = .ok (.iconst 1, 1) := by decide +kernel
theorem dL_act_111 : decode cL_act 111 = .ok (.goto 56, 3) := by decide +kernel
theorem dL_act_114 : decode cL_act 114 = .ok (.iconst 0, 1) := by decide +kernel
theorem dL_act_115 : decode cL_act 115 = .ok (.goto 52, 3) := by decide +kernel
theorem dL_act_118 : decode cL_act 118 = .ok (.iload 11, 2) := by decide +kernel
theorem dL_act_120 : decode cL_act 120 = .ok (.iload 7, 2) := by decide +kernel
theorem dL_act_122 : decode cL_act 122 = .ok (.if_icmp .ne 44, 3) := by decide +kernel
theorem dL_act_125 : decode cL_act 125 = .ok (.aload_n 0, 1) := by decide +kernel
theorem dL_act_126 : decode cL_act 126 = .ok (.bipush 9, 2) := by decide +kernel
theorem dL_act_128 : decode cL_act 128 = .ok (.invokevirtual 30, 3) := by decide +kernel
theorem dL_act_131 : decode cL_act 131 = .ok (.iload 7, 2) := by decide +kernel
theorem dL_act_133 : decode cL_act 133 = .ok (.iconst 1, 1) := by decide +kernel
theorem dL_act_134 : decode cL_act 134 = .ok (.iadd, 1) := by decide +kernel
theorem dL_act_135 : decode cL_act 135 = .ok (.if_icmp .ne 31, 3) := by decide +kernel
theorem dL_act_138 : decode cL_act 138 = .ok (.aload_n 0, 1) := by decide +kernel
theorem dL_act_139 : decode cL_act 139 = .ok (.iload 7, 2) := by decide +kernel
theorem dL_act_141 : decode cL_act 141 = .ok (.iconst 1, 1) := by decide +kernel
theorem dL_act_142 : decode cL_act 142 = .ok (.invokevirtual 41, 3) := by decide +kernel
theorem dL_act_145 : decode cL_act 145 = .ok (.iload 5, 2) := by decide +kernel
theorem dL_act_147 : decode cL_act 147 = .ok (.if_icmp .ne 19, 3) := by decide +kernel
theorem dL_act_150 : decode cL_act 150 = .ok (.aload_n 0, 1) := by decide +kernel
theorem dL_act_151 : decode cL_act 151 = .ok (.iload 7, 2) := by decide +kernel
theorem dL_act_153 : decode cL_act 153 = .ok (.iconst 0, 1) := by decide +kernel
theorem dL_act_154 : decode cL_act 154 = .ok (.invokevirtual 41, 3) := by decide +kernel
theorem dL_act_157 : decode cL_act 157 = .ok (.iload 9, 2) := by decide +kernel
theorem dL_act_159 : decode cL_act 159 = .ok (.if_icmp .ne 7, 3) := by decide +kernel
theorem dL_act_162 : decode cL_act 162 = .ok (.iconst 1, 1) := by decide +kernel
theorem dL_act_163 : decode cL_act 163 = .ok (.goto 4, 3) := by decide +kernel
theorem dL_act_166 : decode cL_act 166 = .ok (.iconst 0, 1) := by decide +kernel
theorem dL_act_167 : decode cL_act 167 = .ok (.ireturn, 1) := by decide +kernel
theorem dL_act_168 : decode cL_act 168 = .ok (.iload_n 2, 1) := by decide +kernel
theorem dL_act_169 : decode cL_act 169 = .ok (.bipush 7, 2) := by decide +kernel
theorem dL_act_171 : decode cL_act 171 = .ok (.if_icmp .ne 44, 3) := by decide +kernel
theorem dL_act_174 : decode cL_act 174 = .ok (.iload_n 3, 1) := by decide +kernel
theorem dL_act_175 : decode cL_act 175 = .ok (.iload 7, 2) := by decide +kernel
theorem dL_act_177 : decode cL_act 177 = .ok (.iconst 1, 1) := by decide +kernel
theorem dL_act_178 : decode cL_act 178 = .ok (.iadd, 1) := by decide +kernel
theorem dL_act_179 : decode cL_act 179 = .ok (.invokestatic 101, 3) := by decide +kernel
theorem dL_act_182 : decode cL_act 182 = .ok (.istore 9, 2) := by decide +kernel
theorem dL_act_184 : decode cL_act 184 = .ok (.aload_n 0, 1) := by decide +kernel
theorem dL_act_185 : decode cL_act 185 = .ok (.iload 9, 2) := by decide +kernel
theorem dL_act_187 : decode cL_act 187 = .ok (.invokevirtual 120, 3) := by decide +kernel
theorem dL_act_190 : decode cL_act 190 = .ok (.iload 9, 2) := by decide +kernel
theorem dL_act_192 : decode cL_act 192 = .ok (.iload 7, 2) := by decide +kernel
theorem dL_act_194 : decode cL_act 194 = .ok (.if_icmp .ge 10, 3) := by decide +kernel
theorem dL_act_197 : decode cL_act 197 = .ok (.iload 7, 2) := by decide +kernel
theorem dL_act_199 : decode cL_act 199 = .ok (.iconst 1, 1) := by decide +kernel
theorem dL_act_200 : decode cL_act 200 = .ok (.isub, 1) := by decide +kernel
theorem dL_act_201 : decode cL_act 201 = .ok (.goto 5, 3) := by decide +kernel
theorem dL_act_204 : decode cL_act 204 = .ok (.bipush (-2), 2) := by decide +kernel
theorem dL_act_206 : decode cL_act 206 = .ok (.if_icmp .ne 7, 3) := by decide +kernel
theorem dL_act_209 : decode cL_act 209 = .ok (.iconst 1, 1) := by decide +kernel
theorem dL_act_210 : decode cL_act 210 = .ok (.goto 4, 3) := by decide +kernel
theorem dL_act_213 : decode cL_act 213 = .ok (.iconst 0, 1) := by decide +kernel
theorem dL_act_214 : decode cL_act 214 = .ok (.ireturn, 1) := by decide +kernel
theorem dL_act_215 : decode cL_act 215 = .ok (.iload_n 2, 1) := by decide +kernel
theorem dL_act_216 : decode cL_act 216 = .ok (.bipush 11, 2) := by decide +kernel
theorem dL_act_218 : decode cL_act 218 = .ok (.if_icmp .ge 138, 3) := by decide +kernel
theorem dL_act_221 : decode cL_act 221 = .ok (.iconst 0, 1) := by decide +kernel
theorem dL_act_222 : decode cL_act 222 = .ok (.istore 9, 2) := by decide +kernel
theorem dL_act_224 : decode cL_act 224 = .ok (.iload 9, 2) := by decide +kernel
theorem dL_act_226 : decode cL_act 226 = .ok (.iload 4, 2) := by decide +kernel
theorem dL_act_228 : decode cL_act 228 = .ok (.if_icmp .ge 29, 3) := by decide +kernel
theorem dL_act_231 : decode cL_act 231 = .ok (.aload_n 0, 1) := by decide +kernel
theorem dL_act_232 : decode cL_act 232 = .ok (.iload 5, 2) := by decide +kernel
theorem dL_act_234 : decode cL_act 234 = .ok (.iconst 2, 1) := by decide +kernel
theorem dL_act_235 : decode cL_act 235 = .ok (.invokevirtual 37, 3) := by decide +kernel
theorem dL_act_238 : decode cL_act 238 = .ok (.iconst 1, 1) := by decide +kernel
theorem dL_act_239 : decode cL_act 239 = .ok (.if_icmp .eq 18, 3) := by decide +kernel
theorem dL_act_242 : decode cL_act 242 = .ok (.iload 5, 2) := by decide +kernel
theorem dL_act_244 : decode cL_act 244 = .ok (.iconst 1, 1) := by decide +kernel
theorem dL_act_245 : decode cL_act 245 = .ok (.iadd, 1) := by decide +kernel
theorem dL_act_246 : decode cL_act 246 = .ok (.iload 4, 2) := by decide +kernel
theorem dL_act_248 : decode cL_act 248 = .ok (.irem, 1) := by decide +kernel
theorem dL_act_249 : decode cL_act 249 = .ok (.istore 5, 2) := by decide +kernel
theorem dL_act_251 : decode cL_act 251 = .ok (.iinc 9 1, 3) := by decide +kernel
theorem dL_act_254 : decode cL_act 254 = .ok (.goto (-30), 3) := by decide +kernel
theorem dL_act_257 : decode cL_act 257 = .ok (.aload_n 0, 1) := by decide +kernel
theorem dL_act_258 : decode cL_act 258 = .ok (.iload 5, 2) := by decide +kernel
theorem dL_act_260 : decode cL_act 260 = .ok (.iconst 2, 1) := by decide +kernel
theorem dL_act_261 : decode cL_act 261 = .ok (.invokevirtual 37, 3) := by decide +kernel
theorem dL_act_264 : decode cL_act 264 = .ok (.iconst 1, 1) := by decide +kernel
theorem dL_act_265 : decode cL_act 265 = .ok (.if_icmp .ne 7, 3) := by decide +kernel
theorem dL_act_268 : decode cL_act 268 = .ok (.iconst 1, 1) := by decide +kernel
theorem dL_act_269 : decode cL_act 269 = .ok (.goto 4, 3) := by decide +kernel
theorem dL_act_272 : decode cL_act 272 = .ok (.iconst 0, 1) := by decide +kernel
theorem dL_act_273 : decode cL_act 273 = .ok (.istore 9, 2) := by decide +kernel
theorem dL_act_275 : decode cL_act 275 = .ok (.aload_n 0, 1) := by decide +kernel
theorem dL_act_276 : decode cL_act 276 = .ok (.iload 5, 2) := by decide +kernel
theorem dL_act_278 : decode cL_act 278 = .ok (.iconst 3, 1) := by decide +kernel
theorem dL_act_279 : decode cL_act 279 = .ok (.invokevirtual 37, 3) := by decide +kernel
theorem dL_act_282 : decode cL_act 282 = .ok (.istore 10, 2) := by decide +kernel
theorem dL_act_284 : decode cL_act 284 = .ok (.aload_n 0, 1) := by decide +kernel
theorem dL_act_285 : decode cL_act 285 = .ok (.bipush 8, 2) := by decide +kernel
theorem dL_act_287 : decode cL_act 287 = .ok (.invokevirtual 30, 3) := by decide +kernel
theorem dL_act_290 : decode cL_act 290 = .ok (.istore 11, 2) := by decide +kernel
theorem dL_act_292 : decode cL_act 292 = .ok (.aload_n 0, 1) := by decide +kernel
theorem dL_act_293 : decode cL_act 293 = .ok (.iload 5, 2) := by decide +kernel
theorem dL_act_295 : decode cL_act 295 = .ok (.invokevirtual 129, 3) := by decide +kernel
theorem dL_act_298 : decode cL_act 298 = .ok (.istore 12, 2) := by decide +kernel
theorem dL_act_300 : decode cL_act 300 = .ok (.iload 9, 2) := by decide +kernel
theorem dL_act_302 : decode cL_act 302 = .ok (.ifCond .eq 41, 3) := by decide +kernel
theorem dL_act_305 : decode cL_act 305 = .ok (.iload 12, 2) := by decide +kernel
theorem dL_act_307 : decode cL_act 307 = .ok (.iload 10, 2) := by decide +kernel
theorem dL_act_309 : decode cL_act 309 = .ok (.if_icmp .ne 30, 3) := by decide +kernel
theorem dL_act_312 : decode cL_act 312 = .ok (.aload_n 0, 1) := by decide +kernel
theorem dL_act_313 : decode cL_act 313 = .ok (.iload 5, 2) := by decide +kernel
theorem dL_act_315 : decode cL_act 315 = .ok (.iconst 2, 1) := by decide +kernel
theorem dL_act_316 : decode cL_act 316 = .ok (.invokevirtual 37, 3) := by decide +kernel
theorem dL_act_319 : decode cL_act 319 = .ok (.iconst 2, 1) := by decide +kernel
theorem dL_act_320 : decode cL_act 320 = .ok (.if_icmp .ne 19, 3) := by decide +kernel
theorem dL_act_323 : decode cL_act 323 = .ok (.aload_n 0, 1) := by decide +kernel
theorem dL_act_324 : decode cL_act 324 = .ok (.iload 5, 2) := by decide +kernel
theorem dL_act_326 : decode cL_act 326 = .ok (.iconst 3, 1) := by decide +kernel
theorem dL_act_327 : decode cL_act 327 = .ok (.invokevirtual 37, 3) := by decide +kernel
theorem dL_act_330 : decode cL_act 330 = .ok (.iload 11, 2) := by decide +kernel
theorem dL_act_332 : decode cL_act 332 = .ok (.if_icmp .ne 7, 3) := by decide +kernel
theorem dL_act_335 : decode cL_act 335 = .ok (.iconst 1, 1) := by decide +kernel
theorem dL_act_336 : decode cL_act 336 = .ok (.goto 19, 3) := by decide +kernel
theorem dL_act_339 : decode cL_act 339 = .ok (.iconst 0, 1) := by decide +kernel
theorem dL_act_340 : decode cL_act 340 = .ok (.goto 15, 3) := by decide +kernel
theorem dL_act_343 : decode cL_act 343 = .ok (.iload 12, 2) := by decide +kernel
theorem dL_act_345 : decode cL_act 345 = .ok (.bipush (-2), 2) := by decide +kernel
theorem dL_act_347 : decode cL_act 347 = .ok (.if_icmp .ne 7, 3) := by decide +kernel
theorem dL_act_350 : decode cL_act 350 = .ok (.iconst 1, 1) := by decide +kernel
theorem dL_act_351 : decode cL_act 351 = .ok (.goto 4, 3) := by decide +kernel
theorem dL_act_354 : decode cL_act 354 = .ok (.iconst 0, 1) := by decide +kernel
theorem dL_act_355 : decode cL_act 355 = .ok (.ireturn, 1) := by decide +kernel
theorem dL_act_356 : decode cL_act 356 = .ok (.iload_n 2, 1) := by decide +kernel
theorem dL_act_357 : decode cL_act 357 = .ok (.bipush 15, 2) := by decide +kernel
theorem dL_act_359 : decode cL_act 359 = .ok (.if_icmp .ge 76, 3) := by decide +kernel
theorem dL_act_362 : decode cL_act 362 = .ok (.iconst 1, 1) := by decide +kernel
theorem dL_act_363 : decode cL_act 363 = .ok (.iload_n 3, 1) := by decide +kernel
theorem dL_act_364 : decode cL_act 364 = .ok (.iconst 4, 1) := by decide +kernel
theorem dL_act_365 : decode cL_act 365 = .ok (.invokestatic 101, 3) := by decide +kernel
theorem dL_act_368 : decode cL_act 368 = .ok (.iadd, 1) := by decide +kernel
theorem dL_act_369 : decode cL_act 369 = .ok (.istore 9, 2) := by decide +kernel
theorem dL_act_371 : decode cL_act 371 = .ok (.aload_n 0, 1) := by decide +kernel
theorem dL_act_372 : decode cL_act 372 = .ok (.iload 9, 2) := by decide +kernel
theorem dL_act_374 : decode cL_act 374 = .ok (.invokevirtual 104, 3) := by decide +kernel
theorem dL_act_377 : decode cL_act 377 = .ok (.istore 10, 2) := by decide +kernel
theorem dL_act_379 : decode cL_act 379 = .ok (.aload_n 0, 1) := by decide +kernel
theorem dL_act_380 : decode cL_act 380 = .ok (.iload 9, 2) := by decide +kernel
theorem dL_act_382 : decode cL_act 382 = .ok (.invokevirtual 107, 3) := by decide +kernel
theorem dL_act_385 : decode cL_act 385 = .ok (.istore 11, 2) := by decide +kernel
theorem dL_act_387 : decode cL_act 387 = .ok (.aload_n 0, 1) := by decide +kernel
theorem dL_act_388 : decode cL_act 388 = .ok (.iconst 0, 1) := by decide +kernel
theorem dL_act_389 : decode cL_act 389 = .ok (.invokevirtual 30, 3) := by decide +kernel
theorem dL_act_392 : decode cL_act 392 = .ok (.istore 12, 2) := by decide +kernel
theorem dL_act_394 : decode cL_act 394 = .ok (.aload_n 0, 1) := by decide +kernel
theorem dL_act_395 : decode cL_act 395 = .ok (.iload 9, 2) := by decide +kernel
theorem dL_act_397 : decode cL_act 397 = .ok (.invokevirtual 113, 3) := by decide +kernel
theorem dL_act_400 : decode cL_act 400 = .ok (.iload 10, 2) := by decide +kernel
theorem dL_act_402 : decode cL_act 402 = .ok (.if_icmp .ne 31, 3) := by decide +kernel
theorem dL_act_405 : decode cL_act 405 = .ok (.aload_n 0, 1) := by decide +kernel
theorem dL_act_406 : decode cL_act 406 = .ok (.bipush 9, 2) := by decide +kernel
theorem dL_act_408 : decode cL_act 408 = .ok (.invokevirtual 30, 3) := by decide +kernel
theorem dL_act_411 : decode cL_act 411 = .ok (.iload 11, 2) := by decide +kernel
theorem dL_act_413 : decode cL_act 413 = .ok (.if_icmp .ne 20, 3) := by decide +kernel
theorem dL_act_416 : decode cL_act 416 = .ok (.aload_n 0, 1) := by decide +kernel
theorem dL_act_417 : decode cL_act 417 = .ok (.iconst 0, 1) := by decide +kernel
theorem dL_act_418 : decode cL_act 418 = .ok (.invokevirtual 30, 3) := by decide +kernel
theorem dL_act_421 : decode cL_act 421 = .ok (.iload 12, 2) := by decide +kernel
theorem dL_act_423 : decode cL_act 423 = .ok (.iload 9, 2) := by decide +kernel
theorem dL_act_425 : decode cL_act 425 = .ok (.iadd, 1) := by decide +kernel
theorem dL_act_426 : decode cL_act 426 = .ok (.if_icmp .ne 7, 3) := by decide +kernel
theorem dL_act_429 : decode cL_act 429 = .ok (.iconst 1, 1) := by decide +kernel
theorem dL_act_430 : decode cL_act 430 = .ok (.goto 4, 3) := by decide +kernel
theorem dL_act_433 : decode cL_act 433 = .ok (.iconst 0, 1) := by decide +kernel
theorem dL_act_434 : decode cL_act 434 = .ok (.ireturn, 1) := by decide +kernel
theorem dL_act_435 : decode cL_act 435 = .ok (.iload_n 2, 1) := by decide +kernel
theorem dL_act_436 : decode cL_act 436 = .ok (.bipush 17, 2) := by decide +kernel
theorem dL_act_438 : decode cL_act 438 = .ok (.if_icmp .ge 108, 3) := by decide +kernel
theorem dL_act_441 : decode cL_act 441 = .ok (.iload_n 3, 1) := by decide +kernel
theorem dL_act_442 : decode cL_act 442 = .ok (.iload 6, 2) := by decide +kernel
theorem dL_act_444 : decode cL_act 444 = .ok (.iconst 1, 1) := by decide +kernel
theorem dL_act_445 : decode cL_act 445 = .ok (.iadd, 1) := by decide +kernel
theorem dL_act_446 : decode cL_act 446 = .ok (.invokestatic 101, 3) := by decide +kernel
theorem dL_act_449 : decode cL_act 449 = .ok (.istore 9, 2) := by decide +kernel
theorem dL_act_451 : decode cL_act 451 = .ok (.iload 8, 2) := by decide +kernel
theorem dL_act_453 : decode cL_act 453 = .ok (.ifCond .eq 13, 3) := by decide +kernel
theorem dL_act_456 : decode cL_act 456 = .ok (.aload_n 0, 1) := by decide +kernel
theorem dL_act_457 : decode cL_act 457 = .ok (.iload 5, 2) := by decide +kernel
theorem dL_act_459 : decode cL_act 459 = .ok (.iconst 3, 1) := by decide +kernel
theorem dL_act_460 : decode cL_act 460 = .ok (.invokevirtual 37, 3) := by decide +kernel
theorem dL_act_463 : decode cL_act 463 = .ok (.goto 4, 3) := by decide +kernel
theorem dL_act_466 : decode cL_act 466 = .ok (.iconst (-1), 1) := by decide +kernel
theorem dL_act_467 : decode cL_act 467 = .ok (.istore 10, 2) := by decide +kernel
theorem dL_act_469 : decode cL_act 469 = .ok (.aload_n 0, 1) := by decide +kernel
theorem dL_act_470 : decode cL_act 470 = .ok (.iload 5, 2) := by decide +kernel
theorem dL_act_472 : decode cL_act 472 = .ok (.iload 9, 2) := by decide +kernel
theorem dL_act_474 : decode cL_act 474 = .ok (.invokevirtual 132, 3) := by decide +kernel
theorem dL_act_477 : decode cL_act 477 = .ok (.istore 11, 2) := by decide +kernel
theorem dL_act_479 : decode cL_act 479 = .ok (.iload 8, 2) := by decide +kernel
theorem dL_act_481 : decode cL_act 481 = .ok (.ifCond .ne 18, 3) := by decide +kernel
theorem dL_act_484 : decode cL_act 484 = .ok (.iload 11, 2) := by decide +kernel
theorem dL_act_486 : decode cL_act 486 = .ok (.bipush (-2), 2) := by decide +kernel
theorem dL_act_488 : decode cL_act 488 = .ok (.if_icmp .ne 7, 3) := by decide +kernel
theorem dL_act_491 : decode cL_act 491 = .ok (.iconst 1, 1) := by decide +kernel
theorem dL_act_492 : decode cL_act 492 = .ok (.goto 53, 3) := by decide +kernel
theorem dL_act_495 : decode cL_act 495 = .ok (.iconst 0, 1) := by decide +kernel
theorem dL_act_496 : decode cL_act 496 = .ok (.goto 49, 3) := by decide +kernel
theorem dL_act_499 : decode cL_act 499 = .ok (.iload 9, 2) := by decide +kernel
theorem dL_act_501 : decode cL_act 501 = .ok (.iload 6, 2) := by decide +kernel
theorem dL_act_503 : decode cL_act 503 = .ok (.if_icmp .lt 18, 3) := by decide +kernel
theorem dL_act_506 : decode cL_act 506 = .ok (.iload 11, 2) := by decide +kernel
theorem dL_act_508 : decode cL_act 508 = .ok (.bipush (-3), 2) := by decide +kernel
theorem dL_act_510 : decode cL_act 510 = .ok (.if_icmp .ne 7, 3) := by decide +kernel
theorem dL_act_513 : decode cL_act 513 = .ok (.iconst 1, 1) := by decide +kernel
theorem dL_act_514 : decode cL_act 514 = .ok (.goto 31, 3) := by decide +kernel
theorem dL_act_517 : decode cL_act 517 = .ok (.iconst 0, 1) := by decide +kernel
theorem dL_act_518 : decode cL_act 518 = .ok (.goto 27, 3) := by decide +kernel
theorem dL_act_521 : decode cL_act 521 = .ok (.iload 11, 2) := by decide +kernel
theorem dL_act_523 : decode cL_act 523 = .ok (.iload 10, 2) := by decide +kernel
theorem dL_act_525 : decode cL_act 525 = .ok (.if_icmp .ne 19, 3) := by decide +kernel
theorem dL_act_528 : decode cL_act 528 = .ok (.aload_n 0, 1) := by decide +kernel
theorem dL_act_529 : decode cL_act 529 = .ok (.iload 5, 2) := by decide +kernel
theorem dL_act_531 : decode cL_act 531 = .ok (.iconst 3, 1) := by decide +kernel
theorem dL_act_532 : decode cL_act 532 = .ok (.invokevirtual 37, 3) := by decide +kernel
theorem dL_act_535 : decode cL_act 535 = .ok (.iload 9, 2) := by decide +kernel
theorem dL_act_537 : decode cL_act 537 = .ok (.if_icmp .ne 7, 3) := by decide +kernel
theorem dL_act_540 : decode cL_act 540 = .ok (.iconst 1, 1) := by decide +kernel
theorem dL_act_541 : decode cL_act 541 = .ok (.goto 4, 3) := by decide +kernel
theorem dL_act_544 : decode cL_act 544 = .ok (.iconst 0, 1) := by decide +kernel
theorem dL_act_545 : decode cL_act 545 = .ok (.ireturn, 1) := by decide +kernel
theorem dL_act_546 : decode cL_act 546 = .ok (.iload_n 2, 1) := by decide +kernel
theorem dL_act_547 : decode cL_act 547 = .ok (.bipush 17, 2) := by decide +kernel
theorem dL_act_549 : decode cL_act 549 = .ok (.if_icmp .ne 74, 3) := by decide +kernel
theorem dL_act_552 : decode cL_act 552 = .ok (.iconst 1, 1) := by decide +kernel
theorem dL_act_553 : decode cL_act 553 = .ok (.iload_n 3, 1) := by decide +kernel
theorem dL_act_554 : decode cL_act 554 = .ok (.bipush 12, 2) := by decide +kernel
theorem dL_act_556 : decode cL_act 556 = .ok (.invokestatic 101, 3) := by decide +kernel
theorem dL_act_559 : decode cL_act 559 = .ok (.iadd, 1) := by decide +kernel
theorem dL_act_560 : decode cL_act 560 = .ok (.istore 9, 2) := by decide +kernel
theorem dL_act_562 : decode cL_act 562 = .ok (.aload_n 0, 1) := by decide +kernel
theorem dL_act_563 : decode cL_act 563 = .ok (.invokevirtual 77, 3) := by decide +kernel
theorem dL_act_566 : decode cL_act 566 = .ok (.istore 10, 2) := by decide +kernel
theorem dL_act_568 : decode cL_act 568 = .ok (.aload_n 0, 1) := by decide +kernel
theorem dL_act_569 : decode cL_act 569 = .ok (.iload 9, 2) := by decide +kernel
theorem dL_act_571 : decode cL_act 571 = .ok (.invokevirtual 86, 3) := by decide +kernel
theorem dL_act_574 : decode cL_act 574 = .ok (.istore 11, 2) := by decide +kernel
theorem dL_act_576 : decode cL_act 576 = .ok (.aload_n 0, 1) := by decide +kernel
theorem dL_act_577 : decode cL_act 577 = .ok (.iload 9, 2) := by decide +kernel
theorem dL_act_579 : decode cL_act 579 = .ok (.invokevirtual 135, 3) := by decide +kernel
theorem dL_act_582 : decode cL_act 582 = .ok (.iload 9, 2) := by decide +kernel
theorem dL_act_584 : decode cL_act 584 = .ok (.iload 10, 2) := by decide +kernel
theorem dL_act_586 : decode cL_act 586 = .ok (.invokestatic 138, 3) := by decide +kernel
theorem dL_act_589 : decode cL_act 589 = .ok (.if_icmp .ne 32, 3) := by decide +kernel
theorem dL_act_592 : decode cL_act 592 = .ok (.aload_n 0, 1) := by decide +kernel
theorem dL_act_593 : decode cL_act 593 = .ok (.invokevirtual 77, 3) := by decide +kernel
theorem dL_act_596 : decode cL_act 596 = .ok (.iconst 0, 1) := by decide +kernel
theorem dL_act_597 : decode cL_act 597 = .ok (.iload 10, 2) := by decide +kernel
theorem dL_act_599 : decode cL_act 599 = .ok (.iload 9, 2) := by decide +kernel
theorem dL_act_601 : decode cL_act 601 = .ok (.isub, 1) := by decide +kernel
theorem dL_act_602 : decode cL_act 602 = .ok (.invokestatic 143, 3) := by decide +kernel
theorem dL_act_605 : decode cL_act 605 = .ok (.if_icmp .ne 16, 3) := by decide +kernel
theorem dL_act_608 : decode cL_act 608 = .ok (.aload_n 0, 1) := by decide +kernel
theorem dL_act_609 : decode cL_act 609 = .ok (.invokevirtual 92, 3) := by decide +kernel
theorem dL_act_612 : decode cL_act 612 = .ok (.iload 11, 2) := by decide +kernel
theorem dL_act_614 : decode cL_act 614 = .ok (.if_icmp .ne 7, 3) := by decide +kernel
theorem dL_act_617 : decode cL_act 617 = .ok (.iconst 1, 1) := by decide +kernel
theorem dL_act_618 : decode cL_act 618 = .ok (.goto 4, 3) := by decide +kernel
theorem dL_act_621 : decode cL_act 621 = .ok (.iconst 0, 1) := by decide +kernel
theorem dL_act_622 : decode cL_act 622 = .ok (.ireturn, 1) := by decide +kernel
theorem dL_act_623 : decode cL_act 623 = .ok (.iload_n 2, 1) := by decide +kernel
theorem dL_act_624 : decode cL_act 624 = .ok (.bipush 18, 2) := by decide +kernel
theorem dL_act_626 : decode cL_act 626 = .ok (.if_icmp .ne 77, 3) := by decide +kernel
theorem dL_act_629 : decode cL_act 629 = .ok (.aload_n 0, 1) := by decide +kernel
theorem dL_act_630 : decode cL_act 630 = .ok (.iload 5, 2) := by decide +kernel
theorem dL_act_632 : decode cL_act 632 = .ok (.iconst 1, 1) := by decide +kernel
theorem dL_act_633 : decode cL_act 633 = .ok (.invokevirtual 37, 3) := by decide +kernel
theorem dL_act_636 : decode cL_act 636 = .ok (.istore 9, 2) := by decide +kernel
theorem dL_act_638 : decode cL_act 638 = .ok (.iload_n 3, 1) := by decide +kernel
theorem dL_act_639 : decode cL_act 639 = .ok (.iconst 2, 1) := by decide +kernel
theorem dL_act_640 : decode cL_act 640 = .ok (.invokestatic 101, 3) := by decide +kernel
theorem dL_act_643 : decode cL_act 643 = .ok (.ifCond .ne 7, 3) := by decide +kernel
theorem dL_act_646 : decode cL_act 646 = .ok (.iconst 0, 1) := by decide +kernel
theorem dL_act_647 : decode cL_act 647 = .ok (.goto 23, 3) := by decide +kernel
theorem dL_act_650 : decode cL_act 650 = .ok (.sipush 999, 3) := by decide +kernel
theorem dL_act_653 : decode cL_act 653 = .ok (.aload_n 0, 1) := by decide +kernel
theorem dL_act_654 : decode cL_act 654 = .ok (.iconst 0, 1) := by decide +kernel
theorem dL_act_655 : decode cL_act 655 = .ok (.invokevirtual 30, 3) := by decide +kernel
theorem dL_act_658 : decode cL_act 658 = .ok (.iload_n 3, 1) := by decide +kernel
theorem dL_act_659 : decode cL_act 659 = .ok (.iconst 1, 1) := by decide +kernel
theorem dL_act_660 : decode cL_act 660 = .ok (.ishr, 1) := by decide +kernel
theorem dL_act_661 : decode cL_act 661 = .ok (.bipush 6, 2) := by decide +kernel
theorem dL_act_663 : decode cL_act 663 = .ok (.invokestatic 101, 3) := by decide +kernel
theorem dL_act_666 : decode cL_act 666 = .ok (.iadd, 1) := by decide +kernel
theorem dL_act_667 : decode cL_act 667 = .ok (.invokestatic 138, 3) := by decide +kernel
theorem dL_act_670 : decode cL_act 670 = .ok (.istore 10, 2) := by decide +kernel
theorem dL_act_672 : decode cL_act 672 = .ok (.aload_n 0, 1) := by decide +kernel
theorem dL_act_673 : decode cL_act 673 = .ok (.iload 5, 2) := by decide +kernel
theorem dL_act_675 : decode cL_act 675 = .ok (.iload 10, 2) := by decide +kernel
theorem dL_act_677 : decode cL_act 677 = .ok (.invokevirtual 123, 3) := by decide +kernel
theorem dL_act_680 : decode cL_act 680 = .ok (.iload 9, 2) := by decide +kernel
theorem dL_act_682 : decode cL_act 682 = .ok (.if_icmp .ne 19, 3) := by decide +kernel
theorem dL_act_685 : decode cL_act 685 = .ok (.aload_n 0, 1) := by decide +kernel
theorem dL_act_686 : decode cL_act 686 = .ok (.iload 5, 2) := by decide +kernel
theorem dL_act_688 : decode cL_act 688 = .ok (.iconst 1, 1) := by decide +kernel
theorem dL_act_689 : decode cL_act 689 = .ok (.invokevirtual 37, 3) := by decide +kernel
theorem dL_act_692 : decode cL_act 692 = .ok (.iload 10, 2) := by decide +kernel
theorem dL_act_694 : decode cL_act 694 = .ok (.if_icmp .ne 7, 3) := by decide +kernel
theorem dL_act_697 : decode cL_act 697 = .ok (.iconst 1, 1) := by decide +kernel
theorem dL_act_698 : decode cL_act 698 = .ok (.goto 4, 3) := by decide +kernel
theorem dL_act_701 : decode cL_act 701 = .ok (.iconst 0, 1) := by decide +kernel
theorem dL_act_702 : decode cL_act 702 = .ok (.ireturn, 1) := by decide +kernel
theorem dL_act_703 : decode cL_act 703 = .ok (.aload_n 0, 1) := by decide +kernel
theorem dL_act_704 : decode cL_act 704 = .ok (.invokevirtual 83, 3) := by decide +kernel
theorem dL_act_707 : decode cL_act 707 = .ok (.istore 9, 2) := by decide +kernel
theorem dL_act_709 : decode cL_act 709 = .ok (.iload 9, 2) := by decide +kernel
theorem dL_act_711 : decode cL_act 711 = .ok (.ifCond .lt 7, 3) := by decide +kernel
theorem dL_act_714 : decode cL_act 714 = .ok (.iload 9, 2) := by decide +kernel
theorem dL_act_716 : decode cL_act 716 = .ok (.istore 5, 2) := by decide +kernel
theorem dL_act_718 : decode cL_act 718 = .ok (.iconst 0, 1) := by decide +kernel
theorem dL_act_719 : decode cL_act 719 = .ok (.istore 10, 2) := by decide +kernel
theorem dL_act_721 : decode cL_act 721 = .ok (.iconst 0, 1) := by decide +kernel
theorem dL_act_722 : decode cL_act 722 = .ok (.istore 11, 2) := by decide +kernel
theorem dL_act_724 : decode cL_act 724 = .ok (.iload 11, 2) := by decide +kernel
theorem dL_act_726 : decode cL_act 726 = .ok (.iload 6, 2) := by decide +kernel
theorem dL_act_728 : decode cL_act 728 = .ok (.if_icmp .ge 40, 3) := by decide +kernel
theorem dL_act_731 : decode cL_act 731 = .ok (.iload 10, 2) := by decide +kernel
theorem dL_act_733 : decode cL_act 733 = .ok (.aload_n 0, 1) := by decide +kernel
theorem dL_act_734 : decode cL_act 734 = .ok (.aload_n 0, 1) := by decide +kernel
theorem dL_act_735 : decode cL_act 735 = .ok (.iload 11, 2) := by decide +kernel
theorem dL_act_737 : decode cL_act 737 = .ok (.invokevirtual 50, 3) := by decide +kernel
theorem dL_act_740 : decode cL_act 740 = .ok (.iconst 0, 1) := by decide +kernel
theorem dL_act_741 : decode cL_act 741 = .ok (.invokevirtual 37, 3) := by decide +kernel
theorem dL_act_744 : decode cL_act 744 = .ok (.aload_n 0, 1) := by decide +kernel
theorem dL_act_745 : decode cL_act 745 = .ok (.iload 5, 2) := by decide +kernel
theorem dL_act_747 : decode cL_act 747 = .ok (.iconst 0, 1) := by decide +kernel
theorem dL_act_748 : decode cL_act 748 = .ok (.invokevirtual 37, 3) := by decide +kernel
theorem dL_act_751 : decode cL_act 751 = .ok (.if_icmp .ge 7, 3) := by decide +kernel
theorem dL_act_754 : decode cL_act 754 = .ok (.iconst 1, 1) := by decide +kernel
theorem dL_act_755 : decode cL_act 755 = .ok (.goto 4, 3) := by decide +kernel
theorem dL_act_758 : decode cL_act 758 = .ok (.iconst 0, 1) := by decide +kernel
theorem dL_act_759 : decode cL_act 759 = .ok (.iadd, 1) := by decide +kernel
theorem dL_act_760 : decode cL_act 760 = .ok (.istore 10, 2) := by decide +kernel
theorem dL_act_762 : decode cL_act 762 = .ok (.iinc 11 1, 3) := by decide +kernel
theorem dL_act_765 : decode cL_act 765 = .ok (.goto (-41), 3) := by decide +kernel
theorem dL_act_768 : decode cL_act 768 = .ok (.aload_n 0, 1) := by decide +kernel
theorem dL_act_769 : decode cL_act 769 = .ok (.iload 5, 2) := by decide +kernel
theorem dL_act_771 : decode cL_act 771 = .ok (.iconst 2, 1) := by decide +kernel
theorem dL_act_772 : decode cL_act 772 = .ok (.invokevirtual 37, 3) := by decide +kernel
theorem dL_act_775 : decode cL_act 775 = .ok (.ifCond .ne 7, 3) := by decide +kernel
theorem dL_act_778 : decode cL_act 778 = .ok (.iconst 1, 1) := by decide +kernel
theorem dL_act_779 : decode cL_act 779 = .ok (.goto 4, 3) := by decide +kernel
theorem dL_act_782 : decode cL_act 782 = .ok (.iconst 0, 1) := by decide +kernel
theorem dL_act_783 : decode cL_act 783 = .ok (.istore 8, 2) := by decide +kernel
theorem dL_act_785 : decode cL_act 785 = .ok (.aload_n 0, 1) := by decide +kernel
theorem dL_act_786 : decode cL_act 786 = .ok (.iload 5, 2) := by decide +kernel
theorem dL_act_788 : decode cL_act 788 = .ok (.invokevirtual 146, 3) := by decide +kernel
theorem dL_act_791 : decode cL_act 791 = .ok (.istore 11, 2) := by decide +kernel
theorem dL_act_793 : decode cL_act 793 = .ok (.iload 8, 2) := by decide +kernel
theorem dL_act_795 : decode cL_act 795 = .ok (.ifCond .eq 30, 3) := by decide +kernel
theorem dL_act_798 : decode cL_act 798 = .ok (.iload 11, 2) := by decide +kernel
theorem dL_act_800 : decode cL_act 800 = .ok (.iload 10, 2) := by decide +kernel
theorem dL_act_802 : decode cL_act 802 = .ok (.if_icmp .ne 19, 3) := by decide +kernel
theorem dL_act_805 : decode cL_act 805 = .ok (.aload_n 0, 1) := by decide +kernel
theorem dL_act_806 : decode cL_act 806 = .ok (.iload 5, 2) := by decide +kernel
theorem dL_act_808 : decode cL_act 808 = .ok (.iconst 3, 1) := by decide +kernel
theorem dL_act_809 : decode cL_act 809 = .ok (.invokevirtual 37, 3) := by decide +kernel
theorem dL_act_812 : decode cL_act 812 = .ok (.iload 10, 2) := by decide +kernel
theorem dL_act_814 : decode cL_act 814 = .ok (.if_icmp .ne 7, 3) := by decide +kernel
theorem dL_act_817 : decode cL_act 817 = .ok (.iconst 1, 1) := by decide +kernel
theorem dL_act_818 : decode cL_act 818 = .ok (.goto 19, 3) := by decide +kernel
theorem dL_act_821 : decode cL_act 821 = .ok (.iconst 0, 1) := by decide +kernel
theorem dL_act_822 : decode cL_act 822 = .ok (.goto 15, 3) := by decide +kernel
theorem dL_act_825 : decode cL_act 825 = .ok (.iload 11, 2) := by decide +kernel
theorem dL_act_827 : decode cL_act 827 = .ok (.bipush (-2), 2) := by decide +kernel
theorem dL_act_829 : decode cL_act 829 = .ok (.if_icmp .ne 7, 3) := by decide +kernel
theorem dL_act_832 : decode cL_act 832 = .ok (.iconst 1, 1) := by decide +kernel
theorem dL_act_833 : decode cL_act 833 = .ok (.goto 4, 3) := by decide +kernel
theorem dL_act_836 : decode cL_act 836 = .ok (.iconst 0, 1) := by decide +kernel
theorem dL_act_837 : decode cL_act 837 = .ok (.ireturn, 1) := by decide +kernel
theorem dL_law_0 : decode cL_law 0 = .ok (.new 9, 3) := by decide +kernel
theorem dL_law_3 : decode cL_law 3 = .ok (.dup, 1) := by decide +kernel
theorem dL_law_4 : decode cL_law 4 = .ok (.invokespecial 149, 3) := by decide +kernel
theorem dL_law_7 : decode cL_law 7 = .ok (.astore_n 1, 1) := by decide +kernel
theorem dL_law_8 : decode cL_law 8 = .ok (.bipush 6, 2) := by decide +kernel
theorem dL_law_10 : decode cL_law 10 = .ok (.newarray .int, 2) := by decide +kernel
theorem dL_law_12 : decode cL_law 12 = .ok (.astore_n 2, 1) := by decide +kernel
theorem dL_law_13 : decode cL_law 13 = .ok (.aload_n 0, 1) := by decide +kernel
theorem dL_law_14 : decode cL_law 14 = .ok (.iconst 0, 1) := by decide +kernel
theorem dL_law_15 : decode cL_law 15 = .ok (.invokestatic 150, 3) := by decide +kernel
theorem dL_law_18 : decode cL_law 18 = .ok (.istore_n 3, 1) := by decide +kernel
theorem dL_law_19 : decode cL_law 19 = .ok (.new 154, 3) := by decide +kernel
theorem dL_law_22 : decode cL_law 22 = .ok (.dup, 1) := by decide +kernel
theorem dL_law_23 : decode cL_law 23 = .ok (.ldc 156, 2) := by decide +kernel
theorem dL_law_25 : decode cL_law 25 = .ok (.invokespecial 158, 3) := by decide +kernel
theorem dL_law_28 : decode cL_law 28 = .ok (.iconst 1, 1) := by decide +kernel
theorem dL_law_29 : decode cL_law 29 = .ok (.iload_n 3, 1) := by decide +kernel
theorem dL_law_30 : decode cL_law 30 = .ok (.iconst 5, 1) := by decide +kernel
theorem dL_law_31 : decode cL_law 31 = .ok (.invokestatic 101, 3) := by decide +kernel
theorem dL_law_34 : decode cL_law 34 = .ok (.iadd, 1) := by decide +kernel
theorem dL_law_35 : decode cL_law 35 = .ok (.invokevirtual 161, 3) := by decide +kernel
theorem dL_law_38 : decode cL_law 38 = .ok (.bipush 32, 2) := by decide +kernel
theorem dL_law_40 : decode cL_law 40 = .ok (.invokevirtual 165, 3) := by decide +kernel
theorem dL_law_43 : decode cL_law 43 = .ok (.iconst 1, 1) := by decide +kernel
theorem dL_law_44 : decode cL_law 44 = .ok (.iload_n 3, 1) := by decide +kernel
theorem dL_law_45 : decode cL_law 45 = .ok (.iconst 1, 1) := by decide +kernel
theorem dL_law_46 : decode cL_law 46 = .ok (.ishr, 1) := by decide +kernel
theorem dL_law_47 : decode cL_law 47 = .ok (.iconst 3, 1) := by decide +kernel
theorem dL_law_48 : decode cL_law 48 = .ok (.invokestatic 101, 3) := by decide +kernel
theorem dL_law_51 : decode cL_law 51 = .ok (.iadd, 1) := by decide +kernel
theorem dL_law_52 : decode cL_law 52 = .ok (.invokevirtual 161, 3) := by decide +kernel
theorem dL_law_55 : decode cL_law 55 = .ok (.bipush 32, 2) := by decide +kernel
theorem dL_law_57 : decode cL_law 57 = .ok (.invokevirtual 165, 3) := by decide +kernel
theorem dL_law_60 : decode cL_law 60 = .ok (.iconst 1, 1) := by decide +kernel
theorem dL_law_61 : decode cL_law 61 = .ok (.iload_n 3, 1) := by decide +kernel
theorem dL_law_62 : decode cL_law 62 = .ok (.iconst 2, 1) := by decide +kernel
theorem dL_law_63 : decode cL_law 63 = .ok (.ishr, 1) := by decide +kernel
theorem dL_law_64 : decode cL_law 64 = .ok (.iconst 4, 1) := by decide +kernel
theorem dL_law_65 : decode cL_law 65 = .ok (.invokestatic 101, 3) := by decide +kernel
theorem dL_law_68 : decode cL_law 68 = .ok (.iadd, 1) := by decide +kernel
theorem dL_law_69 : decode cL_law 69 = .ok (.invokevirtual 161, 3) := by decide +kernel
theorem dL_law_72 : decode cL_law 72 = .ok (.bipush 32, 2) := by decide +kernel
theorem dL_law_74 : decode cL_law 74 = .ok (.invokevirtual 165, 3) := by decide +kernel
theorem dL_law_77 : decode cL_law 77 = .ok (.iconst 1, 1) := by decide +kernel
theorem dL_law_78 : decode cL_law 78 = .ok (.iload_n 3, 1) := by decide +kernel
theorem dL_law_79 : decode cL_law 79 = .ok (.iconst 3, 1) := by decide +kernel
theorem dL_law_80 : decode cL_law 80 = .ok (.ishr, 1) := by decide +kernel
theorem dL_law_81 : decode cL_law 81 = .ok (.iconst 3, 1) := by decide +kernel
theorem dL_law_82 : decode cL_law 82 = .ok (.invokestatic 101, 3) := by decide +kernel
theorem dL_law_85 : decode cL_law 85 = .ok (.iadd, 1) := by decide +kernel
theorem dL_law_86 : decode cL_law 86 = .ok (.invokevirtual 161, 3) := by decide +kernel
theorem dL_law_89 : decode cL_law 89 = .ok (.bipush 59, 2) := by decide +kernel
theorem dL_law_91 : decode cL_law 91 = .ok (.invokevirtual 165, 3) := by decide +kernel
theorem dL_law_94 : decode cL_law 94 = .ok (.astore 4, 2) := by decide +kernel
theorem dL_law_96 : decode cL_law 96 = .ok (.iconst 1, 1) := by decide +kernel
theorem dL_law_97 : decode cL_law 97 = .ok (.iload_n 3, 1) := by decide +kernel
theorem dL_law_98 : decode cL_law 98 = .ok (.iconst 4, 1) := by decide +kernel
theorem dL_law_99 : decode cL_law 99 = .ok (.ishr, 1) := by decide +kernel
theorem dL_law_100 : decode cL_law 100 = .ok (.bipush 14, 2) := by decide +kernel
theorem dL_law_102 : decode cL_law 102 = .ok (.invokestatic 101, 3) := by decide +kernel
theorem dL_law_105 : decode cL_law 105 = .ok (.iadd, 1) := by decide +kernel
theorem dL_law_106 : decode cL_law 106 = .ok (.istore 5, 2) := by decide +kernel
theorem dL_law_108 : decode cL_law 108 = .ok (.iload_n 3, 1) := by decide +kernel
theorem dL_law_109 : decode cL_law 109 = .ok (.iconst 5, 1) := by decide +kernel
theorem dL_law_110 : decode cL_law 110 = .ok (.ishr, 1) := by decide +kernel
theorem dL_law_111 : decode cL_law 111 = .ok (.iconst 2, 1) := by decide +kernel
theorem dL_law_112 : decode cL_law 112 = .ok (.invokestatic 101, 3) := by decide +kernel
theorem dL_law_115 : decode cL_law 115 = .ok (.ifCond .ne 7, 3) := by decide +kernel
theorem dL_law_118 : decode cL_law 118 = .ok (.iconst 1, 1) := by decide +kernel
theorem dL_law_119 : decode cL_law 119 = .ok (.goto 4, 3) := by decide +kernel
theorem dL_law_122 : decode cL_law 122 = .ok (.iconst 0, 1) := by decide +kernel
theorem dL_law_123 : decode cL_law 123 = .ok (.istore 6, 2) := by decide +kernel
theorem dL_law_125 : decode cL_law 125 = .ok (.iconst 0, 1) := by decide +kernel
theorem dL_law_126 : decode cL_law 126 = .ok (.istore 7, 2) := by decide +kernel
theorem dL_law_128 : decode cL_law 128 = .ok (.iload 7, 2) := by decide +kernel
theorem dL_law_130 : decode cL_law 130 = .ok (.iload 5, 2) := by decide +kernel
theorem dL_law_132 : decode cL_law 132 = .ok (.if_icmp .ge 102, 3) := by decide +kernel
theorem dL_law_135 : decode cL_law 135 = .ok (.aload_n 0, 1) := by decide +kernel
theorem dL_law_136 : decode cL_law 136 = .ok (.iconst 1, 1) := by decide +kernel
theorem dL_law_137 : decode cL_law 137 = .ok (.iload 7, 2) := by decide +kernel
theorem dL_law_139 : decode cL_law 139 = .ok (.bipush 9, 2) := by decide +kernel
theorem dL_law_141 : decode cL_law 141 = .ok (.irem, 1) := by decide +kernel
theorem dL_law_142 : decode cL_law 142 = .ok (.iadd, 1) := by decide +kernel
theorem dL_law_143 : decode cL_law 143 = .ok (.invokestatic 150, 3) := by decide +kernel
theorem dL_law_146 : decode cL_law 146 = .ok (.iload 7, 2) := by decide +kernel
theorem dL_law_148 : decode cL_law 148 = .ok (.bipush 9, 2) := by decide +kernel
theorem dL_law_150 : decode cL_law 150 = .ok (.idiv, 1) := by decide +kernel
theorem dL_law_151 : decode cL_law 151 = .ok (.iconst 2, 1) := by decide +kernel
theorem dL_law_152 : decode cL_law 152 = .ok (.imul, 1) := by decide +kernel
theorem dL_law_153 : decode cL_law 153 = .ok (.ishr, 1) := by decide +kernel
theorem dL_law_154 : decode cL_law 154 = .ok (.istore 8, 2) := by decide +kernel
theorem dL_law_156 : decode cL_law 156 = .ok (.aload 4, 2) := by decide +kernel
theorem dL_law_158 : decode cL_law 158 = .ok (.ldc 168, 2) := by decide +kernel
theorem dL_law_160 : decode cL_law 160 = .ok (.invokevirtual 170, 3) := by decide +kernel
theorem dL_law_163 : decode cL_law 163 = .ok (.iload 6, 2) := by decide +kernel
theorem dL_law_165 : decode cL_law 165 = .ok (.ifCond .eq 19, 3) := by decide +kernel
theorem dL_law_168 : decode cL_law 168 = .ok (.bipush 50, 2) := by decide +kernel
theorem dL_law_170 : decode cL_law 170 = .ok (.iload 7, 2) := by decide +kernel
theorem dL_law_172 : decode cL_law 172 = .ok (.imul, 1) := by decide +kernel
theorem dL_law_173 : decode cL_law 173 = .ok (.iload 8, 2) := by decide +kernel
theorem dL_law_175 : decode cL_law 175 = .ok (.bipush 50, 2) := by decide +kernel
theorem dL_law_177 : decode cL_law 177 = .ok (.invokestatic 101, 3) := by decide +kernel
theorem dL_law_180 : decode cL_law 180 = .ok (.iadd, 1) := by decide +kernel
theorem dL_law_181 : decode cL_law 181 = .ok (.goto 21, 3) := by decide +kernel
theorem dL_law_184 : decode cL_law 184 = .ok (.bipush 50, 2) := by decide +kernel
theorem dL_law_186 : decode cL_law 186 = .ok (.iload 7, 2) := by decide +kernel
theorem dL_law_188 : decode cL_law 188 = .ok (.iconst 5, 1) := by decide +kernel
theorem dL_law_189 : decode cL_law 189 = .ok (.imul, 1) := by decide +kernel
theorem dL_law_190 : decode cL_law 190 = .ok (.bipush 17, 2) := by decide +kernel
theorem dL_law_192 : decode cL_law 192 = .ok (.irem, 1) := by decide +kernel
theorem dL_law_193 : decode cL_law 193 = .ok (.imul, 1) := by decide +kernel
theorem dL_law_194 : decode cL_law 194 = .ok (.iload 8, 2) := by decide +kernel
theorem dL_law_196 : decode cL_law 196 = .ok (.bipush 50, 2) := by decide +kernel
theorem dL_law_198 : decode cL_law 198 = .ok (.invokestatic 101, 3) := by decide +kernel
theorem dL_law_201 : decode cL_law 201 = .ok (.iadd, 1) := by decide +kernel
theorem dL_law_202 : decode cL_law 202 = .ok (.invokevirtual 161, 3) := by decide +kernel
theorem dL_law_205 : decode cL_law 205 = .ok (.iload 8, 2) := by decide +kernel
theorem dL_law_207 : decode cL_law 207 = .ok (.iconst 2, 1) := by decide +kernel
theorem dL_law_208 : decode cL_law 208 = .ok (.ishr, 1) := by decide +kernel
theorem dL_law_209 : decode cL_law 209 = .ok (.bipush 6, 2) := by decide +kernel
theorem dL_law_211 : decode cL_law 211 = .ok (.invokestatic 101, 3) := by decide +kernel
theorem dL_law_214 : decode cL_law 214 = .ok (.ifCond .ne 8, 3) := by decide +kernel
theorem dL_law_217 : decode cL_law 217 = .ok (.ldc 173, 2) := by decide +kernel
theorem dL_law_219 : decode cL_law 219 = .ok (.goto 5, 3) := by decide +kernel
theorem dL_law_222 : decode cL_law 222 = .ok (.ldc 175, 2) := by decide +kernel
theorem dL_law_224 : decode cL_law 224 = .ok (.invokevirtual 170, 3) := by decide +kernel
theorem dL_law_227 : decode cL_law 227 = .ok (.pop, 1) := by decide +kernel
theorem dL_law_228 : decode cL_law 228 = .ok (.iinc 7 1, 3) := by decide +kernel
theorem dL_law_231 : decode cL_law 231 = .ok (.goto (-103), 3) := by decide +kernel
theorem dL_law_234 : decode cL_law 234 = .ok (.aload_n 1, 1) := by decide +kernel
theorem dL_law_235 : decode cL_law 235 = .ok (.aload_n 2, 1) := by decide +kernel
theorem dL_law_236 : decode cL_law 236 = .ok (.aload 4, 2) := by decide +kernel
theorem dL_law_238 : decode cL_law 238 = .ok (.invokevirtual 177, 3) := by decide +kernel
theorem dL_law_241 : decode cL_law 241 = .ok (.invokestatic 181, 3) := by decide +kernel
theorem dL_law_244 : decode cL_law 244 = .ok (.aload_n 1, 1) := by decide +kernel
theorem dL_law_245 : decode cL_law 245 = .ok (.aload_n 1, 1) := by decide +kernel
theorem dL_law_246 : decode cL_law 246 = .ok (.aload_n 2, 1) := by decide +kernel
theorem dL_law_247 : decode cL_law 247 = .ok (.invokestatic 185, 3) := by decide +kernel
theorem dL_law_250 : decode cL_law 250 = .ok (.invokevirtual 189, 3) := by decide +kernel
theorem dL_law_253 : decode cL_law 253 = .ok (.iload 5, 2) := by decide +kernel
theorem dL_law_255 : decode cL_law 255 = .ok (.if_icmp .eq 5, 3) := by decide +kernel
theorem dL_law_258 : decode cL_law 258 = .ok (.iconst 0, 1) := by decide +kernel
theorem dL_law_259 : decode cL_law 259 = .ok (.ireturn, 1) := by decide +kernel
theorem dL_law_260 : decode cL_law 260 = .ok (.iconst 0, 1) := by decide +kernel
theorem dL_law_261 : decode cL_law 261 = .ok (.istore 7, 2) := by decide +kernel
theorem dL_law_263 : decode cL_law 263 = .ok (.iload 7, 2) := by decide +kernel
theorem dL_law_265 : decode cL_law 265 = .ok (.bipush 36, 2) := by decide +kernel
theorem dL_law_267 : decode cL_law 267 = .ok (.if_icmp .ge 192, 3) := by decide +kernel
theorem dL_law_270 : decode cL_law 270 = .ok (.aload_n 0, 1) := by decide +kernel
theorem dL_law_271 : decode cL_law 271 = .ok (.bipush 8, 2) := by decide +kernel
theorem dL_law_273 : decode cL_law 273 = .ok (.iload 7, 2) := by decide +kernel
theorem dL_law_275 : decode cL_law 275 = .ok (.bipush 28, 2) := by decide +kernel
theorem dL_law_277 : decode cL_law 277 = .ok (.irem, 1) := by decide +kernel
theorem dL_law_278 : decode cL_law 278 = .ok (.iadd, 1) := by decide +kernel
theorem dL_law_279 : decode cL_law 279 = .ok (.invokestatic 150, 3) := by decide +kernel
theorem dL_law_282 : decode cL_law 282 = .ok (.iload 7, 2) := by decide +kernel
theorem dL_law_284 : decode cL_law 284 = .ok (.bipush 28, 2) := by decide +kernel
theorem dL_law_286 : decode cL_law 286 = .ok (.idiv, 1) := by decide +kernel
theorem dL_law_287 : decode cL_law 287 = .ok (.iconst 2, 1) := by decide +kernel
theorem dL_law_288 : decode cL_law 288 = .ok (.imul, 1) := by decide +kernel
theorem dL_law_289 : decode cL_law 289 = .ok (.ishr, 1) := by decide +kernel
theorem dL_law_290 : decode cL_law 290 = .ok (.istore 8, 2) := by decide +kernel
theorem dL_law_292 : decode cL_law 292 = .ok (.aload_n 1, 1) := by decide +kernel
theorem dL_law_293 : decode cL_law 293 = .ok (.invokestatic 192, 3) := by decide +kernel
theorem dL_law_296 : decode cL_law 296 = .ok (.ifCond .ne 5, 3) := by decide +kernel
theorem dL_law_299 : decode cL_law 299 = .ok (.iconst 0, 1) := by decide +kernel
theorem dL_law_300 : decode cL_law 300 = .ok (.ireturn, 1) := by decide +kernel
theorem dL_law_301 : decode cL_law 301 = .ok (.aload_n 1, 1) := by decide +kernel
theorem dL_law_302 : decode cL_law 302 = .ok (.invokestatic 196, 3) := by decide +kernel
theorem dL_law_305 : decode cL_law 305 = .ok (.astore 9, 2) := by decide +kernel
theorem dL_law_307 : decode cL_law 307 = .ok (.aload_n 1, 1) := by decide +kernel
theorem dL_law_308 : decode cL_law 308 = .ok (.invokevirtual 200, 3) := by decide +kernel
theorem dL_law_311 : decode cL_law 311 = .ok (.istore 10, 2) := by decide +kernel
theorem dL_law_313 : decode cL_law 313 = .ok (.aload_n 1, 1) := by decide +kernel
theorem dL_law_314 : decode cL_law 314 = .ok (.iload 8, 2) := by decide +kernel
theorem dL_law_316 : decode cL_law 316 = .ok (.invokestatic 203, 3) := by decide +kernel
theorem dL_law_319 : decode cL_law 319 = .ok (.ifCond .ne 5, 3) := by decide +kernel
theorem dL_law_322 : decode cL_law 322 = .ok (.iconst 0, 1) := by decide +kernel
theorem dL_law_323 : decode cL_law 323 = .ok (.ireturn, 1) := by decide +kernel
theorem dL_law_324 : decode cL_law 324 = .ok (.aload_n 1, 1) := by decide +kernel
theorem dL_law_325 : decode cL_law 325 = .ok (.invokestatic 196, 3) := by decide +kernel
theorem dL_law_328 : decode cL_law 328 = .ok (.astore 11, 2) := by decide +kernel
theorem dL_law_330 : decode cL_law 330 = .ok (.aload_n 1, 1) := by decide +kernel
theorem dL_law_331 : decode cL_law 331 = .ok (.invokevirtual 200, 3) := by decide +kernel
theorem dL_law_334 : decode cL_law 334 = .ok (.iload 10, 2) := by decide +kernel
theorem dL_law_336 : decode cL_law 336 = .ok (.iconst 1, 1) := by decide +kernel
theorem dL_law_337 : decode cL_law 337 = .ok (.iadd, 1) := by decide +kernel
theorem dL_law_338 : decode cL_law 338 = .ok (.if_icmp .ne 54, 3) := by decide +kernel
theorem dL_law_341 : decode cL_law 341 = .ok (.iload 7, 2) := by decide +kernel
theorem dL_law_343 : decode cL_law 343 = .ok (.iconst 3, 1) := by decide +kernel
theorem dL_law_344 : decode cL_law 344 = .ok (.irem, 1) := by decide +kernel
theorem dL_law_345 : decode cL_law 345 = .ok (.ifCond .ne 47, 3) := by decide +kernel
theorem dL_law_348 : decode cL_law 348 = .ok (.aload_n 1, 1) := by decide +kernel
theorem dL_law_349 : decode cL_law 349 = .ok (.invokevirtual 207, 3) := by decide +kernel
theorem dL_law_352 : decode cL_law 352 = .ok (.iload 10, 2) := by decide +kernel
theorem dL_law_354 : decode cL_law 354 = .ok (.if_icmp .ne 36, 3) := by decide +kernel
theorem dL_law_357 : decode cL_law 357 = .ok (.aload_n 1, 1) := by decide +kernel
theorem dL_law_358 : decode cL_law 358 = .ok (.invokestatic 196, 3) := by decide +kernel
theorem dL_law_361 : decode cL_law 361 = .ok (.aload 9, 2) := by decide +kernel
theorem dL_law_363 : decode cL_law 363 = .ok (.invokestatic 210, 3) := by decide +kernel
theorem dL_law_366 : decode cL_law 366 = .ok (.ifCond .eq 24, 3) := by decide +kernel
theorem dL_law_369 : decode cL_law 369 = .ok (.aload_n 1, 1) := by decide +kernel
theorem dL_law_370 : decode cL_law 370 = .ok (.iload 8, 2) := by decide +kernel
theorem dL_law_372 : decode cL_law 372 = .ok (.invokestatic 203, 3) := by decide +kernel
theorem dL_law_375 : decode cL_law 375 = .ok (.ifCond .eq 15, 3) := by decide +kernel
theorem dL_law_378 : decode cL_law 378 = .ok (.aload_n 1, 1) := by decide +kernel
theorem dL_law_379 : decode cL_law 379 = .ok (.invokestatic 196, 3) := by decide +kernel
theorem dL_law_382 : decode cL_law 382 = .ok (.aload 11, 2) := by decide +kernel
theorem dL_law_384 : decode cL_law 384 = .ok (.invokestatic 210, 3) := by decide +kernel
theorem dL_law_387 : decode cL_law 387 = .ok (.ifCond .ne 5, 3) := by decide +kernel
theorem dL_law_390 : decode cL_law 390 = .ok (.iconst 0, 1) := by decide +kernel
theorem dL_law_391 : decode cL_law 391 = .ok (.ireturn, 1) := by decide +kernel
theorem dL_law_392 : decode cL_law 392 = .ok (.aload_n 1, 1) := by decide +kernel
theorem dL_law_393 : decode cL_law 393 = .ok (.invokevirtual 200, 3) := by decide +kernel
theorem dL_law_396 : decode cL_law 396 = .ok (.iload 10, 2) := by decide +kernel
theorem dL_law_398 : decode cL_law 398 = .ok (.if_icmp .ne 22, 3) := by decide +kernel
theorem dL_law_401 : decode cL_law 401 = .ok (.iload 10, 2) := by decide +kernel
theorem dL_law_403 : decode cL_law 403 = .ok (.bipush 8, 2) := by decide +kernel
theorem dL_law_405 : decode cL_law 405 = .ok (.if_icmp .ge 15, 3) := by decide +kernel
theorem dL_law_408 : decode cL_law 408 = .ok (.aload 9, 2) := by decide +kernel
theorem dL_law_410 : decode cL_law 410 = .ok (.aload 11, 2) := by decide +kernel
theorem dL_law_412 : decode cL_law 412 = .ok (.invokestatic 210, 3) := by decide +kernel
theorem dL_law_415 : decode cL_law 415 = .ok (.ifCond .ne 5, 3) := by decide +kernel
theorem dL_law_418 : decode cL_law 418 = .ok (.iconst 0, 1) := by decide +kernel
theorem dL_law_419 : decode cL_law 419 = .ok (.ireturn, 1) := by decide +kernel
theorem dL_law_420 : decode cL_law 420 = .ok (.iload 7, 2) := by decide +kernel
theorem dL_law_422 : decode cL_law 422 = .ok (.bipush 9, 2) := by decide +kernel
theorem dL_law_424 : decode cL_law 424 = .ok (.irem, 1) := by decide +kernel
theorem dL_law_425 : decode cL_law 425 = .ok (.bipush 8, 2) := by decide +kernel
theorem dL_law_427 : decode cL_law 427 = .ok (.if_icmp .ne 26, 3) := by decide +kernel
theorem dL_law_430 : decode cL_law 430 = .ok (.aload_n 1, 1) := by decide +kernel
theorem dL_law_431 : decode cL_law 431 = .ok (.iload 8, 2) := by decide +kernel
theorem dL_law_433 : decode cL_law 433 = .ok (.invokestatic 214, 3) := by decide +kernel
theorem dL_law_436 : decode cL_law 436 = .ok (.ifCond .eq 15, 3) := by decide +kernel
theorem dL_law_439 : decode cL_law 439 = .ok (.aload_n 1, 1) := by decide +kernel
theorem dL_law_440 : decode cL_law 440 = .ok (.invokestatic 196, 3) := by decide +kernel
theorem dL_law_443 : decode cL_law 443 = .ok (.aload 11, 2) := by decide +kernel
theorem dL_law_445 : decode cL_law 445 = .ok (.invokestatic 210, 3) := by decide +kernel
theorem dL_law_448 : decode cL_law 448 = .ok (.ifCond .ne 5, 3) := by decide +kernel
theorem dL_law_451 : decode cL_law 451 = .ok (.iconst 0, 1) := by decide +kernel
theorem dL_law_452 : decode cL_law 452 = .ok (.ireturn, 1) := by decide +kernel
theorem dL_law_453 : decode cL_law 453 = .ok (.iinc 7 1, 3) := by decide +kernel
theorem dL_law_456 : decode cL_law 456 = .ok (.goto (-193), 3) := by decide +kernel
theorem dL_law_459 : decode cL_law 459 = .ok (.aload_n 1, 1) := by decide +kernel
theorem dL_law_460 : decode cL_law 460 = .ok (.invokevirtual 98, 3) := by decide +kernel
theorem dL_law_463 : decode cL_law 463 = .ok (.aload_n 1, 1) := by decide +kernel
theorem dL_law_464 : decode cL_law 464 = .ok (.invokestatic 196, 3) := by decide +kernel
theorem dL_law_467 : decode cL_law 467 = .ok (.astore 7, 2) := by decide +kernel
theorem dL_law_469 : decode cL_law 469 = .ok (.iconst 0, 1) := by decide +kernel
theorem dL_law_470 : decode cL_law 470 = .ok (.istore 8, 2) := by decide +kernel
theorem dL_law_472 : decode cL_law 472 = .ok (.iload 8, 2) := by decide +kernel
theorem dL_law_474 : decode cL_law 474 = .ok (.iconst 5, 1) := by decide +kernel
theorem dL_law_475 : decode cL_law 475 = .ok (.if_icmp .ge 27, 3) := by decide +kernel
theorem dL_law_478 : decode cL_law 478 = .ok (.aload_n 1, 1) := by decide +kernel
theorem dL_law_479 : decode cL_law 479 = .ok (.aload_n 0, 1) := by decide +kernel
theorem dL_law_480 : decode cL_law 480 = .ok (.bipush 36, 2) := by decide +kernel
theorem dL_law_482 : decode cL_law 482 = .ok (.iload 8, 2) := by decide +kernel
theorem dL_law_484 : decode cL_law 484 = .ok (.iadd, 1) := by decide +kernel
theorem dL_law_485 : decode cL_law 485 = .ok (.invokestatic 150, 3) := by decide +kernel
theorem dL_law_488 : decode cL_law 488 = .ok (.invokestatic 203, 3) := by decide +kernel
theorem dL_law_491 : decode cL_law 491 = .ok (.ifCond .ne 5, 3) := by decide +kernel
theorem dL_law_494 : decode cL_law 494 = .ok (.iconst 0, 1) := by decide +kernel
theorem dL_law_495 : decode cL_law 495 = .ok (.ireturn, 1) := by decide +kernel
theorem dL_law_496 : decode cL_law 496 = .ok (.iinc 8 1, 3) := by decide +kernel
theorem dL_law_499 : decode cL_law 499 = .ok (.goto (-27), 3) := by decide +kernel
theorem dL_law_502 : decode cL_law 502 = .ok (.aload_n 1, 1) := by decide +kernel
theorem dL_law_503 : decode cL_law 503 = .ok (.invokevirtual 116, 3) := by decide +kernel
theorem dL_law_506 : decode cL_law 506 = .ok (.ifCond .eq 34, 3) := by decide +kernel
theorem dL_law_509 : decode cL_law 509 = .ok (.aload_n 1, 1) := by decide +kernel
theorem dL_law_510 : decode cL_law 510 = .ok (.invokestatic 196, 3) := by decide +kernel
theorem dL_law_513 : decode cL_law 513 = .ok (.aload 7, 2) := by decide +kernel
theorem dL_law_515 : decode cL_law 515 = .ok (.invokestatic 210, 3) := by decide +kernel
theorem dL_law_518 : decode cL_law 518 = .ok (.ifCond .eq 22, 3) := by decide +kernel
theorem dL_law_521 : decode cL_law 521 = .ok (.aload_n 1, 1) := by decide +kernel
theorem dL_law_522 : decode cL_law 522 = .ok (.invokevirtual 200, 3) := by decide +kernel
theorem dL_law_525 : decode cL_law 525 = .ok (.ifCond .ne 15, 3) := by decide +kernel
theorem dL_law_528 : decode cL_law 528 = .ok (.aload_n 1, 1) := by decide +kernel
theorem dL_law_529 : decode cL_law 529 = .ok (.invokevirtual 207, 3) := by decide +kernel
theorem dL_law_532 : decode cL_law 532 = .ok (.iconst (-1), 1) := by decide +kernel
theorem dL_law_533 : decode cL_law 533 = .ok (.if_icmp .ne 7, 3) := by decide +kernel
theorem dL_law_536 : decode cL_law 536 = .ok (.iconst 1, 1) := by decide +kernel
theorem dL_law_537 : decode cL_law 537 = .ok (.goto 4, 3) := by decide +kernel
theorem dL_law_540 : decode cL_law 540 = .ok (.iconst 0, 1) := by decide +kernel
theorem dL_law_541 : decode cL_law 541 = .ok (.ireturn, 1) := by decide +kernel
