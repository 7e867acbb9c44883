theorem dX10_init_0 : decode cX10_init 0 = .ok (.aload_n 0, 1) := by decide +kernel
theorem dX10_init_1 : decode cX10_init 1 = .ok (.invokespecial 3, 3) := by decide +kernel
theorem dX10_init_4 : decode cX10_init 4 = .ok (.aload_n 0, 1) := by decide +kernel
theorem dX10_init_5 : decode cX10_init 5 = .ok (.new 9, 3) := by decide +kernel
theorem dX10_init_8 : decode cX10_init 8 = .ok (.dup, 1) := by decide +kernel
theorem dX10_init_9 : decode cX10_init 9 = .ok (.sipush 700, 3) := by decide +kernel
theorem dX10_init_12 : decode cX10_init 12 = .ok (.invokespecial 11, 3) := by decide +kernel
theorem dX10_init_15 : decode cX10_init 15 = .ok (.putfield 14, 3) := by decide +kernel
theorem dX10_init_18 : decode cX10_init 18 = .ok (.aload_n 0, 1) := by decide +kernel
theorem dX10_init_19 : decode cX10_init 19 = .ok (.new 9, 3) := by decide +kernel
theorem dX10_init_22 : decode cX10_init 22 = .ok (.dup, 1) := by decide +kernel
theorem dX10_init_23 : decode cX10_init 23 = .ok (.sipush 128, 3) := by decide +kernel
theorem dX10_init_26 : decode cX10_init 26 = .ok (.invokespecial 11, 3) := by decide +kernel
theorem dX10_init_29 : decode cX10_init 29 = .ok (.putfield 18, 3) := by decide +kernel
theorem dX10_init_32 : decode cX10_init 32 = .ok (.aload_n 0, 1) := by decide +kernel
theorem dX10_init_33 : decode cX10_init 33 = .ok (.new 9, 3) := by decide +kernel
theorem dX10_init_36 : decode cX10_init 36 = .ok (.dup, 1) := by decide +kernel
theorem dX10_init_37 : decode cX10_init 37 = .ok (.iconst 3, 1) := by decide +kernel
theorem dX10_init_38 : decode cX10_init 38 = .ok (.invokespecial 11, 3) := by decide +kernel
theorem dX10_init_41 : decode cX10_init 41 = .ok (.putfield 21, 3) := by decide +kernel
theorem dX10_init_44 : decode cX10_init 44 = .ok (.aload_n 0, 1) := by decide +kernel
theorem dX10_init_45 : decode cX10_init 45 = .ok (.new 24, 3) := by decide +kernel
theorem dX10_init_48 : decode cX10_init 48 = .ok (.dup, 1) := by decide +kernel
theorem dX10_init_49 : decode cX10_init 49 = .ok (.aload_n 0, 1) := by decide +kernel
theorem dX10_init_50 : decode cX10_init 50 = .ok (.getfield 14, 3) := by decide +kernel
theorem dX10_init_53 : decode cX10_init 53 = .ok (.invokespecial 26, 3) := by decide +kernel
theorem dX10_init_56 : decode cX10_init 56 = .ok (.putfield 29, 3) := by decide +kernel
theorem dX10_init_59 : decode cX10_init 59 = .ok (.aload_n 0, 1) := by decide +kernel
theorem dX10_init_60 : decode cX10_init 60 = .ok (.new 33, 3) := by decide +kernel
theorem dX10_init_63 : decode cX10_init 63 = .ok (.dup, 1) := by decide +kernel
theorem dX10_init_64 : decode cX10_init 64 = .ok (.invokespecial 35, 3) := by decide +kernel
theorem dX10_init_67 : decode cX10_init 67 = .ok (.putfield 36, 3) := by decide +kernel
theorem dX10_init_70 : decode cX10_init 70 = .ok (.aload_n 0, 1) := by decide +kernel
theorem dX10_init_71 : decode cX10_init 71 = .ok (.new 40, 3) := by decide +kernel
theorem dX10_init_74 : decode cX10_init 74 = .ok (.dup, 1) := by decide +kernel
theorem dX10_init_75 : decode cX10_init 75 = .ok (.invokespecial 42, 3) := by decide +kernel
theorem dX10_init_78 : decode cX10_init 78 = .ok (.putfield 43, 3) := by decide +kernel
theorem dX10_init_81 : decode cX10_init 81 = .ok (.aload_n 0, 1) := by decide +kernel
theorem dX10_init_82 : decode cX10_init 82 = .ok (.new 47, 3) := by decide +kernel
theorem dX10_init_85 : decode cX10_init 85 = .ok (.dup, 1) := by decide +kernel
theorem dX10_init_86 : decode cX10_init 86 = .ok (.invokespecial 49, 3) := by decide +kernel
theorem dX10_init_89 : decode cX10_init 89 = .ok (.putfield 50, 3) := by decide +kernel
theorem dX10_init_92 : decode cX10_init 92 = .ok (.aload_n 0, 1) := by decide +kernel
theorem dX10_init_93 : decode cX10_init 93 = .ok (.new 47, 3) := by decide +kernel
theorem dX10_init_96 : decode cX10_init 96 = .ok (.dup, 1) := by decide +kernel
theorem dX10_init_97 : decode cX10_init 97 = .ok (.invokespecial 49, 3) := by decide +kernel
theorem dX10_init_100 : decode cX10_init 100 = .ok (.putfield 54, 3) := by decide +kernel
theorem dX10_init_103 : decode cX10_init 103 = .ok (.aload_n 0, 1) := by decide +kernel
theorem dX10_init_104 : decode cX10_init 104 = .ok (.new 47, 3) := by decide +kernel
theorem dX10_init_107 : decode cX10_init 107 = .ok (.dup, 1) := by decide +kernel
theorem dX10_init_108 : decode cX10_init 108 = .ok (.invokespecial 49, 3) := by decide +kernel
theorem dX10_init_111 : decode cX10_init 111 = .ok (.putfield 57, 3) := by decide +kernel
theorem dX10_init_114 : decode cX10_init 114 = .ok (.aload_n 0, 1) := by decide +kernel
theorem dX10_init_115 : decode cX10_init 115 = .ok (.iconst 0, 1) := by decide +kernel
theorem dX10_init_116 : decode cX10_init 116 = .ok (.putfield 60, 3) := by decide +kernel
theorem dX10_init_119 : decode cX10_init 119 = .ok (.aload_n 0, 1) := by decide +kernel
theorem dX10_init_120 : decode cX10_init 120 = .ok (.iconst (-1), 1) := by decide +kernel
theorem dX10_init_121 : decode cX10_init 121 = .ok (.putfield 64, 3) := by decide +kernel
theorem dX10_init_124 : decode cX10_init 124 = .ok (.aload_n 0, 1) := by decide +kernel
theorem dX10_init_125 : decode cX10_init 125 = .ok (.getfield 21, 3) := by decide +kernel
theorem dX10_init_128 : decode cX10_init 128 = .ok (.iconst 3, 1) := by decide +kernel
theorem dX10_init_129 : decode cX10_init 129 = .ok (.invokevirtual 68, 3) := by decide +kernel
theorem dX10_init_132 : decode cX10_init 132 = .ok (.aload_n 0, 1) := by decide +kernel
theorem dX10_init_133 : decode cX10_init 133 = .ok (.getfield 50, 3) := by decide +kernel
theorem dX10_init_136 : decode cX10_init 136 = .ok (.iconst 3, 1) := by decide +kernel
theorem dX10_init_137 : decode cX10_init 137 = .ok (.iconst 2, 1) := by decide +kernel
theorem dX10_init_138 : decode cX10_init 138 = .ok (.iconst 2, 1) := by decide +kernel
theorem dX10_init_139 : decode cX10_init 139 = .ok (.iconst 2, 1) := by decide +kernel
theorem dX10_init_140 : decode cX10_init 140 = .ok (.invokevirtual 71, 3) := by decide +kernel
theorem dX10_init_143 : decode cX10_init 143 = .ok (.aload_n 0, 1) := by decide +kernel
theorem dX10_init_144 : decode cX10_init 144 = .ok (.getfield 50, 3) := by decide +kernel
theorem dX10_init_147 : decode cX10_init 147 = .ok (.bipush 10, 2) := by decide +kernel
theorem dX10_init_149 : decode cX10_init 149 = .ok (.iconst 0, 1) := by decide +kernel
theorem dX10_init_150 : decode cX10_init 150 = .ok (.invokevirtual 75, 3) := by decide +kernel
theorem dX10_init_153 : decode cX10_init 153 = .ok (.aload_n 0, 1) := by decide +kernel
theorem dX10_init_154 : decode cX10_init 154 = .ok (.getfield 50, 3) := by decide +kernel
theorem dX10_init_157 : decode cX10_init 157 = .ok (.bipush 20, 2) := by decide +kernel
theorem dX10_init_159 : decode cX10_init 159 = .ok (.iconst 0, 1) := by decide +kernel
theorem dX10_init_160 : decode cX10_init 160 = .ok (.invokevirtual 75, 3) := by decide +kernel
theorem dX10_init_163 : decode cX10_init 163 = .ok (.aload_n 0, 1) := by decide +kernel
theorem dX10_init_164 : decode cX10_init 164 = .ok (.getfield 50, 3) := by decide +kernel
theorem dX10_init_167 : decode cX10_init 167 = .ok (.bipush 30, 2) := by decide +kernel
theorem dX10_init_169 : decode cX10_init 169 = .ok (.iconst 4, 1) := by decide +kernel
theorem dX10_init_170 : decode cX10_init 170 = .ok (.invokevirtual 75, 3) := by decide +kernel
theorem dX10_init_173 : decode cX10_init 173 = .ok (.aload_n 0, 1) := by decide +kernel
theorem dX10_init_174 : decode cX10_init 174 = .ok (.getfield 50, 3) := by decide +kernel
theorem dX10_init_177 : decode cX10_init 177 = .ok (.bipush 50, 2) := by decide +kernel
theorem dX10_init_179 : decode cX10_init 179 = .ok (.iconst 0, 1) := by decide +kernel
theorem dX10_init_180 : decode cX10_init 180 = .ok (.invokevirtual 75, 3) := by decide +kernel
theorem dX10_init_183 : decode cX10_init 183 = .ok (.aload_n 0, 1) := by decide +kernel
theorem dX10_init_184 : decode cX10_init 184 = .ok (.getfield 50, 3) := by decide +kernel
theorem dX10_init_187 : decode cX10_init 187 = .ok (.bipush 40, 2) := by decide +kernel
theorem dX10_init_189 : decode cX10_init 189 = .ok (.iconst 0, 1) := by decide +kernel
theorem dX10_init_190 : decode cX10_init 190 = .ok (.invokevirtual 75, 3) := by decide +kernel
theorem dX10_init_193 : decode cX10_init 193 = .ok (.return_, 1) := by decide +kernel
theorem dX10_feed_0 : decode cX10_feed 0 = .ok (.aload_n 0, 1) := by decide +kernel
theorem dX10_feed_1 : decode cX10_feed 1 = .ok (.getfield 14, 3) := by decide +kernel
theorem dX10_feed_4 : decode cX10_feed 4 = .ok (.invokevirtual 79, 3) := by decide +kernel
theorem dX10_feed_7 : decode cX10_feed 7 = .ok (.bipush 20, 2) := by decide +kernel
theorem dX10_feed_9 : decode cX10_feed 9 = .ok (.iadd, 1) := by decide +kernel
theorem dX10_feed_10 : decode cX10_feed 10 = .ok (.sipush 700, 3) := by decide +kernel
theorem dX10_feed_13 : decode cX10_feed 13 = .ok (.if_icmp .le 5, 3) := by decide +kernel
theorem dX10_feed_16 : decode cX10_feed 16 = .ok (.iconst (-1), 1) := by decide +kernel
theorem dX10_feed_17 : decode cX10_feed 17 = .ok (.ireturn, 1) := by decide +kernel
theorem dX10_feed_18 : decode cX10_feed 18 = .ok (.aload_n 0, 1) := by decide +kernel
theorem dX10_feed_19 : decode cX10_feed 19 = .ok (.iload_n 1, 1) := by decide +kernel
theorem dX10_feed_20 : decode cX10_feed 20 = .ok (.invokevirtual 83, 3) := by decide +kernel
theorem dX10_feed_23 : decode cX10_feed 23 = .ok (.aload_n 0, 1) := by decide +kernel
theorem dX10_feed_24 : decode cX10_feed 24 = .ok (.iload_n 2, 1) := by decide +kernel
theorem dX10_feed_25 : decode cX10_feed 25 = .ok (.invokevirtual 83, 3) := by decide +kernel
theorem dX10_feed_28 : decode cX10_feed 28 = .ok (.aload_n 0, 1) := by decide +kernel
theorem dX10_feed_29 : decode cX10_feed 29 = .ok (.iload_n 3, 1) := by decide +kernel
theorem dX10_feed_30 : decode cX10_feed 30 = .ok (.invokevirtual 83, 3) := by decide +kernel
theorem dX10_feed_33 : decode cX10_feed 33 = .ok (.aload_n 0, 1) := by decide +kernel
theorem dX10_feed_34 : decode cX10_feed 34 = .ok (.iload 4, 2) := by decide +kernel
theorem dX10_feed_36 : decode cX10_feed 36 = .ok (.invokevirtual 83, 3) := by decide +kernel
theorem dX10_feed_39 : decode cX10_feed 39 = .ok (.aload_n 0, 1) := by decide +kernel
theorem dX10_feed_40 : decode cX10_feed 40 = .ok (.iload 5, 2) := by decide +kernel
theorem dX10_feed_42 : decode cX10_feed 42 = .ok (.invokevirtual 83, 3) := by decide +kernel
theorem dX10_feed_45 : decode cX10_feed 45 = .ok (.aload_n 0, 1) := by decide +kernel
theorem dX10_feed_46 : decode cX10_feed 46 = .ok (.getfield 14, 3) := by decide +kernel
theorem dX10_feed_49 : decode cX10_feed 49 = .ok (.invokevirtual 79, 3) := by decide +kernel
theorem dX10_feed_52 : decode cX10_feed 52 = .ok (.ireturn, 1) := by decide +kernel
theorem dX10_appendBytes_0 : decode cX10_appendBytes 0 = .ok (.bipush 24, 2) := by decide +kernel
theorem dX10_appendBytes_2 : decode cX10_appendBytes 2 = .ok (.istore_n 2, 1) := by decide +kernel
theorem dX10_appendBytes_3 : decode cX10_appendBytes 3 = .ok (.iload_n 2, 1) := by decide +kernel
theorem dX10_appendBytes_4 : decode cX10_appendBytes 4 = .ok (.ifCond .lt 23, 3) := by decide +kernel
theorem dX10_appendBytes_7 : decode cX10_appendBytes 7 = .ok (.aload_n 0, 1) := by decide +kernel
theorem dX10_appendBytes_8 : decode cX10_appendBytes 8 = .ok (.getfield 14, 3) := by decide +kernel
theorem dX10_appendBytes_11 : decode cX10_appendBytes 11 = .ok (.iload_n 1, 1) := by decide +kernel
theorem dX10_appendBytes_12 : decode cX10_appendBytes 12 = .ok (.iload_n 2, 1) := by decide +kernel
theorem dX10_appendBytes_13 : decode cX10_appendBytes 13 = .ok (.iushr, 1) := by decide +kernel
theorem dX10_appendBytes_14 : decode cX10_appendBytes 14 = .ok (.sipush 255, 3) := by decide +kernel
theorem dX10_appendBytes_17 : decode cX10_appendBytes 17 = .ok (.iand, 1) := by decide +kernel
theorem dX10_appendBytes_18 : decode cX10_appendBytes 18 = .ok (.invokevirtual 86, 3) := by decide +kernel
theorem dX10_appendBytes_21 : decode cX10_appendBytes 21 = .ok (.iinc 2 (-8), 3) := by decide +kernel
theorem dX10_appendBytes_24 : decode cX10_appendBytes 24 = .ok (.goto (-21), 3) := by decide +kernel
theorem dX10_appendBytes_27 : decode cX10_appendBytes 27 = .ok (.return_, 1) := by decide +kernel
theorem dX10_load_0 : decode cX10_load 0 = .ok (.iload_n 1, 1) := by decide +kernel
theorem dX10_load_1 : decode cX10_load 1 = .ok (.ifCond .lt 14, 3) := by decide +kernel
theorem dX10_load_4 : decode cX10_load 4 = .ok (.iload_n 1, 1) := by decide +kernel
theorem dX10_load_5 : decode cX10_load 5 = .ok (.aload_n 0, 1) := by decide +kernel
theorem dX10_load_6 : decode cX10_load 6 = .ok (.getfield 14, 3) := by decide +kernel
theorem dX10_load_9 : decode cX10_load 9 = .ok (.invokevirtual 79, 3) := by decide +kernel
theorem dX10_load_12 : decode cX10_load 12 = .ok (.if_icmp .le 13, 3) := by decide +kernel
theorem dX10_load_15 : decode cX10_load 15 = .ok (.new 89, 3) := by decide +kernel
theorem dX10_load_18 : decode cX10_load 18 = .ok (.dup, 1) := by decide +kernel
theorem dX10_load_19 : decode cX10_load 19 = .ok (.ldc 91, 2) := by decide +kernel
theorem dX10_load_21 : decode cX10_load 21 = .ok (.invokespecial 93, 3) := by decide +kernel
theorem dX10_load_24 : decode cX10_load 24 = .ok (.athrow, 1) := by decide +kernel
theorem dX10_load_25 : decode cX10_load 25 = .ok (.aload_n 0, 1) := by decide +kernel
theorem dX10_load_26 : decode cX10_load 26 = .ok (.getfield 29, 3) := by decide +kernel
theorem dX10_load_29 : decode cX10_load 29 = .ok (.iload_n 1, 1) := by decide +kernel
theorem dX10_load_30 : decode cX10_load 30 = .ok (.aload_n 0, 1) := by decide +kernel
theorem dX10_load_31 : decode cX10_load 31 = .ok (.getfield 54, 3) := by decide +kernel
theorem dX10_load_34 : decode cX10_load 34 = .ok (.invokevirtual 96, 3) := by decide +kernel
theorem dX10_load_37 : decode cX10_load 37 = .ok (.istore_n 2, 1) := by decide +kernel
theorem dX10_load_38 : decode cX10_load 38 = .ok (.aload_n 0, 1) := by decide +kernel
theorem dX10_load_39 : decode cX10_load 39 = .ok (.getfield 14, 3) := by decide +kernel
theorem dX10_load_42 : decode cX10_load 42 = .ok (.invokevirtual 100, 3) := by decide +kernel
theorem dX10_load_45 : decode cX10_load 45 = .ok (.aload_n 0, 1) := by decide +kernel
theorem dX10_load_46 : decode cX10_load 46 = .ok (.aload_n 0, 1) := by decide +kernel
theorem dX10_load_47 : decode cX10_load 47 = .ok (.getfield 29, 3) := by decide +kernel
theorem dX10_load_50 : decode cX10_load 50 = .ok (.invokevirtual 103, 3) := by decide +kernel
theorem dX10_load_53 : decode cX10_load 53 = .ok (.putfield 64, 3) := by decide +kernel
theorem dX10_load_56 : decode cX10_load 56 = .ok (.iload_n 2, 1) := by decide +kernel
theorem dX10_load_57 : decode cX10_load 57 = .ok (.ifCond .eq 8, 3) := by decide +kernel
theorem dX10_load_60 : decode cX10_load 60 = .ok (.bipush (-10), 2) := by decide +kernel
theorem dX10_load_62 : decode cX10_load 62 = .ok (.iload_n 2, 1) := by decide +kernel
theorem dX10_load_63 : decode cX10_load 63 = .ok (.isub, 1) := by decide +kernel
theorem dX10_load_64 : decode cX10_load 64 = .ok (.ireturn, 1) := by decide +kernel
theorem dX10_load_65 : decode cX10_load 65 = .ok (.aload_n 0, 1) := by decide +kernel
theorem dX10_load_66 : decode cX10_load 66 = .ok (.getfield 50, 3) := by decide +kernel
theorem dX10_load_69 : decode cX10_load 69 = .ok (.aload_n 0, 1) := by decide +kernel
theorem dX10_load_70 : decode cX10_load 70 = .ok (.getfield 54, 3) := by decide +kernel
theorem dX10_load_73 : decode cX10_load 73 = .ok (.invokevirtual 106, 3) := by decide +kernel
theorem dX10_load_76 : decode cX10_load 76 = .ok (.aload_n 0, 1) := by decide +kernel
theorem dX10_load_77 : decode cX10_load 77 = .ok (.getfield 43, 3) := by decide +kernel
theorem dX10_load_80 : decode cX10_load 80 = .ok (.invokevirtual 110, 3) := by decide +kernel
theorem dX10_load_83 : decode cX10_load 83 = .ok (.aload_n 0, 1) := by decide +kernel
theorem dX10_load_84 : decode cX10_load 84 = .ok (.iconst 0, 1) := by decide +kernel
theorem dX10_load_85 : decode cX10_load 85 = .ok (.putfield 60, 3) := by decide +kernel
theorem dX10_load_88 : decode cX10_load 88 = .ok (.aload_n 0, 1) := by decide +kernel
theorem dX10_load_89 : decode cX10_load 89 = .ok (.getfield 50, 3) := by decide +kernel
theorem dX10_load_92 : decode cX10_load 92 = .ok (.getfield 111, 3) := by decide +kernel
theorem dX10_load_95 : decode cX10_load 95 = .ok (.invokevirtual 79, 3) := by decide +kernel
theorem dX10_load_98 : decode cX10_load 98 = .ok (.ireturn, 1) := by decide +kernel
theorem dX10_size_0 : decode cX10_size 0 = .ok (.iload_n 1, 1) := by decide +kernel
theorem dX10_size_1 : decode cX10_size 1 = .ok (.tableswitch 184 0 11 #[63, 71, 79, 87, 98, 106, 117, 131, 143, 154, 165, 176], 63) := by decide +kernel
theorem dX10_size_64 : decode cX10_size 64 = .ok (.aload_n 0, 1) := by decide +kernel
theorem dX10_size_65 : decode cX10_size 65 = .ok (.getfield 50, 3) := by decide +kernel
theorem dX10_size_68 : decode cX10_size 68 = .ok (.getfield 114, 3) := by decide +kernel
theorem dX10_size_71 : decode cX10_size 71 = .ok (.ireturn, 1) := by decide +kernel
theorem dX10_size_72 : decode cX10_size 72 = .ok (.aload_n 0, 1) := by decide +kernel
theorem dX10_size_73 : decode cX10_size 73 = .ok (.getfield 50, 3) := by decide +kernel
theorem dX10_size_76 : decode cX10_size 76 = .ok (.getfield 117, 3) := by decide +kernel
theorem dX10_size_79 : decode cX10_size 79 = .ok (.ireturn, 1) := by decide +kernel
theorem dX10_size_80 : decode cX10_size 80 = .ok (.aload_n 0, 1) := by decide +kernel
theorem dX10_size_81 : decode cX10_size 81 = .ok (.getfield 50, 3) := by decide +kernel
theorem dX10_size_84 : decode cX10_size 84 = .ok (.getfield 120, 3) := by decide +kernel
theorem dX10_size_87 : decode cX10_size 87 = .ok (.ireturn, 1) := by decide +kernel
theorem dX10_size_88 : decode cX10_size 88 = .ok (.aload_n 0, 1) := by decide +kernel
theorem dX10_size_89 : decode cX10_size 89 = .ok (.getfield 50, 3) := by decide +kernel
theorem dX10_size_92 : decode cX10_size 92 = .ok (.getfield 123, 3) := by decide +kernel
theorem dX10_size_95 : decode cX10_size 95 = .ok (.invokevirtual 79, 3) := by decide +kernel
theorem dX10_size_98 : decode cX10_size 98 = .ok (.ireturn, 1) := by decide +kernel
theorem dX10_size_99 : decode cX10_size 99 = .ok (.aload_n 0, 1) := by decide +kernel
theorem dX10_size_100 : decode cX10_size 100 = .ok (.getfield 50, 3) := by decide +kernel
theorem dX10_size_103 : decode cX10_size 103 = .ok (.getfield 126, 3) := by decide +kernel
theorem dX10_size_106 : decode cX10_size 106 = .ok (.ireturn, 1) := by decide +kernel
theorem dX10_size_107 : decode cX10_size 107 = .ok (.aload_n 0, 1) := by decide +kernel
theorem dX10_size_108 : decode cX10_size 108 = .ok (.getfield 50, 3) := by decide +kernel
theorem dX10_size_111 : decode cX10_size 111 = .ok (.getfield 111, 3) := by decide +kernel
theorem dX10_size_114 : decode cX10_size 114 = .ok (.invokevirtual 79, 3) := by decide +kernel
theorem dX10_size_117 : decode cX10_size 117 = .ok (.ireturn, 1) := by decide +kernel
theorem dX10_size_118 : decode cX10_size 118 = .ok (.aload_n 0, 1) := by decide +kernel
theorem dX10_size_119 : decode cX10_size 119 = .ok (.getfield 50, 3) := by decide +kernel
theorem dX10_size_122 : decode cX10_size 122 = .ok (.getfield 129, 3) := by decide +kernel
theorem dX10_size_125 : decode cX10_size 125 = .ok (.getfield 133, 3) := by decide +kernel
theorem dX10_size_128 : decode cX10_size 128 = .ok (.invokevirtual 79, 3) := by decide +kernel
theorem dX10_size_131 : decode cX10_size 131 = .ok (.ireturn, 1) := by decide +kernel
theorem dX10_size_132 : decode cX10_size 132 = .ok (.aload_n 0, 1) := by decide +kernel
theorem dX10_size_133 : decode cX10_size 133 = .ok (.getfield 50, 3) := by decide +kernel
theorem dX10_size_136 : decode cX10_size 136 = .ok (.getfield 138, 3) := by decide +kernel
theorem dX10_size_139 : decode cX10_size 139 = .ok (.iconst 1, 1) := by decide +kernel
theorem dX10_size_140 : decode cX10_size 140 = .ok (.invokevirtual 141, 3) := by decide +kernel
theorem dX10_size_143 : decode cX10_size 143 = .ok (.ireturn, 1) := by decide +kernel
theorem dX10_size_144 : decode cX10_size 144 = .ok (.aload_n 0, 1) := by decide +kernel
theorem dX10_size_145 : decode cX10_size 145 = .ok (.getfield 50, 3) := by decide +kernel
theorem dX10_size_148 : decode cX10_size 148 = .ok (.getfield 145, 3) := by decide +kernel
theorem dX10_size_151 : decode cX10_size 151 = .ok (.invokevirtual 79, 3) := by decide +kernel
theorem dX10_size_154 : decode cX10_size 154 = .ok (.ireturn, 1) := by decide +kernel
theorem dX10_size_155 : decode cX10_size 155 = .ok (.aload_n 0, 1) := by decide +kernel
theorem dX10_size_156 : decode cX10_size 156 = .ok (.getfield 50, 3) := by decide +kernel
theorem dX10_size_159 : decode cX10_size 159 = .ok (.getfield 148, 3) := by decide +kernel
theorem dX10_size_162 : decode cX10_size 162 = .ok (.invokevirtual 152, 3) := by decide +kernel
theorem dX10_size_165 : decode cX10_size 165 = .ok (.ireturn, 1) := by decide +kernel
theorem dX10_size_166 : decode cX10_size 166 = .ok (.aload_n 0, 1) := by decide +kernel
theorem dX10_size_167 : decode cX10_size 167 = .ok (.getfield 50, 3) := by decide +kernel
theorem dX10_size_170 : decode cX10_size 170 = .ok (.getfield 129, 3) := by decide +kernel
theorem dX10_size_173 : decode cX10_size 173 = .ok (.invokevirtual 155, 3) := by decide +kernel
theorem dX10_size_176 : decode cX10_size 176 = .ok (.ireturn, 1) := by decide +kernel
theorem dX10_size_177 : decode cX10_size 177 = .ok (.aload_n 0, 1) := by decide +kernel
theorem dX10_size_178 : decode cX10_size 178 = .ok (.getfield 50, 3) := by decide +kernel
theorem dX10_size_181 : decode cX10_size 181 = .ok (.invokevirtual 158, 3) := by decide +kernel
theorem dX10_size_184 : decode cX10_size 184 = .ok (.ireturn, 1) := by decide +kernel
theorem dX10_size_185 : decode cX10_size 185 = .ok (.new 89, 3) := by decide +kernel
theorem dX10_size_188 : decode cX10_size 188 = .ok (.dup, 1) := by decide +kernel
theorem dX10_size_189 : decode cX10_size 189 = .ok (.ldc 161, 2) := by decide +kernel
theorem dX10_size_191 : decode cX10_size 191 = .ok (.invokespecial 93, 3) := by decide +kernel
theorem dX10_size_194 : decode cX10_size 194 = .ok (.athrow, 1) := by decide +kernel
theorem dX10_account_0 : decode cX10_account 0 = .ok (.iload_n 1, 1) := by decide +kernel
theorem dX10_account_1 : decode cX10_account 1 = .ok (.ifCond .lt 9, 3) := by decide +kernel
theorem dX10_account_4 : decode cX10_account 4 = .ok (.iload_n 1, 1) := by decide +kernel
theorem dX10_account_5 : decode cX10_account 5 = .ok (.bipush 11, 2) := by decide +kernel
theorem dX10_account_7 : decode cX10_account 7 = .ok (.if_icmp .lt 13, 3) := by decide +kernel
theorem dX10_account_10 : decode cX10_account 10 = .ok (.new 89, 3) := by decide +kernel
theorem dX10_account_13 : decode cX10_account 13 = .ok (.dup, 1) := by decide +kernel
theorem dX10_account_14 : decode cX10_account 14 = .ok (.ldc 163, 2) := by decide +kernel
theorem dX10_account_16 : decode cX10_account 16 = .ok (.invokespecial 93, 3) := by decide +kernel
theorem dX10_account_19 : decode cX10_account 19 = .ok (.athrow, 1) := by decide +kernel
theorem dX10_account_20 : decode cX10_account 20 = .ok (.iload_n 1, 1) := by decide +kernel
theorem dX10_account_21 : decode cX10_account 21 = .ok (.iconst 3, 1) := by decide +kernel
theorem dX10_account_22 : decode cX10_account 22 = .ok (.if_icmp .ge 14, 3) := by decide +kernel
theorem dX10_account_25 : decode cX10_account 25 = .ok (.aload_n 0, 1) := by decide +kernel
theorem dX10_account_26 : decode cX10_account 26 = .ok (.getfield 21, 3) := by decide +kernel
theorem dX10_account_29 : decode cX10_account 29 = .ok (.iload_n 1, 1) := by decide +kernel
theorem dX10_account_30 : decode cX10_account 30 = .ok (.invokevirtual 165, 3) := by decide +kernel
theorem dX10_account_33 : decode cX10_account 33 = .ok (.goto 14, 3) := by decide +kernel
theorem dX10_account_36 : decode cX10_account 36 = .ok (.aload_n 0, 1) := by decide +kernel
theorem dX10_account_37 : decode cX10_account 37 = .ok (.getfield 50, 3) := by decide +kernel
theorem dX10_account_40 : decode cX10_account 40 = .ok (.getfield 168, 3) := by decide +kernel
theorem dX10_account_43 : decode cX10_account 43 = .ok (.iload_n 1, 1) := by decide +kernel
theorem dX10_account_44 : decode cX10_account 44 = .ok (.invokevirtual 165, 3) := by decide +kernel
theorem dX10_account_47 : decode cX10_account 47 = .ok (.ireturn, 1) := by decide +kernel
theorem dX10_folder_0 : decode cX10_folder 0 = .ok (.aload_n 0, 1) := by decide +kernel
theorem dX10_folder_1 : decode cX10_folder 1 = .ok (.getfield 50, 3) := by decide +kernel
theorem dX10_folder_4 : decode cX10_folder 4 = .ok (.iload_n 1, 1) := by decide +kernel
theorem dX10_folder_5 : decode cX10_folder 5 = .ok (.invokevirtual 171, 3) := by decide +kernel
theorem dX10_folder_8 : decode cX10_folder 8 = .ok (.ifCond .ne 13, 3) := by decide +kernel
theorem dX10_folder_11 : decode cX10_folder 11 = .ok (.new 175, 3) := by decide +kernel
theorem dX10_folder_14 : decode cX10_folder 14 = .ok (.dup, 1) := by decide +kernel
theorem dX10_folder_15 : decode cX10_folder 15 = .ok (.ldc 177, 2) := by decide +kernel
theorem dX10_folder_17 : decode cX10_folder 17 = .ok (.invokespecial 179, 3) := by decide +kernel
theorem dX10_folder_20 : decode cX10_folder 20 = .ok (.athrow, 1) := by decide +kernel
theorem dX10_folder_21 : decode cX10_folder 21 = .ok (.iload_n 2, 1) := by decide +kernel
theorem dX10_folder_22 : decode cX10_folder 22 = .ok (.tableswitch 131 0 6 #[42, 54, 66, 78, 87, 102, 114], 42) := by decide +kernel
theorem dX10_folder_64 : decode cX10_folder 64 = .ok (.aload_n 0, 1) := by decide +kernel
theorem dX10_folder_65 : decode cX10_folder 65 = .ok (.getfield 50, 3) := by decide +kernel
theorem dX10_folder_68 : decode cX10_folder 68 = .ok (.getfield 111, 3) := by decide +kernel
theorem dX10_folder_71 : decode cX10_folder 71 = .ok (.iload_n 1, 1) := by decide +kernel
theorem dX10_folder_72 : decode cX10_folder 72 = .ok (.invokevirtual 165, 3) := by decide +kernel
theorem dX10_folder_75 : decode cX10_folder 75 = .ok (.ireturn, 1) := by decide +kernel
theorem dX10_folder_76 : decode cX10_folder 76 = .ok (.aload_n 0, 1) := by decide +kernel
theorem dX10_folder_77 : decode cX10_folder 77 = .ok (.getfield 50, 3) := by decide +kernel
theorem dX10_folder_80 : decode cX10_folder 80 = .ok (.getfield 180, 3) := by decide +kernel
theorem dX10_folder_83 : decode cX10_folder 83 = .ok (.iload_n 1, 1) := by decide +kernel
theorem dX10_folder_84 : decode cX10_folder 84 = .ok (.invokevirtual 165, 3) := by decide +kernel
theorem dX10_folder_87 : decode cX10_folder 87 = .ok (.ireturn, 1) := by decide +kernel
theorem dX10_folder_88 : decode cX10_folder 88 = .ok (.aload_n 0, 1) := by decide +kernel
theorem dX10_folder_89 : decode cX10_folder 89 = .ok (.getfield 50, 3) := by decide +kernel
theorem dX10_folder_92 : decode cX10_folder 92 = .ok (.getfield 138, 3) := by decide +kernel
theorem dX10_folder_95 : decode cX10_folder 95 = .ok (.iload_n 1, 1) := by decide +kernel
theorem dX10_folder_96 : decode cX10_folder 96 = .ok (.invokevirtual 165, 3) := by decide +kernel
theorem dX10_folder_99 : decode cX10_folder 99 = .ok (.ireturn, 1) := by decide +kernel
theorem dX10_folder_100 : decode cX10_folder 100 = .ok (.aload_n 0, 1) := by decide +kernel
theorem dX10_folder_101 : decode cX10_folder 101 = .ok (.getfield 50, 3) := by decide +kernel
theorem dX10_folder_104 : decode cX10_folder 104 = .ok (.iload_n 1, 1) := by decide +kernel
theorem dX10_folder_105 : decode cX10_folder 105 = .ok (.invokevirtual 183, 3) := by decide +kernel
theorem dX10_folder_108 : decode cX10_folder 108 = .ok (.ireturn, 1) := by decide +kernel
theorem dX10_folder_109 : decode cX10_folder 109 = .ok (.aload_n 0, 1) := by decide +kernel
theorem dX10_folder_110 : decode cX10_folder 110 = .ok (.getfield 50, 3) := by decide +kernel
theorem dX10_folder_113 : decode cX10_folder 113 = .ok (.getfield 148, 3) := by decide +kernel
theorem dX10_folder_116 : decode cX10_folder 116 = .ok (.getfield 186, 3) := by decide +kernel
theorem dX10_folder_119 : decode cX10_folder 119 = .ok (.iload_n 1, 1) := by decide +kernel
theorem dX10_folder_120 : decode cX10_folder 120 = .ok (.invokevirtual 141, 3) := by decide +kernel
theorem dX10_folder_123 : decode cX10_folder 123 = .ok (.ireturn, 1) := by decide +kernel
theorem dX10_folder_124 : decode cX10_folder 124 = .ok (.aload_n 0, 1) := by decide +kernel
theorem dX10_folder_125 : decode cX10_folder 125 = .ok (.getfield 50, 3) := by decide +kernel
theorem dX10_folder_128 : decode cX10_folder 128 = .ok (.getfield 187, 3) := by decide +kernel
theorem dX10_folder_131 : decode cX10_folder 131 = .ok (.iload_n 1, 1) := by decide +kernel
theorem dX10_folder_132 : decode cX10_folder 132 = .ok (.invokevirtual 165, 3) := by decide +kernel
theorem dX10_folder_135 : decode cX10_folder 135 = .ok (.ireturn, 1) := by decide +kernel
theorem dX10_folder_136 : decode cX10_folder 136 = .ok (.aload_n 0, 1) := by decide +kernel
theorem dX10_folder_137 : decode cX10_folder 137 = .ok (.getfield 50, 3) := by decide +kernel
theorem dX10_folder_140 : decode cX10_folder 140 = .ok (.iload_n 1, 1) := by decide +kernel
theorem dX10_folder_141 : decode cX10_folder 141 = .ok (.invokevirtual 190, 3) := by decide +kernel
theorem dX10_folder_144 : decode cX10_folder 144 = .ok (.ifCond .eq 7, 3) := by decide +kernel
theorem dX10_folder_147 : decode cX10_folder 147 = .ok (.iconst 1, 1) := by decide +kernel
theorem dX10_folder_148 : decode cX10_folder 148 = .ok (.goto 4, 3) := by decide +kernel
theorem dX10_folder_151 : decode cX10_folder 151 = .ok (.iconst 0, 1) := by decide +kernel
theorem dX10_folder_152 : decode cX10_folder 152 = .ok (.ireturn, 1) := by decide +kernel
theorem dX10_folder_153 : decode cX10_folder 153 = .ok (.new 89, 3) := by decide +kernel
theorem dX10_folder_156 : decode cX10_folder 156 = .ok (.dup, 1) := by decide +kernel
theorem dX10_folder_157 : decode cX10_folder 157 = .ok (.ldc 193, 2) := by decide +kernel
theorem dX10_folder_159 : decode cX10_folder 159 = .ok (.invokespecial 93, 3) := by decide +kernel
theorem dX10_folder_162 : decode cX10_folder 162 = .ok (.athrow, 1) := by decide +kernel
theorem dX10_marked_0 : decode cX10_marked 0 = .ok (.aload_n 0, 1) := by decide +kernel
theorem dX10_marked_1 : decode cX10_marked 1 = .ok (.getfield 50, 3) := by decide +kernel
theorem dX10_marked_4 : decode cX10_marked 4 = .ok (.getfield 111, 3) := by decide +kernel
theorem dX10_marked_7 : decode cX10_marked 7 = .ok (.iload_n 1, 1) := by decide +kernel
theorem dX10_marked_8 : decode cX10_marked 8 = .ok (.invokevirtual 195, 3) := by decide +kernel
theorem dX10_marked_11 : decode cX10_marked 11 = .ok (.ireturn, 1) := by decide +kernel
theorem dX10_at_0 : decode cX10_at 0 = .ok (.aload_n 0, 1) := by decide +kernel
theorem dX10_at_1 : decode cX10_at 1 = .ok (.getfield 50, 3) := by decide +kernel
theorem dX10_at_4 : decode cX10_at 4 = .ok (.getfield 129, 3) := by decide +kernel
theorem dX10_at_7 : decode cX10_at 7 = .ok (.getfield 133, 3) := by decide +kernel
theorem dX10_at_10 : decode cX10_at 10 = .ok (.iload_n 1, 1) := by decide +kernel
theorem dX10_at_11 : decode cX10_at 11 = .ok (.invokevirtual 165, 3) := by decide +kernel
theorem dX10_at_14 : decode cX10_at 14 = .ok (.ireturn, 1) := by decide +kernel
theorem dX10_reader_0 : decode cX10_reader 0 = .ok (.aload_n 0, 1) := by decide +kernel
theorem dX10_reader_1 : decode cX10_reader 1 = .ok (.getfield 50, 3) := by decide +kernel
theorem dX10_reader_4 : decode cX10_reader 4 = .ok (.iload_n 1, 1) := by decide +kernel
theorem dX10_reader_5 : decode cX10_reader 5 = .ok (.invokevirtual 198, 3) := by decide +kernel
theorem dX10_reader_8 : decode cX10_reader 8 = .ok (.ifCond .ne 13, 3) := by decide +kernel
theorem dX10_reader_11 : decode cX10_reader 11 = .ok (.new 175, 3) := by decide +kernel
theorem dX10_reader_14 : decode cX10_reader 14 = .ok (.dup, 1) := by decide +kernel
theorem dX10_reader_15 : decode cX10_reader 15 = .ok (.ldc 201, 2) := by decide +kernel
theorem dX10_reader_17 : decode cX10_reader 17 = .ok (.invokespecial 179, 3) := by decide +kernel
theorem dX10_reader_20 : decode cX10_reader 20 = .ok (.athrow, 1) := by decide +kernel
theorem dX10_reader_21 : decode cX10_reader 21 = .ok (.iload_n 2, 1) := by decide +kernel
theorem dX10_reader_22 : decode cX10_reader 22 = .ok (.tableswitch 65 0 2 #[26, 38, 53], 26) := by decide +kernel
theorem dX10_reader_48 : decode cX10_reader 48 = .ok (.aload_n 0, 1) := by decide +kernel
theorem dX10_reader_49 : decode cX10_reader 49 = .ok (.getfield 50, 3) := by decide +kernel
theorem dX10_reader_52 : decode cX10_reader 52 = .ok (.getfield 123, 3) := by decide +kernel
theorem dX10_reader_55 : decode cX10_reader 55 = .ok (.iload_n 1, 1) := by decide +kernel
theorem dX10_reader_56 : decode cX10_reader 56 = .ok (.invokevirtual 165, 3) := by decide +kernel
theorem dX10_reader_59 : decode cX10_reader 59 = .ok (.ireturn, 1) := by decide +kernel
theorem dX10_reader_60 : decode cX10_reader 60 = .ok (.aload_n 0, 1) := by decide +kernel
theorem dX10_reader_61 : decode cX10_reader 61 = .ok (.getfield 50, 3) := by decide +kernel
theorem dX10_reader_64 : decode cX10_reader 64 = .ok (.getfield 148, 3) := by decide +kernel
theorem dX10_reader_67 : decode cX10_reader 67 = .ok (.getfield 203, 3) := by decide +kernel
theorem dX10_reader_70 : decode cX10_reader 70 = .ok (.iload_n 1, 1) := by decide +kernel
theorem dX10_reader_71 : decode cX10_reader 71 = .ok (.invokevirtual 141, 3) := by decide +kernel
theorem dX10_reader_74 : decode cX10_reader 74 = .ok (.ireturn, 1) := by decide +kernel
theorem dX10_reader_75 : decode cX10_reader 75 = .ok (.aload_n 0, 1) := by decide +kernel
theorem dX10_reader_76 : decode cX10_reader 76 = .ok (.getfield 50, 3) := by decide +kernel
theorem dX10_reader_79 : decode cX10_reader 79 = .ok (.getfield 206, 3) := by decide +kernel
theorem dX10_reader_82 : decode cX10_reader 82 = .ok (.iload_n 1, 1) := by decide +kernel
theorem dX10_reader_83 : decode cX10_reader 83 = .ok (.invokevirtual 165, 3) := by decide +kernel
theorem dX10_reader_86 : decode cX10_reader 86 = .ok (.ireturn, 1) := by decide +kernel
theorem dX10_reader_87 : decode cX10_reader 87 = .ok (.new 89, 3) := by decide +kernel
theorem dX10_reader_90 : decode cX10_reader 90 = .ok (.dup, 1) := by decide +kernel
theorem dX10_reader_91 : decode cX10_reader 91 = .ok (.ldc 209, 2) := by decide +kernel
theorem dX10_reader_93 : decode cX10_reader 93 = .ok (.invokespecial 93, 3) := by decide +kernel
theorem dX10_reader_96 : decode cX10_reader 96 = .ok (.athrow, 1) := by decide +kernel
theorem dX10_waiting_0 : decode cX10_waiting 0 = .ok (.iload_n 2, 1) := by decide +kernel
theorem dX10_waiting_1 : decode cX10_waiting 1 = .ok (.ifCond .lt 8, 3) := by decide +kernel
theorem dX10_waiting_4 : decode cX10_waiting 4 = .ok (.iload_n 2, 1) := by decide +kernel
theorem dX10_waiting_5 : decode cX10_waiting 5 = .ok (.iconst 4, 1) := by decide +kernel
theorem dX10_waiting_6 : decode cX10_waiting 6 = .ok (.if_icmp .le 13, 3) := by decide +kernel
theorem dX10_waiting_9 : decode cX10_waiting 9 = .ok (.new 89, 3) := by decide +kernel
theorem dX10_waiting_12 : decode cX10_waiting 12 = .ok (.dup, 1) := by decide +kernel
theorem dX10_waiting_13 : decode cX10_waiting 13 = .ok (.ldc 211, 2) := by decide +kernel
theorem dX10_waiting_15 : decode cX10_waiting 15 = .ok (.invokespecial 93, 3) := by decide +kernel
theorem dX10_waiting_18 : decode cX10_waiting 18 = .ok (.athrow, 1) := by decide +kernel
theorem dX10_waiting_19 : decode cX10_waiting 19 = .ok (.iload_n 2, 1) := by decide +kernel
theorem dX10_waiting_20 : decode cX10_waiting 20 = .ok (.tableswitch 92 0 3 #[32, 47, 62, 77], 32) := by decide +kernel
theorem dX10_waiting_52 : decode cX10_waiting 52 = .ok (.aload_n 0, 1) := by decide +kernel
theorem dX10_waiting_53 : decode cX10_waiting 53 = .ok (.getfield 50, 3) := by decide +kernel
theorem dX10_waiting_56 : decode cX10_waiting 56 = .ok (.getfield 148, 3) := by decide +kernel
theorem dX10_waiting_59 : decode cX10_waiting 59 = .ok (.getfield 203, 3) := by decide +kernel
theorem dX10_waiting_62 : decode cX10_waiting 62 = .ok (.iload_n 1, 1) := by decide +kernel
theorem dX10_waiting_63 : decode cX10_waiting 63 = .ok (.invokevirtual 165, 3) := by decide +kernel
theorem dX10_waiting_66 : decode cX10_waiting 66 = .ok (.ireturn, 1) := by decide +kernel
theorem dX10_waiting_67 : decode cX10_waiting 67 = .ok (.aload_n 0, 1) := by decide +kernel
theorem dX10_waiting_68 : decode cX10_waiting 68 = .ok (.getfield 50, 3) := by decide +kernel
theorem dX10_waiting_71 : decode cX10_waiting 71 = .ok (.getfield 148, 3) := by decide +kernel
theorem dX10_waiting_74 : decode cX10_waiting 74 = .ok (.getfield 186, 3) := by decide +kernel
theorem dX10_waiting_77 : decode cX10_waiting 77 = .ok (.iload_n 1, 1) := by decide +kernel
theorem dX10_waiting_78 : decode cX10_waiting 78 = .ok (.invokevirtual 165, 3) := by decide +kernel
theorem dX10_waiting_81 : decode cX10_waiting 81 = .ok (.ireturn, 1) := by decide +kernel
theorem dX10_waiting_82 : decode cX10_waiting 82 = .ok (.aload_n 0, 1) := by decide +kernel
theorem dX10_waiting_83 : decode cX10_waiting 83 = .ok (.getfield 50, 3) := by decide +kernel
theorem dX10_waiting_86 : decode cX10_waiting 86 = .ok (.getfield 148, 3) := by decide +kernel
theorem dX10_waiting_89 : decode cX10_waiting 89 = .ok (.getfield 213, 3) := by decide +kernel
theorem dX10_waiting_92 : decode cX10_waiting 92 = .ok (.iload_n 1, 1) := by decide +kernel
theorem dX10_waiting_93 : decode cX10_waiting 93 = .ok (.invokevirtual 165, 3) := by decide +kernel
theorem dX10_waiting_96 : decode cX10_waiting 96 = .ok (.ireturn, 1) := by decide +kernel
theorem dX10_waiting_97 : decode cX10_waiting 97 = .ok (.aload_n 0, 1) := by decide +kernel
theorem dX10_waiting_98 : decode cX10_waiting 98 = .ok (.getfield 50, 3) := by decide +kernel
theorem dX10_waiting_101 : decode cX10_waiting 101 = .ok (.getfield 148, 3) := by decide +kernel
theorem dX10_waiting_104 : decode cX10_waiting 104 = .ok (.getfield 216, 3) := by decide +kernel
theorem dX10_waiting_107 : decode cX10_waiting 107 = .ok (.iload_n 1, 1) := by decide +kernel
theorem dX10_waiting_108 : decode cX10_waiting 108 = .ok (.invokevirtual 165, 3) := by decide +kernel
theorem dX10_waiting_111 : decode cX10_waiting 111 = .ok (.ireturn, 1) := by decide +kernel
theorem dX10_waiting_112 : decode cX10_waiting 112 = .ok (.aload_n 0, 1) := by decide +kernel
theorem dX10_waiting_113 : decode cX10_waiting 113 = .ok (.getfield 50, 3) := by decide +kernel
theorem dX10_waiting_116 : decode cX10_waiting 116 = .ok (.getfield 148, 3) := by decide +kernel
theorem dX10_waiting_119 : decode cX10_waiting 119 = .ok (.iload_n 1, 1) := by decide +kernel
theorem dX10_waiting_120 : decode cX10_waiting 120 = .ok (.invokevirtual 219, 3) := by decide +kernel
theorem dX10_waiting_123 : decode cX10_waiting 123 = .ok (.ifCond .eq 14, 3) := by decide +kernel
theorem dX10_waiting_126 : decode cX10_waiting 126 = .ok (.aload_n 0, 1) := by decide +kernel
theorem dX10_waiting_127 : decode cX10_waiting 127 = .ok (.getfield 50, 3) := by decide +kernel
theorem dX10_waiting_130 : decode cX10_waiting 130 = .ok (.iload_n 1, 1) := by decide +kernel
theorem dX10_waiting_131 : decode cX10_waiting 131 = .ok (.invokevirtual 222, 3) := by decide +kernel
theorem dX10_waiting_134 : decode cX10_waiting 134 = .ok (.goto 4, 3) := by decide +kernel
theorem dX10_waiting_137 : decode cX10_waiting 137 = .ok (.iconst (-1), 1) := by decide +kernel
theorem dX10_waiting_138 : decode cX10_waiting 138 = .ok (.ireturn, 1) := by decide +kernel
theorem dX10_gap_0 : decode cX10_gap 0 = .ok (.aload_n 0, 1) := by decide +kernel
theorem dX10_gap_1 : decode cX10_gap 1 = .ok (.getfield 50, 3) := by decide +kernel
theorem dX10_gap_4 : decode cX10_gap 4 = .ok (.invokevirtual 225, 3) := by decide +kernel
theorem dX10_gap_7 : decode cX10_gap 7 = .ok (.aload_n 0, 1) := by decide +kernel
theorem dX10_gap_8 : decode cX10_gap 8 = .ok (.getfield 50, 3) := by decide +kernel
theorem dX10_gap_11 : decode cX10_gap 11 = .ok (.invokevirtual 228, 3) := by decide +kernel
theorem dX10_gap_14 : decode cX10_gap 14 = .ok (.iadd, 1) := by decide +kernel
theorem dX10_gap_15 : decode cX10_gap 15 = .ok (.aload_n 0, 1) := by decide +kernel
theorem dX10_gap_16 : decode cX10_gap 16 = .ok (.getfield 50, 3) := by decide +kernel
theorem dX10_gap_19 : decode cX10_gap 19 = .ok (.invokevirtual 231, 3) := by decide +kernel
theorem dX10_gap_22 : decode cX10_gap 22 = .ok (.iadd, 1) := by decide +kernel
theorem dX10_gap_23 : decode cX10_gap 23 = .ok (.ireturn, 1) := by decide +kernel
theorem dX10_found_0 : decode cX10_found 0 = .ok (.aload_n 0, 1) := by decide +kernel
theorem dX10_found_1 : decode cX10_found 1 = .ok (.getfield 50, 3) := by decide +kernel
theorem dX10_found_4 : decode cX10_found 4 = .ok (.getfield 129, 3) := by decide +kernel
theorem dX10_found_7 : decode cX10_found 7 = .ok (.iload_n 1, 1) := by decide +kernel
theorem dX10_found_8 : decode cX10_found 8 = .ok (.invokevirtual 234, 3) := by decide +kernel
theorem dX10_found_11 : decode cX10_found 11 = .ok (.ireturn, 1) := by decide +kernel
theorem dX10_looks_0 : decode cX10_looks 0 = .ok (.aload_n 0, 1) := by decide +kernel
theorem dX10_looks_1 : decode cX10_looks 1 = .ok (.getfield 50, 3) := by decide +kernel
theorem dX10_looks_4 : decode cX10_looks 4 = .ok (.getfield 129, 3) := by decide +kernel
theorem dX10_looks_7 : decode cX10_looks 7 = .ok (.iload_n 1, 1) := by decide +kernel
theorem dX10_looks_8 : decode cX10_looks 8 = .ok (.invokevirtual 234, 3) := by decide +kernel
theorem dX10_looks_11 : decode cX10_looks 11 = .ok (.pop, 1) := by decide +kernel
theorem dX10_looks_12 : decode cX10_looks 12 = .ok (.aload_n 0, 1) := by decide +kernel
theorem dX10_looks_13 : decode cX10_looks 13 = .ok (.getfield 50, 3) := by decide +kernel
theorem dX10_looks_16 : decode cX10_looks 16 = .ok (.getfield 129, 3) := by decide +kernel
theorem dX10_looks_19 : decode cX10_looks 19 = .ok (.getfield 237, 3) := by decide +kernel
theorem dX10_looks_22 : decode cX10_looks 22 = .ok (.invokevirtual 79, 3) := by decide +kernel
theorem dX10_looks_25 : decode cX10_looks 25 = .ok (.ireturn, 1) := by decide +kernel
theorem dX10_missed_0 : decode cX10_missed 0 = .ok (.aload_n 0, 1) := by decide +kernel
theorem dX10_missed_1 : decode cX10_missed 1 = .ok (.getfield 50, 3) := by decide +kernel
theorem dX10_missed_4 : decode cX10_missed 4 = .ok (.getfield 129, 3) := by decide +kernel
theorem dX10_missed_7 : decode cX10_missed 7 = .ok (.invokevirtual 240, 3) := by decide +kernel
theorem dX10_missed_10 : decode cX10_missed 10 = .ok (.ireturn, 1) := by decide +kernel
theorem dX10_refilePlace_0 : decode cX10_refilePlace 0 = .ok (.aload_n 0, 1) := by decide +kernel
theorem dX10_refilePlace_1 : decode cX10_refilePlace 1 = .ok (.getfield 50, 3) := by decide +kernel
theorem dX10_refilePlace_4 : decode cX10_refilePlace 4 = .ok (.getfield 129, 3) := by decide +kernel
theorem dX10_refilePlace_7 : decode cX10_refilePlace 7 = .ok (.iload_n 1, 1) := by decide +kernel
theorem dX10_refilePlace_8 : decode cX10_refilePlace 8 = .ok (.invokevirtual 234, 3) := by decide +kernel
theorem dX10_refilePlace_11 : decode cX10_refilePlace 11 = .ok (.istore_n 2, 1) := by decide +kernel
theorem dX10_refilePlace_12 : decode cX10_refilePlace 12 = .ok (.iload_n 2, 1) := by decide +kernel
theorem dX10_refilePlace_13 : decode cX10_refilePlace 13 = .ok (.iconst (-1), 1) := by decide +kernel
theorem dX10_refilePlace_14 : decode cX10_refilePlace 14 = .ok (.if_icmp .eq 7, 3) := by decide +kernel
theorem dX10_refilePlace_17 : decode cX10_refilePlace 17 = .ok (.iload_n 2, 1) := by decide +kernel
theorem dX10_refilePlace_18 : decode cX10_refilePlace 18 = .ok (.goto 14, 3) := by decide +kernel
theorem dX10_refilePlace_21 : decode cX10_refilePlace 21 = .ok (.aload_n 0, 1) := by decide +kernel
theorem dX10_refilePlace_22 : decode cX10_refilePlace 22 = .ok (.getfield 50, 3) := by decide +kernel
theorem dX10_refilePlace_25 : decode cX10_refilePlace 25 = .ok (.getfield 129, 3) := by decide +kernel
theorem dX10_refilePlace_28 : decode cX10_refilePlace 28 = .ok (.iload_n 1, 1) := by decide +kernel
theorem dX10_refilePlace_29 : decode cX10_refilePlace 29 = .ok (.invokevirtual 243, 3) := by decide +kernel
theorem dX10_refilePlace_32 : decode cX10_refilePlace 32 = .ok (.ireturn, 1) := by decide +kernel
theorem dX10_inversions_0 : decode cX10_inversions 0 = .ok (.aload_n 0, 1) := by decide +kernel
theorem dX10_inversions_1 : decode cX10_inversions 1 = .ok (.getfield 50, 3) := by decide +kernel
theorem dX10_inversions_4 : decode cX10_inversions 4 = .ok (.getfield 129, 3) := by decide +kernel
theorem dX10_inversions_7 : decode cX10_inversions 7 = .ok (.invokevirtual 246, 3) := by decide +kernel
theorem dX10_inversions_10 : decode cX10_inversions 10 = .ok (.ireturn, 1) := by decide +kernel
theorem dX10_longestOrdered_0 : decode cX10_longestOrdered 0 = .ok (.aload_n 0, 1) := by decide +kernel
theorem dX10_longestOrdered_1 : decode cX10_longestOrdered 1 = .ok (.getfield 50, 3) := by decide +kernel
theorem dX10_longestOrdered_4 : decode cX10_longestOrdered 4 = .ok (.getfield 129, 3) := by decide +kernel
theorem dX10_longestOrdered_7 : decode cX10_longestOrdered 7 = .ok (.invokevirtual 249, 3) := by decide +kernel
theorem dX10_longestOrdered_10 : decode cX10_longestOrdered 10 = .ok (.ireturn, 1) := by decide +kernel
theorem dX10_lookedAt_0 : decode cX10_lookedAt 0 = .ok (.aload_n 0, 1) := by decide +kernel
theorem dX10_lookedAt_1 : decode cX10_lookedAt 1 = .ok (.getfield 50, 3) := by decide +kernel
theorem dX10_lookedAt_4 : decode cX10_lookedAt 4 = .ok (.getfield 129, 3) := by decide +kernel
theorem dX10_lookedAt_7 : decode cX10_lookedAt 7 = .ok (.iload_n 1, 1) := by decide +kernel
theorem dX10_lookedAt_8 : decode cX10_lookedAt 8 = .ok (.invokevirtual 234, 3) := by decide +kernel
theorem dX10_lookedAt_11 : decode cX10_lookedAt 11 = .ok (.pop, 1) := by decide +kernel
theorem dX10_lookedAt_12 : decode cX10_lookedAt 12 = .ok (.aload_n 0, 1) := by decide +kernel
theorem dX10_lookedAt_13 : decode cX10_lookedAt 13 = .ok (.getfield 50, 3) := by decide +kernel
theorem dX10_lookedAt_16 : decode cX10_lookedAt 16 = .ok (.getfield 129, 3) := by decide +kernel
theorem dX10_lookedAt_19 : decode cX10_lookedAt 19 = .ok (.getfield 133, 3) := by decide +kernel
theorem dX10_lookedAt_22 : decode cX10_lookedAt 22 = .ok (.aload_n 0, 1) := by decide +kernel
theorem dX10_lookedAt_23 : decode cX10_lookedAt 23 = .ok (.getfield 50, 3) := by decide +kernel
theorem dX10_lookedAt_26 : decode cX10_lookedAt 26 = .ok (.getfield 129, 3) := by decide +kernel
theorem dX10_lookedAt_29 : decode cX10_lookedAt 29 = .ok (.getfield 237, 3) := by decide +kernel
theorem dX10_lookedAt_32 : decode cX10_lookedAt 32 = .ok (.iload_n 2, 1) := by decide +kernel
theorem dX10_lookedAt_33 : decode cX10_lookedAt 33 = .ok (.invokevirtual 165, 3) := by decide +kernel
theorem dX10_lookedAt_36 : decode cX10_lookedAt 36 = .ok (.invokevirtual 165, 3) := by decide +kernel
theorem dX10_lookedAt_39 : decode cX10_lookedAt 39 = .ok (.ireturn, 1) := by decide +kernel
theorem dX10_mostMisplaced_0 : decode cX10_mostMisplaced 0 = .ok (.aload_n 0, 1) := by decide +kernel
theorem dX10_mostMisplaced_1 : decode cX10_mostMisplaced 1 = .ok (.getfield 50, 3) := by decide +kernel
theorem dX10_mostMisplaced_4 : decode cX10_mostMisplaced 4 = .ok (.getfield 129, 3) := by decide +kernel
theorem dX10_mostMisplaced_7 : decode cX10_mostMisplaced 7 = .ok (.invokevirtual 252, 3) := by decide +kernel
theorem dX10_mostMisplaced_10 : decode cX10_mostMisplaced 10 = .ok (.ireturn, 1) := by decide +kernel
theorem dX10_mostAsked_0 : decode cX10_mostAsked 0 = .ok (.iconst 0, 1) := by decide +kernel
theorem dX10_mostAsked_1 : decode cX10_mostAsked 1 = .ok (.istore_n 1, 1) := by decide +kernel
theorem dX10_mostAsked_2 : decode cX10_mostAsked 2 = .ok (.iconst (-1), 1) := by decide +kernel
theorem dX10_mostAsked_3 : decode cX10_mostAsked 3 = .ok (.istore_n 2, 1) := by decide +kernel
theorem dX10_mostAsked_4 : decode cX10_mostAsked 4 = .ok (.iconst 0, 1) := by decide +kernel
theorem dX10_mostAsked_5 : decode cX10_mostAsked 5 = .ok (.istore_n 3, 1) := by decide +kernel
theorem dX10_mostAsked_6 : decode cX10_mostAsked 6 = .ok (.iload_n 3, 1) := by decide +kernel
theorem dX10_mostAsked_7 : decode cX10_mostAsked 7 = .ok (.aload_n 0, 1) := by decide +kernel
theorem dX10_mostAsked_8 : decode cX10_mostAsked 8 = .ok (.getfield 50, 3) := by decide +kernel
theorem dX10_mostAsked_11 : decode cX10_mostAsked 11 = .ok (.getfield 111, 3) := by decide +kernel
theorem dX10_mostAsked_14 : decode cX10_mostAsked 14 = .ok (.invokevirtual 79, 3) := by decide +kernel
theorem dX10_mostAsked_17 : decode cX10_mostAsked 17 = .ok (.if_icmp .ge 36, 3) := by decide +kernel
theorem dX10_mostAsked_20 : decode cX10_mostAsked 20 = .ok (.aload_n 0, 1) := by decide +kernel
theorem dX10_mostAsked_21 : decode cX10_mostAsked 21 = .ok (.getfield 50, 3) := by decide +kernel
theorem dX10_mostAsked_24 : decode cX10_mostAsked 24 = .ok (.getfield 148, 3) := by decide +kernel
theorem dX10_mostAsked_27 : decode cX10_mostAsked 27 = .ok (.getfield 186, 3) := by decide +kernel
theorem dX10_mostAsked_30 : decode cX10_mostAsked 30 = .ok (.iload_n 3, 1) := by decide +kernel
theorem dX10_mostAsked_31 : decode cX10_mostAsked 31 = .ok (.invokevirtual 141, 3) := by decide +kernel
theorem dX10_mostAsked_34 : decode cX10_mostAsked 34 = .ok (.istore 4, 2) := by decide +kernel
theorem dX10_mostAsked_36 : decode cX10_mostAsked 36 = .ok (.iload 4, 2) := by decide +kernel
theorem dX10_mostAsked_38 : decode cX10_mostAsked 38 = .ok (.iload_n 1, 1) := by decide +kernel
theorem dX10_mostAsked_39 : decode cX10_mostAsked 39 = .ok (.if_icmp .le 8, 3) := by decide +kernel
theorem dX10_mostAsked_42 : decode cX10_mostAsked 42 = .ok (.iload 4, 2) := by decide +kernel
theorem dX10_mostAsked_44 : decode cX10_mostAsked 44 = .ok (.istore_n 1, 1) := by decide +kernel
theorem dX10_mostAsked_45 : decode cX10_mostAsked 45 = .ok (.iload_n 3, 1) := by decide +kernel
theorem dX10_mostAsked_46 : decode cX10_mostAsked 46 = .ok (.istore_n 2, 1) := by decide +kernel
theorem dX10_mostAsked_47 : decode cX10_mostAsked 47 = .ok (.iinc 3 1, 3) := by decide +kernel
theorem dX10_mostAsked_50 : decode cX10_mostAsked 50 = .ok (.goto (-44), 3) := by decide +kernel
theorem dX10_mostAsked_53 : decode cX10_mostAsked 53 = .ok (.iload_n 2, 1) := by decide +kernel
theorem dX10_mostAsked_54 : decode cX10_mostAsked 54 = .ok (.ireturn, 1) := by decide +kernel
theorem dX10_why_0 : decode cX10_why 0 = .ok (.aload_n 0, 1) := by decide +kernel
theorem dX10_why_1 : decode cX10_why 1 = .ok (.getfield 50, 3) := by decide +kernel
theorem dX10_why_4 : decode cX10_why 4 = .ok (.iload_n 1, 1) := by decide +kernel
theorem dX10_why_5 : decode cX10_why 5 = .ok (.invokevirtual 198, 3) := by decide +kernel
theorem dX10_why_8 : decode cX10_why 8 = .ok (.ifCond .eq 14, 3) := by decide +kernel
theorem dX10_why_11 : decode cX10_why 11 = .ok (.aload_n 0, 1) := by decide +kernel
theorem dX10_why_12 : decode cX10_why 12 = .ok (.getfield 50, 3) := by decide +kernel
theorem dX10_why_15 : decode cX10_why 15 = .ok (.iload_n 2, 1) := by decide +kernel
theorem dX10_why_16 : decode cX10_why 16 = .ok (.invokevirtual 171, 3) := by decide +kernel
theorem dX10_why_19 : decode cX10_why 19 = .ok (.ifCond .ne 13, 3) := by decide +kernel
theorem dX10_why_22 : decode cX10_why 22 = .ok (.new 175, 3) := by decide +kernel
theorem dX10_why_25 : decode cX10_why 25 = .ok (.dup, 1) := by decide +kernel
theorem dX10_why_26 : decode cX10_why 26 = .ok (.ldc 255, 2) := by decide +kernel
theorem dX10_why_28 : decode cX10_why 28 = .ok (.invokespecial 179, 3) := by decide +kernel
theorem dX10_why_31 : decode cX10_why 31 = .ok (.athrow, 1) := by decide +kernel
theorem dX10_why_32 : decode cX10_why 32 = .ok (.aload_n 0, 1) := by decide +kernel
theorem dX10_why_33 : decode cX10_why 33 = .ok (.getfield 50, 3) := by decide +kernel
theorem dX10_why_36 : decode cX10_why 36 = .ok (.iload_n 1, 1) := by decide +kernel
theorem dX10_why_37 : decode cX10_why 37 = .ok (.iload_n 2, 1) := by decide +kernel
theorem dX10_why_38 : decode cX10_why 38 = .ok (.invokevirtual 257, 3) := by decide +kernel
theorem dX10_why_41 : decode cX10_why 41 = .ok (.ireturn, 1) := by decide +kernel
theorem dX10_cause_0 : decode cX10_cause 0 = .ok (.aload_n 0, 1) := by decide +kernel
theorem dX10_cause_1 : decode cX10_cause 1 = .ok (.getfield 50, 3) := by decide +kernel
theorem dX10_cause_4 : decode cX10_cause 4 = .ok (.iload_n 1, 1) := by decide +kernel
theorem dX10_cause_5 : decode cX10_cause 5 = .ok (.invokevirtual 198, 3) := by decide +kernel
theorem dX10_cause_8 : decode cX10_cause 8 = .ok (.ifCond .eq 14, 3) := by decide +kernel
theorem dX10_cause_11 : decode cX10_cause 11 = .ok (.aload_n 0, 1) := by decide +kernel
theorem dX10_cause_12 : decode cX10_cause 12 = .ok (.getfield 50, 3) := by decide +kernel
theorem dX10_cause_15 : decode cX10_cause 15 = .ok (.iload_n 2, 1) := by decide +kernel
theorem dX10_cause_16 : decode cX10_cause 16 = .ok (.invokevirtual 171, 3) := by decide +kernel
theorem dX10_cause_19 : decode cX10_cause 19 = .ok (.ifCond .ne 13, 3) := by decide +kernel
theorem dX10_cause_22 : decode cX10_cause 22 = .ok (.new 175, 3) := by decide +kernel
theorem dX10_cause_25 : decode cX10_cause 25 = .ok (.dup, 1) := by decide +kernel
theorem dX10_cause_26 : decode cX10_cause 26 = .ok (.ldc 255, 2) := by decide +kernel
theorem dX10_cause_28 : decode cX10_cause 28 = .ok (.invokespecial 179, 3) := by decide +kernel
theorem dX10_cause_31 : decode cX10_cause 31 = .ok (.athrow, 1) := by decide +kernel
theorem dX10_cause_32 : decode cX10_cause 32 = .ok (.aload_n 0, 1) := by decide +kernel
theorem dX10_cause_33 : decode cX10_cause 33 = .ok (.getfield 50, 3) := by decide +kernel
theorem dX10_cause_36 : decode cX10_cause 36 = .ok (.iload_n 1, 1) := by decide +kernel
theorem dX10_cause_37 : decode cX10_cause 37 = .ok (.iload_n 2, 1) := by decide +kernel
theorem dX10_cause_38 : decode cX10_cause 38 = .ok (.invokevirtual 257, 3) := by decide +kernel
theorem dX10_cause_41 : decode cX10_cause 41 = .ok (.bipush (-3), 2) := by decide +kernel
theorem dX10_cause_43 : decode cX10_cause 43 = .ok (.if_icmp .ne 18, 3) := by decide +kernel
theorem dX10_cause_46 : decode cX10_cause 46 = .ok (.aload_n 0, 1) := by decide +kernel
theorem dX10_cause_47 : decode cX10_cause 47 = .ok (.getfield 50, 3) := by decide +kernel
theorem dX10_cause_50 : decode cX10_cause 50 = .ok (.getfield 148, 3) := by decide +kernel
theorem dX10_cause_53 : decode cX10_cause 53 = .ok (.iload_n 1, 1) := by decide +kernel
theorem dX10_cause_54 : decode cX10_cause 54 = .ok (.iload_n 2, 1) := by decide +kernel
theorem dX10_cause_55 : decode cX10_cause 55 = .ok (.invokevirtual 261, 3) := by decide +kernel
theorem dX10_cause_58 : decode cX10_cause 58 = .ok (.goto 4, 3) := by decide +kernel
theorem dX10_cause_61 : decode cX10_cause 61 = .ok (.iconst (-1), 1) := by decide +kernel
theorem dX10_cause_62 : decode cX10_cause 62 = .ok (.ireturn, 1) := by decide +kernel
theorem dX10_waitsFor_0 : decode cX10_waitsFor 0 = .ok (.aload_n 0, 1) := by decide +kernel
theorem dX10_waitsFor_1 : decode cX10_waitsFor 1 = .ok (.getfield 50, 3) := by decide +kernel
theorem dX10_waitsFor_4 : decode cX10_waitsFor 4 = .ok (.getfield 148, 3) := by decide +kernel
theorem dX10_waitsFor_7 : decode cX10_waitsFor 7 = .ok (.iload_n 1, 1) := by decide +kernel
theorem dX10_waitsFor_8 : decode cX10_waitsFor 8 = .ok (.invokevirtual 219, 3) := by decide +kernel
theorem dX10_waitsFor_11 : decode cX10_waitsFor 11 = .ok (.ifCond .ne 5, 3) := by decide +kernel
theorem dX10_waitsFor_14 : decode cX10_waitsFor 14 = .ok (.iconst (-1), 1) := by decide +kernel
theorem dX10_waitsFor_15 : decode cX10_waitsFor 15 = .ok (.ireturn, 1) := by decide +kernel
theorem dX10_waitsFor_16 : decode cX10_waitsFor 16 = .ok (.aload_n 0, 1) := by decide +kernel
theorem dX10_waitsFor_17 : decode cX10_waitsFor 17 = .ok (.getfield 50, 3) := by decide +kernel
theorem dX10_waitsFor_20 : decode cX10_waitsFor 20 = .ok (.getfield 148, 3) := by decide +kernel
theorem dX10_waitsFor_23 : decode cX10_waitsFor 23 = .ok (.getfield 186, 3) := by decide +kernel
theorem dX10_waitsFor_26 : decode cX10_waitsFor 26 = .ok (.iload_n 1, 1) := by decide +kernel
theorem dX10_waitsFor_27 : decode cX10_waitsFor 27 = .ok (.invokevirtual 165, 3) := by decide +kernel
theorem dX10_waitsFor_30 : decode cX10_waitsFor 30 = .ok (.istore_n 2, 1) := by decide +kernel
theorem dX10_waitsFor_31 : decode cX10_waitsFor 31 = .ok (.aload_n 0, 1) := by decide +kernel
theorem dX10_waitsFor_32 : decode cX10_waitsFor 32 = .ok (.getfield 50, 3) := by decide +kernel
theorem dX10_waitsFor_35 : decode cX10_waitsFor 35 = .ok (.iload_n 1, 1) := by decide +kernel
theorem dX10_waitsFor_36 : decode cX10_waitsFor 36 = .ok (.invokevirtual 222, 3) := by decide +kernel
theorem dX10_waitsFor_39 : decode cX10_waitsFor 39 = .ok (.tableswitch 94 1 4 #[29, 41, 49, 69], 29) := by decide +kernel
theorem dX10_waitsFor_68 : decode cX10_waitsFor 68 = .ok (.aload_n 0, 1) := by decide +kernel
theorem dX10_waitsFor_69 : decode cX10_waitsFor 69 = .ok (.getfield 50, 3) := by decide +kernel
theorem dX10_waitsFor_72 : decode cX10_waitsFor 72 = .ok (.getfield 264, 3) := by decide +kernel
theorem dX10_waitsFor_75 : decode cX10_waitsFor 75 = .ok (.iload_n 2, 1) := by decide +kernel
theorem dX10_waitsFor_76 : decode cX10_waitsFor 76 = .ok (.invokevirtual 165, 3) := by decide +kernel
theorem dX10_waitsFor_79 : decode cX10_waitsFor 79 = .ok (.ireturn, 1) := by decide +kernel
theorem dX10_waitsFor_80 : decode cX10_waitsFor 80 = .ok (.aload_n 0, 1) := by decide +kernel
theorem dX10_waitsFor_81 : decode cX10_waitsFor 81 = .ok (.getfield 50, 3) := by decide +kernel
theorem dX10_waitsFor_84 : decode cX10_waitsFor 84 = .ok (.invokevirtual 158, 3) := by decide +kernel
theorem dX10_waitsFor_87 : decode cX10_waitsFor 87 = .ok (.ireturn, 1) := by decide +kernel
theorem dX10_waitsFor_88 : decode cX10_waitsFor 88 = .ok (.aload_n 0, 1) := by decide +kernel
theorem dX10_waitsFor_89 : decode cX10_waitsFor 89 = .ok (.getfield 50, 3) := by decide +kernel
theorem dX10_waitsFor_92 : decode cX10_waitsFor 92 = .ok (.getfield 180, 3) := by decide +kernel
theorem dX10_waitsFor_95 : decode cX10_waitsFor 95 = .ok (.iload_n 2, 1) := by decide +kernel
theorem dX10_waitsFor_96 : decode cX10_waitsFor 96 = .ok (.invokevirtual 165, 3) := by decide +kernel
theorem dX10_waitsFor_99 : decode cX10_waitsFor 99 = .ok (.aload_n 0, 1) := by decide +kernel
theorem dX10_waitsFor_100 : decode cX10_waitsFor 100 = .ok (.getfield 50, 3) := by decide +kernel
theorem dX10_waitsFor_103 : decode cX10_waitsFor 103 = .ok (.getfield 114, 3) := by decide +kernel
theorem dX10_waitsFor_106 : decode cX10_waitsFor 106 = .ok (.isub, 1) := by decide +kernel
theorem dX10_waitsFor_107 : decode cX10_waitsFor 107 = .ok (.ireturn, 1) := by decide +kernel
theorem dX10_waitsFor_108 : decode cX10_waitsFor 108 = .ok (.aload_n 0, 1) := by decide +kernel
theorem dX10_waitsFor_109 : decode cX10_waitsFor 109 = .ok (.getfield 50, 3) := by decide +kernel
theorem dX10_waitsFor_112 : decode cX10_waitsFor 112 = .ok (.getfield 123, 3) := by decide +kernel
theorem dX10_waitsFor_115 : decode cX10_waitsFor 115 = .ok (.aload_n 0, 1) := by decide +kernel
theorem dX10_waitsFor_116 : decode cX10_waitsFor 116 = .ok (.getfield 50, 3) := by decide +kernel
theorem dX10_waitsFor_119 : decode cX10_waitsFor 119 = .ok (.getfield 148, 3) := by decide +kernel
theorem dX10_waitsFor_122 : decode cX10_waitsFor 122 = .ok (.getfield 203, 3) := by decide +kernel
theorem dX10_waitsFor_125 : decode cX10_waitsFor 125 = .ok (.iload_n 1, 1) := by decide +kernel
theorem dX10_waitsFor_126 : decode cX10_waitsFor 126 = .ok (.invokevirtual 165, 3) := by decide +kernel
theorem dX10_waitsFor_129 : decode cX10_waitsFor 129 = .ok (.invokevirtual 165, 3) := by decide +kernel
theorem dX10_waitsFor_132 : decode cX10_waitsFor 132 = .ok (.ireturn, 1) := by decide +kernel
theorem dX10_waitsFor_133 : decode cX10_waitsFor 133 = .ok (.iconst (-1), 1) := by decide +kernel
theorem dX10_waitsFor_134 : decode cX10_waitsFor 134 = .ok (.ireturn, 1) := by decide +kernel
theorem dX10_servedIn_0 : decode cX10_servedIn 0 = .ok (.aload_n 0, 1) := by decide +kernel
theorem dX10_servedIn_1 : decode cX10_servedIn 1 = .ok (.getfield 50, 3) := by decide +kernel
theorem dX10_servedIn_4 : decode cX10_servedIn 4 = .ok (.getfield 148, 3) := by decide +kernel
theorem dX10_servedIn_7 : decode cX10_servedIn 7 = .ok (.iload_n 1, 1) := by decide +kernel
theorem dX10_servedIn_8 : decode cX10_servedIn 8 = .ok (.invokevirtual 219, 3) := by decide +kernel
theorem dX10_servedIn_11 : decode cX10_servedIn 11 = .ok (.ifCond .ne 5, 3) := by decide +kernel
theorem dX10_servedIn_14 : decode cX10_servedIn 14 = .ok (.iconst (-1), 1) := by decide +kernel
theorem dX10_servedIn_15 : decode cX10_servedIn 15 = .ok (.ireturn, 1) := by decide +kernel
theorem dX10_servedIn_16 : decode cX10_servedIn 16 = .ok (.aload_n 0, 1) := by decide +kernel
theorem dX10_servedIn_17 : decode cX10_servedIn 17 = .ok (.getfield 50, 3) := by decide +kernel
theorem dX10_servedIn_20 : decode cX10_servedIn 20 = .ok (.getfield 148, 3) := by decide +kernel
theorem dX10_servedIn_23 : decode cX10_servedIn 23 = .ok (.getfield 203, 3) := by decide +kernel
theorem dX10_servedIn_26 : decode cX10_servedIn 26 = .ok (.iload_n 1, 1) := by decide +kernel
theorem dX10_servedIn_27 : decode cX10_servedIn 27 = .ok (.invokevirtual 165, 3) := by decide +kernel
theorem dX10_servedIn_30 : decode cX10_servedIn 30 = .ok (.istore_n 2, 1) := by decide +kernel
theorem dX10_servedIn_31 : decode cX10_servedIn 31 = .ok (.aload_n 0, 1) := by decide +kernel
theorem dX10_servedIn_32 : decode cX10_servedIn 32 = .ok (.getfield 50, 3) := by decide +kernel
theorem dX10_servedIn_35 : decode cX10_servedIn 35 = .ok (.getfield 148, 3) := by decide +kernel
theorem dX10_servedIn_38 : decode cX10_servedIn 38 = .ok (.getfield 186, 3) := by decide +kernel
theorem dX10_servedIn_41 : decode cX10_servedIn 41 = .ok (.iload_n 1, 1) := by decide +kernel
theorem dX10_servedIn_42 : decode cX10_servedIn 42 = .ok (.invokevirtual 165, 3) := by decide +kernel
theorem dX10_servedIn_45 : decode cX10_servedIn 45 = .ok (.istore_n 3, 1) := by decide +kernel
theorem dX10_servedIn_46 : decode cX10_servedIn 46 = .ok (.aload_n 0, 1) := by decide +kernel
theorem dX10_servedIn_47 : decode cX10_servedIn 47 = .ok (.getfield 54, 3) := by decide +kernel
theorem dX10_servedIn_50 : decode cX10_servedIn 50 = .ok (.aload_n 0, 1) := by decide +kernel
theorem dX10_servedIn_51 : decode cX10_servedIn 51 = .ok (.getfield 50, 3) := by decide +kernel
theorem dX10_servedIn_54 : decode cX10_servedIn 54 = .ok (.invokevirtual 106, 3) := by decide +kernel
theorem dX10_servedIn_57 : decode cX10_servedIn 57 = .ok (.iconst 1, 1) := by decide +kernel
theorem dX10_servedIn_58 : decode cX10_servedIn 58 = .ok (.istore 4, 2) := by decide +kernel
theorem dX10_servedIn_60 : decode cX10_servedIn 60 = .ok (.iload 4, 2) := by decide +kernel
theorem dX10_servedIn_62 : decode cX10_servedIn 62 = .ok (.bipush 60, 2) := by decide +kernel
theorem dX10_servedIn_64 : decode cX10_servedIn 64 = .ok (.if_icmp .gt 36, 3) := by decide +kernel
theorem dX10_servedIn_67 : decode cX10_servedIn 67 = .ok (.aload_n 0, 1) := by decide +kernel
theorem dX10_servedIn_68 : decode cX10_servedIn 68 = .ok (.getfield 54, 3) := by decide +kernel
theorem dX10_servedIn_71 : decode cX10_servedIn 71 = .ok (.invokevirtual 267, 3) := by decide +kernel
theorem dX10_servedIn_74 : decode cX10_servedIn 74 = .ok (.pop, 1) := by decide +kernel
theorem dX10_servedIn_75 : decode cX10_servedIn 75 = .ok (.aload_n 0, 1) := by decide +kernel
theorem dX10_servedIn_76 : decode cX10_servedIn 76 = .ok (.getfield 54, 3) := by decide +kernel
theorem dX10_servedIn_79 : decode cX10_servedIn 79 = .ok (.getfield 148, 3) := by decide +kernel
theorem dX10_servedIn_82 : decode cX10_servedIn 82 = .ok (.iload_n 2, 1) := by decide +kernel
theorem dX10_servedIn_83 : decode cX10_servedIn 83 = .ok (.iload_n 3, 1) := by decide +kernel
theorem dX10_servedIn_84 : decode cX10_servedIn 84 = .ok (.invokevirtual 261, 3) := by decide +kernel
theorem dX10_servedIn_87 : decode cX10_servedIn 87 = .ok (.iconst (-1), 1) := by decide +kernel
theorem dX10_servedIn_88 : decode cX10_servedIn 88 = .ok (.if_icmp .ne 6, 3) := by decide +kernel
theorem dX10_servedIn_91 : decode cX10_servedIn 91 = .ok (.iload 4, 2) := by decide +kernel
theorem dX10_servedIn_93 : decode cX10_servedIn 93 = .ok (.ireturn, 1) := by decide +kernel
theorem dX10_servedIn_94 : decode cX10_servedIn 94 = .ok (.iinc 4 1, 3) := by decide +kernel
theorem dX10_servedIn_97 : decode cX10_servedIn 97 = .ok (.goto (-37), 3) := by decide +kernel
theorem dX10_servedIn_100 : decode cX10_servedIn 100 = .ok (.iconst (-1), 1) := by decide +kernel
theorem dX10_servedIn_101 : decode cX10_servedIn 101 = .ok (.ireturn, 1) := by decide +kernel
theorem dX10_servedBy_0 : decode cX10_servedBy 0 = .ok (.iload_n 1, 1) := by decide +kernel
theorem dX10_servedBy_1 : decode cX10_servedBy 1 = .ok (.ifCond .lt 9, 3) := by decide +kernel
theorem dX10_servedBy_4 : decode cX10_servedBy 4 = .ok (.iload_n 1, 1) := by decide +kernel
theorem dX10_servedBy_5 : decode cX10_servedBy 5 = .ok (.bipush 60, 2) := by decide +kernel
theorem dX10_servedBy_7 : decode cX10_servedBy 7 = .ok (.if_icmp .le 14, 3) := by decide +kernel
theorem dX10_servedBy_10 : decode cX10_servedBy 10 = .ok (.new 89, 3) := by decide +kernel
theorem dX10_servedBy_13 : decode cX10_servedBy 13 = .ok (.dup, 1) := by decide +kernel
theorem dX10_servedBy_14 : decode cX10_servedBy 14 = .ok (.ldc_w 270, 3) := by decide +kernel
theorem dX10_servedBy_17 : decode cX10_servedBy 17 = .ok (.invokespecial 93, 3) := by decide +kernel
theorem dX10_servedBy_20 : decode cX10_servedBy 20 = .ok (.athrow, 1) := by decide +kernel
theorem dX10_servedBy_21 : decode cX10_servedBy 21 = .ok (.aload_n 0, 1) := by decide +kernel
theorem dX10_servedBy_22 : decode cX10_servedBy 22 = .ok (.getfield 54, 3) := by decide +kernel
theorem dX10_servedBy_25 : decode cX10_servedBy 25 = .ok (.aload_n 0, 1) := by decide +kernel
theorem dX10_servedBy_26 : decode cX10_servedBy 26 = .ok (.getfield 50, 3) := by decide +kernel
theorem dX10_servedBy_29 : decode cX10_servedBy 29 = .ok (.invokevirtual 106, 3) := by decide +kernel
theorem dX10_servedBy_32 : decode cX10_servedBy 32 = .ok (.aload_n 0, 1) := by decide +kernel
theorem dX10_servedBy_33 : decode cX10_servedBy 33 = .ok (.getfield 54, 3) := by decide +kernel
theorem dX10_servedBy_36 : decode cX10_servedBy 36 = .ok (.iload_n 1, 1) := by decide +kernel
theorem dX10_servedBy_37 : decode cX10_servedBy 37 = .ok (.sipush 1059, 3) := by decide +kernel
theorem dX10_servedBy_40 : decode cX10_servedBy 40 = .ok (.invokevirtual 272, 3) := by decide +kernel
theorem dX10_servedBy_43 : decode cX10_servedBy 43 = .ok (.ireturn, 1) := by decide +kernel
theorem dX10_waitingIn_0 : decode cX10_waitingIn 0 = .ok (.iload_n 1, 1) := by decide +kernel
theorem dX10_waitingIn_1 : decode cX10_waitingIn 1 = .ok (.ifCond .lt 9, 3) := by decide +kernel
theorem dX10_waitingIn_4 : decode cX10_waitingIn 4 = .ok (.iload_n 1, 1) := by decide +kernel
theorem dX10_waitingIn_5 : decode cX10_waitingIn 5 = .ok (.bipush 60, 2) := by decide +kernel
theorem dX10_waitingIn_7 : decode cX10_waitingIn 7 = .ok (.if_icmp .le 14, 3) := by decide +kernel
theorem dX10_waitingIn_10 : decode cX10_waitingIn 10 = .ok (.new 89, 3) := by decide +kernel
theorem dX10_waitingIn_13 : decode cX10_waitingIn 13 = .ok (.dup, 1) := by decide +kernel
theorem dX10_waitingIn_14 : decode cX10_waitingIn 14 = .ok (.ldc_w 270, 3) := by decide +kernel
theorem dX10_waitingIn_17 : decode cX10_waitingIn 17 = .ok (.invokespecial 93, 3) := by decide +kernel
theorem dX10_waitingIn_20 : decode cX10_waitingIn 20 = .ok (.athrow, 1) := by decide +kernel
theorem dX10_waitingIn_21 : decode cX10_waitingIn 21 = .ok (.aload_n 0, 1) := by decide +kernel
theorem dX10_waitingIn_22 : decode cX10_waitingIn 22 = .ok (.getfield 54, 3) := by decide +kernel
theorem dX10_waitingIn_25 : decode cX10_waitingIn 25 = .ok (.aload_n 0, 1) := by decide +kernel
theorem dX10_waitingIn_26 : decode cX10_waitingIn 26 = .ok (.getfield 50, 3) := by decide +kernel
theorem dX10_waitingIn_29 : decode cX10_waitingIn 29 = .ok (.invokevirtual 106, 3) := by decide +kernel
theorem dX10_waitingIn_32 : decode cX10_waitingIn 32 = .ok (.aload_n 0, 1) := by decide +kernel
theorem dX10_waitingIn_33 : decode cX10_waitingIn 33 = .ok (.getfield 54, 3) := by decide +kernel
theorem dX10_waitingIn_36 : decode cX10_waitingIn 36 = .ok (.iload_n 1, 1) := by decide +kernel
theorem dX10_waitingIn_37 : decode cX10_waitingIn 37 = .ok (.sipush 1059, 3) := by decide +kernel
theorem dX10_waitingIn_40 : decode cX10_waitingIn 40 = .ok (.invokevirtual 272, 3) := by decide +kernel
theorem dX10_waitingIn_43 : decode cX10_waitingIn 43 = .ok (.pop, 1) := by decide +kernel
theorem dX10_waitingIn_44 : decode cX10_waitingIn 44 = .ok (.aload_n 0, 1) := by decide +kernel
theorem dX10_waitingIn_45 : decode cX10_waitingIn 45 = .ok (.getfield 54, 3) := by decide +kernel
theorem dX10_waitingIn_48 : decode cX10_waitingIn 48 = .ok (.getfield 148, 3) := by decide +kernel
theorem dX10_waitingIn_51 : decode cX10_waitingIn 51 = .ok (.invokevirtual 152, 3) := by decide +kernel
theorem dX10_waitingIn_54 : decode cX10_waitingIn 54 = .ok (.ireturn, 1) := by decide +kernel
theorem dX10_swapsLeft_0 : decode cX10_swapsLeft 0 = .ok (.aload_n 0, 1) := by decide +kernel
theorem dX10_swapsLeft_1 : decode cX10_swapsLeft 1 = .ok (.getfield 50, 3) := by decide +kernel
theorem dX10_swapsLeft_4 : decode cX10_swapsLeft 4 = .ok (.getfield 129, 3) := by decide +kernel
theorem dX10_swapsLeft_7 : decode cX10_swapsLeft 7 = .ok (.invokevirtual 246, 3) := by decide +kernel
theorem dX10_swapsLeft_10 : decode cX10_swapsLeft 10 = .ok (.ireturn, 1) := by decide +kernel
theorem dX10_missedAfter_0 : decode cX10_missedAfter 0 = .ok (.iload_n 1, 1) := by decide +kernel
theorem dX10_missedAfter_1 : decode cX10_missedAfter 1 = .ok (.ifCond .lt 9, 3) := by decide +kernel
theorem dX10_missedAfter_4 : decode cX10_missedAfter 4 = .ok (.iload_n 1, 1) := by decide +kernel
theorem dX10_missedAfter_5 : decode cX10_missedAfter 5 = .ok (.bipush 99, 2) := by decide +kernel
theorem dX10_missedAfter_7 : decode cX10_missedAfter 7 = .ok (.if_icmp .le 14, 3) := by decide +kernel
theorem dX10_missedAfter_10 : decode cX10_missedAfter 10 = .ok (.new 89, 3) := by decide +kernel
theorem dX10_missedAfter_13 : decode cX10_missedAfter 13 = .ok (.dup, 1) := by decide +kernel
theorem dX10_missedAfter_14 : decode cX10_missedAfter 14 = .ok (.ldc_w 277, 3) := by decide +kernel
theorem dX10_missedAfter_17 : decode cX10_missedAfter 17 = .ok (.invokespecial 93, 3) := by decide +kernel
theorem dX10_missedAfter_20 : decode cX10_missedAfter 20 = .ok (.athrow, 1) := by decide +kernel
theorem dX10_missedAfter_21 : decode cX10_missedAfter 21 = .ok (.aload_n 0, 1) := by decide +kernel
theorem dX10_missedAfter_22 : decode cX10_missedAfter 22 = .ok (.getfield 54, 3) := by decide +kernel
theorem dX10_missedAfter_25 : decode cX10_missedAfter 25 = .ok (.aload_n 0, 1) := by decide +kernel
theorem dX10_missedAfter_26 : decode cX10_missedAfter 26 = .ok (.getfield 50, 3) := by decide +kernel
theorem dX10_missedAfter_29 : decode cX10_missedAfter 29 = .ok (.invokevirtual 106, 3) := by decide +kernel
theorem dX10_missedAfter_32 : decode cX10_missedAfter 32 = .ok (.aload_n 0, 1) := by decide +kernel
theorem dX10_missedAfter_33 : decode cX10_missedAfter 33 = .ok (.getfield 54, 3) := by decide +kernel
theorem dX10_missedAfter_36 : decode cX10_missedAfter 36 = .ok (.getfield 129, 3) := by decide +kernel
theorem dX10_missedAfter_39 : decode cX10_missedAfter 39 = .ok (.iload_n 1, 1) := by decide +kernel
theorem dX10_missedAfter_40 : decode cX10_missedAfter 40 = .ok (.invokevirtual 279, 3) := by decide +kernel
theorem dX10_missedAfter_43 : decode cX10_missedAfter 43 = .ok (.pop, 1) := by decide +kernel
theorem dX10_missedAfter_44 : decode cX10_missedAfter 44 = .ok (.aload_n 0, 1) := by decide +kernel
theorem dX10_missedAfter_45 : decode cX10_missedAfter 45 = .ok (.getfield 54, 3) := by decide +kernel
theorem dX10_missedAfter_48 : decode cX10_missedAfter 48 = .ok (.getfield 129, 3) := by decide +kernel
theorem dX10_missedAfter_51 : decode cX10_missedAfter 51 = .ok (.invokevirtual 240, 3) := by decide +kernel
theorem dX10_missedAfter_54 : decode cX10_missedAfter 54 = .ok (.ireturn, 1) := by decide +kernel
theorem dX10_slip_0 : decode cX10_slip 0 = .ok (.aload_n 0, 1) := by decide +kernel
theorem dX10_slip_1 : decode cX10_slip 1 = .ok (.getfield 50, 3) := by decide +kernel
theorem dX10_slip_4 : decode cX10_slip 4 = .ok (.iload_n 1, 1) := by decide +kernel
theorem dX10_slip_5 : decode cX10_slip 5 = .ok (.invokevirtual 198, 3) := by decide +kernel
theorem dX10_slip_8 : decode cX10_slip 8 = .ok (.ifCond .eq 14, 3) := by decide +kernel
theorem dX10_slip_11 : decode cX10_slip 11 = .ok (.aload_n 0, 1) := by decide +kernel
theorem dX10_slip_12 : decode cX10_slip 12 = .ok (.getfield 50, 3) := by decide +kernel
theorem dX10_slip_15 : decode cX10_slip 15 = .ok (.iload_n 2, 1) := by decide +kernel
theorem dX10_slip_16 : decode cX10_slip 16 = .ok (.invokevirtual 171, 3) := by decide +kernel
theorem dX10_slip_19 : decode cX10_slip 19 = .ok (.ifCond .ne 13, 3) := by decide +kernel
theorem dX10_slip_22 : decode cX10_slip 22 = .ok (.new 175, 3) := by decide +kernel
theorem dX10_slip_25 : decode cX10_slip 25 = .ok (.dup, 1) := by decide +kernel
theorem dX10_slip_26 : decode cX10_slip 26 = .ok (.ldc 255, 2) := by decide +kernel
theorem dX10_slip_28 : decode cX10_slip 28 = .ok (.invokespecial 179, 3) := by decide +kernel
theorem dX10_slip_31 : decode cX10_slip 31 = .ok (.athrow, 1) := by decide +kernel
theorem dX10_slip_32 : decode cX10_slip 32 = .ok (.aload_n 0, 1) := by decide +kernel
theorem dX10_slip_33 : decode cX10_slip 33 = .ok (.getfield 43, 3) := by decide +kernel
theorem dX10_slip_36 : decode cX10_slip 36 = .ok (.aload_n 0, 1) := by decide +kernel
theorem dX10_slip_37 : decode cX10_slip 37 = .ok (.getfield 50, 3) := by decide +kernel
theorem dX10_slip_40 : decode cX10_slip 40 = .ok (.invokevirtual 282, 3) := by decide +kernel
theorem dX10_slip_43 : decode cX10_slip 43 = .ok (.aload_n 0, 1) := by decide +kernel
theorem dX10_slip_44 : decode cX10_slip 44 = .ok (.aload_n 0, 1) := by decide +kernel
theorem dX10_slip_45 : decode cX10_slip 45 = .ok (.getfield 50, 3) := by decide +kernel
theorem dX10_slip_48 : decode cX10_slip 48 = .ok (.iload_n 1, 1) := by decide +kernel
theorem dX10_slip_49 : decode cX10_slip 49 = .ok (.iload_n 2, 1) := by decide +kernel
theorem dX10_slip_50 : decode cX10_slip 50 = .ok (.invokevirtual 285, 3) := by decide +kernel
theorem dX10_slip_53 : decode cX10_slip 53 = .ok (.invokevirtual 288, 3) := by decide +kernel
theorem dX10_slip_56 : decode cX10_slip 56 = .ok (.ireturn, 1) := by decide +kernel
theorem dX10_dropSlip_0 : decode cX10_dropSlip 0 = .ok (.aload_n 0, 1) := by decide +kernel
theorem dX10_dropSlip_1 : decode cX10_dropSlip 1 = .ok (.getfield 43, 3) := by decide +kernel
theorem dX10_dropSlip_4 : decode cX10_dropSlip 4 = .ok (.aload_n 0, 1) := by decide +kernel
theorem dX10_dropSlip_5 : decode cX10_dropSlip 5 = .ok (.getfield 50, 3) := by decide +kernel
theorem dX10_dropSlip_8 : decode cX10_dropSlip 8 = .ok (.invokevirtual 282, 3) := by decide +kernel
theorem dX10_dropSlip_11 : decode cX10_dropSlip 11 = .ok (.aload_n 0, 1) := by decide +kernel
theorem dX10_dropSlip_12 : decode cX10_dropSlip 12 = .ok (.aload_n 0, 1) := by decide +kernel
theorem dX10_dropSlip_13 : decode cX10_dropSlip 13 = .ok (.getfield 50, 3) := by decide +kernel
theorem dX10_dropSlip_16 : decode cX10_dropSlip 16 = .ok (.iload_n 1, 1) := by decide +kernel
theorem dX10_dropSlip_17 : decode cX10_dropSlip 17 = .ok (.invokevirtual 291, 3) := by decide +kernel
theorem dX10_dropSlip_20 : decode cX10_dropSlip 20 = .ok (.invokevirtual 288, 3) := by decide +kernel
theorem dX10_dropSlip_23 : decode cX10_dropSlip 23 = .ok (.ireturn, 1) := by decide +kernel
theorem dX10_giveBack_0 : decode cX10_giveBack 0 = .ok (.aload_n 0, 1) := by decide +kernel
theorem dX10_giveBack_1 : decode cX10_giveBack 1 = .ok (.getfield 50, 3) := by decide +kernel
theorem dX10_giveBack_4 : decode cX10_giveBack 4 = .ok (.iload_n 1, 1) := by decide +kernel
theorem dX10_giveBack_5 : decode cX10_giveBack 5 = .ok (.invokevirtual 171, 3) := by decide +kernel
theorem dX10_giveBack_8 : decode cX10_giveBack 8 = .ok (.ifCond .ne 13, 3) := by decide +kernel
theorem dX10_giveBack_11 : decode cX10_giveBack 11 = .ok (.new 175, 3) := by decide +kernel
theorem dX10_giveBack_14 : decode cX10_giveBack 14 = .ok (.dup, 1) := by decide +kernel
theorem dX10_giveBack_15 : decode cX10_giveBack 15 = .ok (.ldc 177, 2) := by decide +kernel
theorem dX10_giveBack_17 : decode cX10_giveBack 17 = .ok (.invokespecial 179, 3) := by decide +kernel
theorem dX10_giveBack_20 : decode cX10_giveBack 20 = .ok (.athrow, 1) := by decide +kernel
theorem dX10_giveBack_21 : decode cX10_giveBack 21 = .ok (.aload_n 0, 1) := by decide +kernel
theorem dX10_giveBack_22 : decode cX10_giveBack 22 = .ok (.getfield 43, 3) := by decide +kernel
theorem dX10_giveBack_25 : decode cX10_giveBack 25 = .ok (.aload_n 0, 1) := by decide +kernel
theorem dX10_giveBack_26 : decode cX10_giveBack 26 = .ok (.getfield 50, 3) := by decide +kernel
theorem dX10_giveBack_29 : decode cX10_giveBack 29 = .ok (.invokevirtual 282, 3) := by decide +kernel
theorem dX10_giveBack_32 : decode cX10_giveBack 32 = .ok (.aload_n 0, 1) := by decide +kernel
theorem dX10_giveBack_33 : decode cX10_giveBack 33 = .ok (.aload_n 0, 1) := by decide +kernel
theorem dX10_giveBack_34 : decode cX10_giveBack 34 = .ok (.getfield 50, 3) := by decide +kernel
theorem dX10_giveBack_37 : decode cX10_giveBack 37 = .ok (.iload_n 1, 1) := by decide +kernel
theorem dX10_giveBack_38 : decode cX10_giveBack 38 = .ok (.invokevirtual 294, 3) := by decide +kernel
theorem dX10_giveBack_41 : decode cX10_giveBack 41 = .ok (.invokevirtual 288, 3) := by decide +kernel
theorem dX10_giveBack_44 : decode cX10_giveBack 44 = .ok (.ireturn, 1) := by decide +kernel
theorem dX10_days_0 : decode cX10_days 0 = .ok (.iload_n 1, 1) := by decide +kernel
theorem dX10_days_1 : decode cX10_days 1 = .ok (.iconst 1, 1) := by decide +kernel
theorem dX10_days_2 : decode cX10_days 2 = .ok (.if_icmp .lt 9, 3) := by decide +kernel
theorem dX10_days_5 : decode cX10_days 5 = .ok (.iload_n 1, 1) := by decide +kernel
theorem dX10_days_6 : decode cX10_days 6 = .ok (.bipush 60, 2) := by decide +kernel
theorem dX10_days_8 : decode cX10_days 8 = .ok (.if_icmp .le 14, 3) := by decide +kernel
theorem dX10_days_11 : decode cX10_days 11 = .ok (.new 89, 3) := by decide +kernel
theorem dX10_days_14 : decode cX10_days 14 = .ok (.dup, 1) := by decide +kernel
theorem dX10_days_15 : decode cX10_days 15 = .ok (.ldc_w 297, 3) := by decide +kernel
theorem dX10_days_18 : decode cX10_days 18 = .ok (.invokespecial 93, 3) := by decide +kernel
theorem dX10_days_21 : decode cX10_days 21 = .ok (.athrow, 1) := by decide +kernel
theorem dX10_days_22 : decode cX10_days 22 = .ok (.aload_n 0, 1) := by decide +kernel
theorem dX10_days_23 : decode cX10_days 23 = .ok (.getfield 43, 3) := by decide +kernel
theorem dX10_days_26 : decode cX10_days 26 = .ok (.aload_n 0, 1) := by decide +kernel
theorem dX10_days_27 : decode cX10_days 27 = .ok (.getfield 50, 3) := by decide +kernel
theorem dX10_days_30 : decode cX10_days 30 = .ok (.invokevirtual 282, 3) := by decide +kernel
theorem dX10_days_33 : decode cX10_days 33 = .ok (.aload_n 0, 1) := by decide +kernel
theorem dX10_days_34 : decode cX10_days 34 = .ok (.aload_n 0, 1) := by decide +kernel
theorem dX10_days_35 : decode cX10_days 35 = .ok (.getfield 50, 3) := by decide +kernel
theorem dX10_days_38 : decode cX10_days 38 = .ok (.iload_n 1, 1) := by decide +kernel
theorem dX10_days_39 : decode cX10_days 39 = .ok (.sipush 999, 3) := by decide +kernel
theorem dX10_days_42 : decode cX10_days 42 = .ok (.invokevirtual 272, 3) := by decide +kernel
theorem dX10_days_45 : decode cX10_days 45 = .ok (.invokevirtual 288, 3) := by decide +kernel
theorem dX10_days_48 : decode cX10_days 48 = .ok (.ireturn, 1) := by decide +kernel
theorem dX10_misfile_0 : decode cX10_misfile 0 = .ok (.aload_n 0, 1) := by decide +kernel
theorem dX10_misfile_1 : decode cX10_misfile 1 = .ok (.getfield 50, 3) := by decide +kernel
theorem dX10_misfile_4 : decode cX10_misfile 4 = .ok (.iload_n 1, 1) := by decide +kernel
theorem dX10_misfile_5 : decode cX10_misfile 5 = .ok (.invokevirtual 171, 3) := by decide +kernel
theorem dX10_misfile_8 : decode cX10_misfile 8 = .ok (.ifCond .ne 13, 3) := by decide +kernel
theorem dX10_misfile_11 : decode cX10_misfile 11 = .ok (.new 175, 3) := by decide +kernel
theorem dX10_misfile_14 : decode cX10_misfile 14 = .ok (.dup, 1) := by decide +kernel
theorem dX10_misfile_15 : decode cX10_misfile 15 = .ok (.ldc 177, 2) := by decide +kernel
theorem dX10_misfile_17 : decode cX10_misfile 17 = .ok (.invokespecial 179, 3) := by decide +kernel
theorem dX10_misfile_20 : decode cX10_misfile 20 = .ok (.athrow, 1) := by decide +kernel
theorem dX10_misfile_21 : decode cX10_misfile 21 = .ok (.aload_n 0, 1) := by decide +kernel
theorem dX10_misfile_22 : decode cX10_misfile 22 = .ok (.getfield 43, 3) := by decide +kernel
theorem dX10_misfile_25 : decode cX10_misfile 25 = .ok (.aload_n 0, 1) := by decide +kernel
theorem dX10_misfile_26 : decode cX10_misfile 26 = .ok (.getfield 50, 3) := by decide +kernel
theorem dX10_misfile_29 : decode cX10_misfile 29 = .ok (.invokevirtual 282, 3) := by decide +kernel
theorem dX10_misfile_32 : decode cX10_misfile 32 = .ok (.aload_n 0, 1) := by decide +kernel
theorem dX10_misfile_33 : decode cX10_misfile 33 = .ok (.aload_n 0, 1) := by decide +kernel
theorem dX10_misfile_34 : decode cX10_misfile 34 = .ok (.getfield 50, 3) := by decide +kernel
theorem dX10_misfile_37 : decode cX10_misfile 37 = .ok (.getfield 129, 3) := by decide +kernel
theorem dX10_misfile_40 : decode cX10_misfile 40 = .ok (.iload_n 1, 1) := by decide +kernel
theorem dX10_misfile_41 : decode cX10_misfile 41 = .ok (.iload_n 2, 1) := by decide +kernel
theorem dX10_misfile_42 : decode cX10_misfile 42 = .ok (.invokevirtual 299, 3) := by decide +kernel
theorem dX10_misfile_45 : decode cX10_misfile 45 = .ok (.invokevirtual 288, 3) := by decide +kernel
theorem dX10_misfile_48 : decode cX10_misfile 48 = .ok (.ireturn, 1) := by decide +kernel
theorem dX10_straighten_0 : decode cX10_straighten 0 = .ok (.aload_n 0, 1) := by decide +kernel
theorem dX10_straighten_1 : decode cX10_straighten 1 = .ok (.getfield 50, 3) := by decide +kernel
theorem dX10_straighten_4 : decode cX10_straighten 4 = .ok (.iload_n 1, 1) := by decide +kernel
theorem dX10_straighten_5 : decode cX10_straighten 5 = .ok (.invokevirtual 171, 3) := by decide +kernel
theorem dX10_straighten_8 : decode cX10_straighten 8 = .ok (.ifCond .ne 13, 3) := by decide +kernel
theorem dX10_straighten_11 : decode cX10_straighten 11 = .ok (.new 175, 3) := by decide +kernel
theorem dX10_straighten_14 : decode cX10_straighten 14 = .ok (.dup, 1) := by decide +kernel
theorem dX10_straighten_15 : decode cX10_straighten 15 = .ok (.ldc 177, 2) := by decide +kernel
theorem dX10_straighten_17 : decode cX10_straighten 17 = .ok (.invokespecial 179, 3) := by decide +kernel
theorem dX10_straighten_20 : decode cX10_straighten 20 = .ok (.athrow, 1) := by decide +kernel
theorem dX10_straighten_21 : decode cX10_straighten 21 = .ok (.aload_n 0, 1) := by decide +kernel
theorem dX10_straighten_22 : decode cX10_straighten 22 = .ok (.getfield 43, 3) := by decide +kernel
theorem dX10_straighten_25 : decode cX10_straighten 25 = .ok (.aload_n 0, 1) := by decide +kernel
theorem dX10_straighten_26 : decode cX10_straighten 26 = .ok (.getfield 50, 3) := by decide +kernel
theorem dX10_straighten_29 : decode cX10_straighten 29 = .ok (.invokevirtual 282, 3) := by decide +kernel
theorem dX10_straighten_32 : decode cX10_straighten 32 = .ok (.aload_n 0, 1) := by decide +kernel
theorem dX10_straighten_33 : decode cX10_straighten 33 = .ok (.aload_n 0, 1) := by decide +kernel
theorem dX10_straighten_34 : decode cX10_straighten 34 = .ok (.getfield 50, 3) := by decide +kernel
theorem dX10_straighten_37 : decode cX10_straighten 37 = .ok (.getfield 129, 3) := by decide +kernel
theorem dX10_straighten_40 : decode cX10_straighten 40 = .ok (.iload_n 1, 1) := by decide +kernel
theorem dX10_straighten_41 : decode cX10_straighten 41 = .ok (.invokevirtual 302, 3) := by decide +kernel
theorem dX10_straighten_44 : decode cX10_straighten 44 = .ok (.invokevirtual 288, 3) := by decide +kernel
theorem dX10_straighten_47 : decode cX10_straighten 47 = .ok (.ireturn, 1) := by decide +kernel
theorem dX10_check_0 : decode cX10_check 0 = .ok (.iload_n 1, 1) := by decide +kernel
theorem dX10_check_1 : decode cX10_check 1 = .ok (.iconst 1, 1) := by decide +kernel
theorem dX10_check_2 : decode cX10_check 2 = .ok (.if_icmp .lt 9, 3) := by decide +kernel
theorem dX10_check_5 : decode cX10_check 5 = .ok (.iload_n 1, 1) := by decide +kernel
theorem dX10_check_6 : decode cX10_check 6 = .ok (.bipush 99, 2) := by decide +kernel
theorem dX10_check_8 : decode cX10_check 8 = .ok (.if_icmp .le 14, 3) := by decide +kernel
theorem dX10_check_11 : decode cX10_check 11 = .ok (.new 89, 3) := by decide +kernel
theorem dX10_check_14 : decode cX10_check 14 = .ok (.dup, 1) := by decide +kernel
theorem dX10_check_15 : decode cX10_check 15 = .ok (.ldc_w 305, 3) := by decide +kernel
theorem dX10_check_18 : decode cX10_check 18 = .ok (.invokespecial 93, 3) := by decide +kernel
theorem dX10_check_21 : decode cX10_check 21 = .ok (.athrow, 1) := by decide +kernel
theorem dX10_check_22 : decode cX10_check 22 = .ok (.aload_n 0, 1) := by decide +kernel
theorem dX10_check_23 : decode cX10_check 23 = .ok (.getfield 43, 3) := by decide +kernel
theorem dX10_check_26 : decode cX10_check 26 = .ok (.aload_n 0, 1) := by decide +kernel
theorem dX10_check_27 : decode cX10_check 27 = .ok (.getfield 50, 3) := by decide +kernel
theorem dX10_check_30 : decode cX10_check 30 = .ok (.invokevirtual 282, 3) := by decide +kernel
theorem dX10_check_33 : decode cX10_check 33 = .ok (.aload_n 0, 1) := by decide +kernel
theorem dX10_check_34 : decode cX10_check 34 = .ok (.aload_n 0, 1) := by decide +kernel
theorem dX10_check_35 : decode cX10_check 35 = .ok (.getfield 50, 3) := by decide +kernel
theorem dX10_check_38 : decode cX10_check 38 = .ok (.iload_n 1, 1) := by decide +kernel
theorem dX10_check_39 : decode cX10_check 39 = .ok (.invokevirtual 307, 3) := by decide +kernel
theorem dX10_check_42 : decode cX10_check 42 = .ok (.invokevirtual 288, 3) := by decide +kernel
theorem dX10_check_45 : decode cX10_check 45 = .ok (.ireturn, 1) := by decide +kernel
theorem dX10_setEmbargo_0 : decode cX10_setEmbargo 0 = .ok (.aload_n 0, 1) := by decide +kernel
theorem dX10_setEmbargo_1 : decode cX10_setEmbargo 1 = .ok (.getfield 50, 3) := by decide +kernel
theorem dX10_setEmbargo_4 : decode cX10_setEmbargo 4 = .ok (.iload_n 1, 1) := by decide +kernel
theorem dX10_setEmbargo_5 : decode cX10_setEmbargo 5 = .ok (.invokevirtual 171, 3) := by decide +kernel
theorem dX10_setEmbargo_8 : decode cX10_setEmbargo 8 = .ok (.ifCond .ne 13, 3) := by decide +kernel
theorem dX10_setEmbargo_11 : decode cX10_setEmbargo 11 = .ok (.new 175, 3) := by decide +kernel
theorem dX10_setEmbargo_14 : decode cX10_setEmbargo 14 = .ok (.dup, 1) := by decide +kernel
theorem dX10_setEmbargo_15 : decode cX10_setEmbargo 15 = .ok (.ldc 177, 2) := by decide +kernel
theorem dX10_setEmbargo_17 : decode cX10_setEmbargo 17 = .ok (.invokespecial 179, 3) := by decide +kernel
theorem dX10_setEmbargo_20 : decode cX10_setEmbargo 20 = .ok (.athrow, 1) := by decide +kernel
theorem dX10_setEmbargo_21 : decode cX10_setEmbargo 21 = .ok (.iload_n 2, 1) := by decide +kernel
theorem dX10_setEmbargo_22 : decode cX10_setEmbargo 22 = .ok (.ifCond .lt 10, 3) := by decide +kernel
theorem dX10_setEmbargo_25 : decode cX10_setEmbargo 25 = .ok (.iload_n 2, 1) := by decide +kernel
theorem dX10_setEmbargo_26 : decode cX10_setEmbargo 26 = .ok (.sipush 999, 3) := by decide +kernel
theorem dX10_setEmbargo_29 : decode cX10_setEmbargo 29 = .ok (.if_icmp .le 14, 3) := by decide +kernel
theorem dX10_setEmbargo_32 : decode cX10_setEmbargo 32 = .ok (.new 89, 3) := by decide +kernel
theorem dX10_setEmbargo_35 : decode cX10_setEmbargo 35 = .ok (.dup, 1) := by decide +kernel
theorem dX10_setEmbargo_36 : decode cX10_setEmbargo 36 = .ok (.ldc_w 310, 3) := by decide +kernel
theorem dX10_setEmbargo_39 : decode cX10_setEmbargo 39 = .ok (.invokespecial 93, 3) := by decide +kernel
theorem dX10_setEmbargo_42 : decode cX10_setEmbargo 42 = .ok (.athrow, 1) := by decide +kernel
theorem dX10_setEmbargo_43 : decode cX10_setEmbargo 43 = .ok (.aload_n 0, 1) := by decide +kernel
theorem dX10_setEmbargo_44 : decode cX10_setEmbargo 44 = .ok (.getfield 43, 3) := by decide +kernel
theorem dX10_setEmbargo_47 : decode cX10_setEmbargo 47 = .ok (.aload_n 0, 1) := by decide +kernel
theorem dX10_setEmbargo_48 : decode cX10_setEmbargo 48 = .ok (.getfield 50, 3) := by decide +kernel
theorem dX10_setEmbargo_51 : decode cX10_setEmbargo 51 = .ok (.invokevirtual 282, 3) := by decide +kernel
theorem dX10_setEmbargo_54 : decode cX10_setEmbargo 54 = .ok (.aload_n 0, 1) := by decide +kernel
theorem dX10_setEmbargo_55 : decode cX10_setEmbargo 55 = .ok (.aload_n 0, 1) := by decide +kernel
theorem dX10_setEmbargo_56 : decode cX10_setEmbargo 56 = .ok (.getfield 50, 3) := by decide +kernel
theorem dX10_setEmbargo_59 : decode cX10_setEmbargo 59 = .ok (.iload_n 1, 1) := by decide +kernel
theorem dX10_setEmbargo_60 : decode cX10_setEmbargo 60 = .ok (.iload_n 2, 1) := by decide +kernel
theorem dX10_setEmbargo_61 : decode cX10_setEmbargo 61 = .ok (.invokevirtual 312, 3) := by decide +kernel
theorem dX10_setEmbargo_64 : decode cX10_setEmbargo 64 = .ok (.invokevirtual 288, 3) := by decide +kernel
theorem dX10_setEmbargo_67 : decode cX10_setEmbargo 67 = .ok (.ireturn, 1) := by decide +kernel
theorem dX10_settled_0 : decode cX10_settled 0 = .ok (.iload_n 1, 1) := by decide +kernel
theorem dX10_settled_1 : decode cX10_settled 1 = .ok (.ifCond .lt 10, 3) := by decide +kernel
theorem dX10_settled_4 : decode cX10_settled 4 = .ok (.aload_n 0, 1) := by decide +kernel
theorem dX10_settled_5 : decode cX10_settled 5 = .ok (.getfield 43, 3) := by decide +kernel
theorem dX10_settled_8 : decode cX10_settled 8 = .ok (.invokevirtual 326, 3) := by decide +kernel
theorem dX10_settled_11 : decode cX10_settled 11 = .ok (.aload_n 0, 1) := by decide +kernel
theorem dX10_settled_12 : decode cX10_settled 12 = .ok (.iload_n 1, 1) := by decide +kernel
theorem dX10_settled_13 : decode cX10_settled 13 = .ok (.invokevirtual 323, 3) := by decide +kernel
theorem dX10_settled_16 : decode cX10_settled 16 = .ok (.ireturn, 1) := by decide +kernel
theorem dX10_counted_0 : decode cX10_counted 0 = .ok (.aload_n 0, 1) := by decide +kernel
theorem dX10_counted_1 : decode cX10_counted 1 = .ok (.getfield 21, 3) := by decide +kernel
theorem dX10_counted_4 : decode cX10_counted 4 = .ok (.iload_n 1, 1) := by decide +kernel
theorem dX10_counted_5 : decode cX10_counted 5 = .ok (.ifCond .lt 7, 3) := by decide +kernel
theorem dX10_counted_8 : decode cX10_counted 8 = .ok (.iconst 0, 1) := by decide +kernel
theorem dX10_counted_9 : decode cX10_counted 9 = .ok (.goto 4, 3) := by decide +kernel
theorem dX10_counted_12 : decode cX10_counted 12 = .ok (.iconst 1, 1) := by decide +kernel
theorem dX10_counted_13 : decode cX10_counted 13 = .ok (.iconst 1, 1) := by decide +kernel
theorem dX10_counted_14 : decode cX10_counted 14 = .ok (.invokevirtual 329, 3) := by decide +kernel
theorem dX10_counted_17 : decode cX10_counted 17 = .ok (.iload_n 1, 1) := by decide +kernel
theorem dX10_counted_18 : decode cX10_counted 18 = .ok (.ireturn, 1) := by decide +kernel
theorem dX10_undoCount_0 : decode cX10_undoCount 0 = .ok (.aload_n 0, 1) := by decide +kernel
theorem dX10_undoCount_1 : decode cX10_undoCount 1 = .ok (.getfield 43, 3) := by decide +kernel
theorem dX10_undoCount_4 : decode cX10_undoCount 4 = .ok (.invokevirtual 362, 3) := by decide +kernel
theorem dX10_undoCount_7 : decode cX10_undoCount 7 = .ok (.ireturn, 1) := by decide +kernel
theorem dX10_undo_0 : decode cX10_undo 0 = .ok (.aload_n 0, 1) := by decide +kernel
theorem dX10_undo_1 : decode cX10_undo 1 = .ok (.getfield 43, 3) := by decide +kernel
theorem dX10_undo_4 : decode cX10_undo 4 = .ok (.aload_n 0, 1) := by decide +kernel
theorem dX10_undo_5 : decode cX10_undo 5 = .ok (.getfield 50, 3) := by decide +kernel
theorem dX10_undo_8 : decode cX10_undo 8 = .ok (.invokevirtual 363, 3) := by decide +kernel
theorem dX10_undo_11 : decode cX10_undo 11 = .ok (.ifCond .ne 5, 3) := by decide +kernel
theorem dX10_undo_14 : decode cX10_undo 14 = .ok (.iconst (-1), 1) := by decide +kernel
theorem dX10_undo_15 : decode cX10_undo 15 = .ok (.ireturn, 1) := by decide +kernel
theorem dX10_undo_16 : decode cX10_undo 16 = .ok (.aload_n 0, 1) := by decide +kernel
theorem dX10_undo_17 : decode cX10_undo 17 = .ok (.getfield 21, 3) := by decide +kernel
theorem dX10_undo_20 : decode cX10_undo 20 = .ok (.iconst 2, 1) := by decide +kernel
theorem dX10_undo_21 : decode cX10_undo 21 = .ok (.iconst 1, 1) := by decide +kernel
theorem dX10_undo_22 : decode cX10_undo 22 = .ok (.invokevirtual 329, 3) := by decide +kernel
theorem dX10_undo_25 : decode cX10_undo 25 = .ok (.aload_n 0, 1) := by decide +kernel
theorem dX10_undo_26 : decode cX10_undo 26 = .ok (.getfield 43, 3) := by decide +kernel
theorem dX10_undo_29 : decode cX10_undo 29 = .ok (.invokevirtual 362, 3) := by decide +kernel
theorem dX10_undo_32 : decode cX10_undo 32 = .ok (.ireturn, 1) := by decide +kernel
theorem dX10_saveSnapshot_0 : decode cX10_saveSnapshot 0 = .ok (.aload_n 0, 1) := by decide +kernel
theorem dX10_saveSnapshot_1 : decode cX10_saveSnapshot 1 = .ok (.getfield 57, 3) := by decide +kernel
theorem dX10_saveSnapshot_4 : decode cX10_saveSnapshot 4 = .ok (.aload_n 0, 1) := by decide +kernel
theorem dX10_saveSnapshot_5 : decode cX10_saveSnapshot 5 = .ok (.getfield 50, 3) := by decide +kernel
theorem dX10_saveSnapshot_8 : decode cX10_saveSnapshot 8 = .ok (.invokevirtual 106, 3) := by decide +kernel
theorem dX10_saveSnapshot_11 : decode cX10_saveSnapshot 11 = .ok (.aload_n 0, 1) := by decide +kernel
theorem dX10_saveSnapshot_12 : decode cX10_saveSnapshot 12 = .ok (.iconst 1, 1) := by decide +kernel
theorem dX10_saveSnapshot_13 : decode cX10_saveSnapshot 13 = .ok (.putfield 60, 3) := by decide +kernel
theorem dX10_saveSnapshot_16 : decode cX10_saveSnapshot 16 = .ok (.return_, 1) := by decide +kernel
theorem dX10_restoreSnapshot_0 : decode cX10_restoreSnapshot 0 = .ok (.aload_n 0, 1) := by decide +kernel
theorem dX10_restoreSnapshot_1 : decode cX10_restoreSnapshot 1 = .ok (.getfield 60, 3) := by decide +kernel
theorem dX10_restoreSnapshot_4 : decode cX10_restoreSnapshot 4 = .ok (.ifCond .ne 5, 3) := by decide +kernel
theorem dX10_restoreSnapshot_7 : decode cX10_restoreSnapshot 7 = .ok (.iconst 0, 1) := by decide +kernel
theorem dX10_restoreSnapshot_8 : decode cX10_restoreSnapshot 8 = .ok (.ireturn, 1) := by decide +kernel
theorem dX10_restoreSnapshot_9 : decode cX10_restoreSnapshot 9 = .ok (.aload_n 0, 1) := by decide +kernel
theorem dX10_restoreSnapshot_10 : decode cX10_restoreSnapshot 10 = .ok (.getfield 50, 3) := by decide +kernel
theorem dX10_restoreSnapshot_13 : decode cX10_restoreSnapshot 13 = .ok (.aload_n 0, 1) := by decide +kernel
theorem dX10_restoreSnapshot_14 : decode cX10_restoreSnapshot 14 = .ok (.getfield 57, 3) := by decide +kernel
theorem dX10_restoreSnapshot_17 : decode cX10_restoreSnapshot 17 = .ok (.invokevirtual 106, 3) := by decide +kernel
theorem dX10_restoreSnapshot_20 : decode cX10_restoreSnapshot 20 = .ok (.aload_n 0, 1) := by decide +kernel
theorem dX10_restoreSnapshot_21 : decode cX10_restoreSnapshot 21 = .ok (.getfield 43, 3) := by decide +kernel
theorem dX10_restoreSnapshot_24 : decode cX10_restoreSnapshot 24 = .ok (.invokevirtual 110, 3) := by decide +kernel
theorem dX10_restoreSnapshot_27 : decode cX10_restoreSnapshot 27 = .ok (.iconst 1, 1) := by decide +kernel
theorem dX10_restoreSnapshot_28 : decode cX10_restoreSnapshot 28 = .ok (.ireturn, 1) := by decide +kernel
