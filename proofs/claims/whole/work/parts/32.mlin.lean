theorem dX5_linearMany_0 : decode cX5_linearMany 0 = .ok (.iconst 1, 1) := by decide +kernel
theorem dX5_linearMany_1 : decode cX5_linearMany 1 = .ok (.aload_n 0, 1) := by decide +kernel
theorem dX5_linearMany_2 : decode cX5_linearMany 2 = .ok (.getfield 102, 3) := by decide +kernel
theorem dX5_linearMany_5 : decode cX5_linearMany 5 = .ok (.ishl, 1) := by decide +kernel
theorem dX5_linearMany_6 : decode cX5_linearMany 6 = .ok (.aload_n 0, 1) := by decide +kernel
theorem dX5_linearMany_7 : decode cX5_linearMany 7 = .ok (.getfield 105, 3) := by decide +kernel
theorem dX5_linearMany_10 : decode cX5_linearMany 10 = .ok (.iadd, 1) := by decide +kernel
theorem dX5_linearMany_11 : decode cX5_linearMany 11 = .ok (.ireturn, 1) := by decide +kernel
theorem dX5_linearOf_0 : decode cX5_linearOf 0 = .ok (.iload_n 1, 1) := by decide +kernel
theorem dX5_linearOf_1 : decode cX5_linearOf 1 = .ok (.invokestatic 54, 3) := by decide +kernel
theorem dX5_linearOf_4 : decode cX5_linearOf 4 = .ok (.aload_n 0, 1) := by decide +kernel
theorem dX5_linearOf_5 : decode cX5_linearOf 5 = .ok (.getfield 102, 3) := by decide +kernel
theorem dX5_linearOf_8 : decode cX5_linearOf 8 = .ok (.invokestatic 58, 3) := by decide +kernel
theorem dX5_linearOf_11 : decode cX5_linearOf 11 = .ok (.istore_n 2, 1) := by decide +kernel
theorem dX5_linearOf_12 : decode cX5_linearOf 12 = .ok (.iload_n 2, 1) := by decide +kernel
theorem dX5_linearOf_13 : decode cX5_linearOf 13 = .ok (.aload_n 0, 1) := by decide +kernel
theorem dX5_linearOf_14 : decode cX5_linearOf 14 = .ok (.getfield 105, 3) := by decide +kernel
theorem dX5_linearOf_17 : decode cX5_linearOf 17 = .ok (.if_icmp .lt 7, 3) := by decide +kernel
theorem dX5_linearOf_20 : decode cX5_linearOf 20 = .ok (.iload_n 2, 1) := by decide +kernel
theorem dX5_linearOf_21 : decode cX5_linearOf 21 = .ok (.goto 16, 3) := by decide +kernel
theorem dX5_linearOf_24 : decode cX5_linearOf 24 = .ok (.iload_n 1, 1) := by decide +kernel
theorem dX5_linearOf_25 : decode cX5_linearOf 25 = .ok (.invokestatic 54, 3) := by decide +kernel
theorem dX5_linearOf_28 : decode cX5_linearOf 28 = .ok (.aload_n 0, 1) := by decide +kernel
theorem dX5_linearOf_29 : decode cX5_linearOf 29 = .ok (.getfield 102, 3) := by decide +kernel
theorem dX5_linearOf_32 : decode cX5_linearOf 32 = .ok (.iconst 1, 1) := by decide +kernel
theorem dX5_linearOf_33 : decode cX5_linearOf 33 = .ok (.iadd, 1) := by decide +kernel
theorem dX5_linearOf_34 : decode cX5_linearOf 34 = .ok (.invokestatic 58, 3) := by decide +kernel
theorem dX5_linearOf_37 : decode cX5_linearOf 37 = .ok (.ireturn, 1) := by decide +kernel
theorem dX5_linearPuts_0 : decode cX5_linearPuts 0 = .ok (.aload_n 0, 1) := by decide +kernel
theorem dX5_linearPuts_1 : decode cX5_linearPuts 1 = .ok (.getfield 32, 3) := by decide +kernel
theorem dX5_linearPuts_4 : decode cX5_linearPuts 4 = .ok (.aload_n 0, 1) := by decide +kernel
theorem dX5_linearPuts_5 : decode cX5_linearPuts 5 = .ok (.getfield 51, 3) := by decide +kernel
theorem dX5_linearPuts_8 : decode cX5_linearPuts 8 = .ok (.iconst 1, 1) := by decide +kernel
theorem dX5_linearPuts_9 : decode cX5_linearPuts 9 = .ok (.isub, 1) := by decide +kernel
theorem dX5_linearPuts_10 : decode cX5_linearPuts 10 = .ok (.iload_n 1, 1) := by decide +kernel
theorem dX5_linearPuts_11 : decode cX5_linearPuts 11 = .ok (.iastore, 1) := by decide +kernel
theorem dX5_linearPuts_12 : decode cX5_linearPuts 12 = .ok (.bipush 100, 2) := by decide +kernel
theorem dX5_linearPuts_14 : decode cX5_linearPuts 14 = .ok (.aload_n 0, 1) := by decide +kernel
theorem dX5_linearPuts_15 : decode cX5_linearPuts 15 = .ok (.getfield 51, 3) := by decide +kernel
theorem dX5_linearPuts_18 : decode cX5_linearPuts 18 = .ok (.imul, 1) := by decide +kernel
theorem dX5_linearPuts_19 : decode cX5_linearPuts 19 = .ok (.aload_n 0, 1) := by decide +kernel
theorem dX5_linearPuts_20 : decode cX5_linearPuts 20 = .ok (.getfield 23, 3) := by decide +kernel
theorem dX5_linearPuts_23 : decode cX5_linearPuts 23 = .ok (.aload_n 0, 1) := by decide +kernel
theorem dX5_linearPuts_24 : decode cX5_linearPuts 24 = .ok (.invokevirtual 108, 3) := by decide +kernel
theorem dX5_linearPuts_27 : decode cX5_linearPuts 27 = .ok (.imul, 1) := by decide +kernel
theorem dX5_linearPuts_28 : decode cX5_linearPuts 28 = .ok (.aload_n 0, 1) := by decide +kernel
theorem dX5_linearPuts_29 : decode cX5_linearPuts 29 = .ok (.getfield 16, 3) := by decide +kernel
theorem dX5_linearPuts_32 : decode cX5_linearPuts 32 = .ok (.imul, 1) := by decide +kernel
theorem dX5_linearPuts_33 : decode cX5_linearPuts 33 = .ok (.if_icmp .le 54, 3) := by decide +kernel
theorem dX5_linearPuts_36 : decode cX5_linearPuts 36 = .ok (.aload_n 0, 1) := by decide +kernel
theorem dX5_linearPuts_37 : decode cX5_linearPuts 37 = .ok (.dup, 1) := by decide +kernel
theorem dX5_linearPuts_38 : decode cX5_linearPuts 38 = .ok (.getfield 105, 3) := by decide +kernel
theorem dX5_linearPuts_41 : decode cX5_linearPuts 41 = .ok (.iconst 1, 1) := by decide +kernel
theorem dX5_linearPuts_42 : decode cX5_linearPuts 42 = .ok (.iadd, 1) := by decide +kernel
theorem dX5_linearPuts_43 : decode cX5_linearPuts 43 = .ok (.putfield 105, 3) := by decide +kernel
theorem dX5_linearPuts_46 : decode cX5_linearPuts 46 = .ok (.aload_n 0, 1) := by decide +kernel
theorem dX5_linearPuts_47 : decode cX5_linearPuts 47 = .ok (.dup, 1) := by decide +kernel
theorem dX5_linearPuts_48 : decode cX5_linearPuts 48 = .ok (.getfield 112, 3) := by decide +kernel
theorem dX5_linearPuts_51 : decode cX5_linearPuts 51 = .ok (.iconst 1, 1) := by decide +kernel
theorem dX5_linearPuts_52 : decode cX5_linearPuts 52 = .ok (.iadd, 1) := by decide +kernel
theorem dX5_linearPuts_53 : decode cX5_linearPuts 53 = .ok (.putfield 112, 3) := by decide +kernel
theorem dX5_linearPuts_56 : decode cX5_linearPuts 56 = .ok (.aload_n 0, 1) := by decide +kernel
theorem dX5_linearPuts_57 : decode cX5_linearPuts 57 = .ok (.getfield 105, 3) := by decide +kernel
theorem dX5_linearPuts_60 : decode cX5_linearPuts 60 = .ok (.iconst 1, 1) := by decide +kernel
theorem dX5_linearPuts_61 : decode cX5_linearPuts 61 = .ok (.aload_n 0, 1) := by decide +kernel
theorem dX5_linearPuts_62 : decode cX5_linearPuts 62 = .ok (.getfield 102, 3) := by decide +kernel
theorem dX5_linearPuts_65 : decode cX5_linearPuts 65 = .ok (.ishl, 1) := by decide +kernel
theorem dX5_linearPuts_66 : decode cX5_linearPuts 66 = .ok (.if_icmp .ne (-54), 3) := by decide +kernel
theorem dX5_linearPuts_69 : decode cX5_linearPuts 69 = .ok (.aload_n 0, 1) := by decide +kernel
theorem dX5_linearPuts_70 : decode cX5_linearPuts 70 = .ok (.dup, 1) := by decide +kernel
theorem dX5_linearPuts_71 : decode cX5_linearPuts 71 = .ok (.getfield 102, 3) := by decide +kernel
theorem dX5_linearPuts_74 : decode cX5_linearPuts 74 = .ok (.iconst 1, 1) := by decide +kernel
theorem dX5_linearPuts_75 : decode cX5_linearPuts 75 = .ok (.iadd, 1) := by decide +kernel
theorem dX5_linearPuts_76 : decode cX5_linearPuts 76 = .ok (.putfield 102, 3) := by decide +kernel
theorem dX5_linearPuts_79 : decode cX5_linearPuts 79 = .ok (.aload_n 0, 1) := by decide +kernel
theorem dX5_linearPuts_80 : decode cX5_linearPuts 80 = .ok (.iconst 0, 1) := by decide +kernel
theorem dX5_linearPuts_81 : decode cX5_linearPuts 81 = .ok (.putfield 105, 3) := by decide +kernel
theorem dX5_linearPuts_84 : decode cX5_linearPuts 84 = .ok (.goto (-72), 3) := by decide +kernel
theorem dX5_linearPuts_87 : decode cX5_linearPuts 87 = .ok (.return_, 1) := by decide +kernel
theorem dX5_linearShrinks_0 : decode cX5_linearShrinks 0 = .ok (.aload_n 0, 1) := by decide +kernel
theorem dX5_linearShrinks_1 : decode cX5_linearShrinks 1 = .ok (.invokevirtual 108, 3) := by decide +kernel
theorem dX5_linearShrinks_4 : decode cX5_linearShrinks 4 = .ok (.iconst 1, 1) := by decide +kernel
theorem dX5_linearShrinks_5 : decode cX5_linearShrinks 5 = .ok (.if_icmp .le 181, 3) := by decide +kernel
theorem dX5_linearShrinks_8 : decode cX5_linearShrinks 8 = .ok (.bipush 100, 2) := by decide +kernel
theorem dX5_linearShrinks_10 : decode cX5_linearShrinks 10 = .ok (.aload_n 0, 1) := by decide +kernel
theorem dX5_linearShrinks_11 : decode cX5_linearShrinks 11 = .ok (.getfield 51, 3) := by decide +kernel
theorem dX5_linearShrinks_14 : decode cX5_linearShrinks 14 = .ok (.imul, 1) := by decide +kernel
theorem dX5_linearShrinks_15 : decode cX5_linearShrinks 15 = .ok (.aload_n 0, 1) := by decide +kernel
theorem dX5_linearShrinks_16 : decode cX5_linearShrinks 16 = .ok (.getfield 20, 3) := by decide +kernel
theorem dX5_linearShrinks_19 : decode cX5_linearShrinks 19 = .ok (.aload_n 0, 1) := by decide +kernel
theorem dX5_linearShrinks_20 : decode cX5_linearShrinks 20 = .ok (.invokevirtual 108, 3) := by decide +kernel
theorem dX5_linearShrinks_23 : decode cX5_linearShrinks 23 = .ok (.imul, 1) := by decide +kernel
theorem dX5_linearShrinks_24 : decode cX5_linearShrinks 24 = .ok (.aload_n 0, 1) := by decide +kernel
theorem dX5_linearShrinks_25 : decode cX5_linearShrinks 25 = .ok (.getfield 16, 3) := by decide +kernel
theorem dX5_linearShrinks_28 : decode cX5_linearShrinks 28 = .ok (.imul, 1) := by decide +kernel
theorem dX5_linearShrinks_29 : decode cX5_linearShrinks 29 = .ok (.if_icmp .ge 157, 3) := by decide +kernel
theorem dX5_linearShrinks_32 : decode cX5_linearShrinks 32 = .ok (.aload_n 0, 1) := by decide +kernel
theorem dX5_linearShrinks_33 : decode cX5_linearShrinks 33 = .ok (.invokevirtual 108, 3) := by decide +kernel
theorem dX5_linearShrinks_36 : decode cX5_linearShrinks 36 = .ok (.iconst 1, 1) := by decide +kernel
theorem dX5_linearShrinks_37 : decode cX5_linearShrinks 37 = .ok (.isub, 1) := by decide +kernel
theorem dX5_linearShrinks_38 : decode cX5_linearShrinks 38 = .ok (.istore_n 1, 1) := by decide +kernel
theorem dX5_linearShrinks_39 : decode cX5_linearShrinks 39 = .ok (.iconst 0, 1) := by decide +kernel
theorem dX5_linearShrinks_40 : decode cX5_linearShrinks 40 = .ok (.istore_n 2, 1) := by decide +kernel
theorem dX5_linearShrinks_41 : decode cX5_linearShrinks 41 = .ok (.iconst 0, 1) := by decide +kernel
theorem dX5_linearShrinks_42 : decode cX5_linearShrinks 42 = .ok (.istore_n 3, 1) := by decide +kernel
theorem dX5_linearShrinks_43 : decode cX5_linearShrinks 43 = .ok (.iconst 0, 1) := by decide +kernel
theorem dX5_linearShrinks_44 : decode cX5_linearShrinks 44 = .ok (.istore 4, 2) := by decide +kernel
theorem dX5_linearShrinks_46 : decode cX5_linearShrinks 46 = .ok (.iload 4, 2) := by decide +kernel
theorem dX5_linearShrinks_48 : decode cX5_linearShrinks 48 = .ok (.aload_n 0, 1) := by decide +kernel
theorem dX5_linearShrinks_49 : decode cX5_linearShrinks 49 = .ok (.getfield 51, 3) := by decide +kernel
theorem dX5_linearShrinks_52 : decode cX5_linearShrinks 52 = .ok (.if_icmp .ge 53, 3) := by decide +kernel
theorem dX5_linearShrinks_55 : decode cX5_linearShrinks 55 = .ok (.aload_n 0, 1) := by decide +kernel
theorem dX5_linearShrinks_56 : decode cX5_linearShrinks 56 = .ok (.getfield 32, 3) := by decide +kernel
theorem dX5_linearShrinks_59 : decode cX5_linearShrinks 59 = .ok (.iload 4, 2) := by decide +kernel
theorem dX5_linearShrinks_61 : decode cX5_linearShrinks 61 = .ok (.iaload, 1) := by decide +kernel
theorem dX5_linearShrinks_62 : decode cX5_linearShrinks 62 = .ok (.istore 5, 2) := by decide +kernel
theorem dX5_linearShrinks_64 : decode cX5_linearShrinks 64 = .ok (.aload_n 0, 1) := by decide +kernel
theorem dX5_linearShrinks_65 : decode cX5_linearShrinks 65 = .ok (.iload 5, 2) := by decide +kernel
theorem dX5_linearShrinks_67 : decode cX5_linearShrinks 67 = .ok (.invokevirtual 115, 3) := by decide +kernel
theorem dX5_linearShrinks_70 : decode cX5_linearShrinks 70 = .ok (.iload_n 1, 1) := by decide +kernel
theorem dX5_linearShrinks_71 : decode cX5_linearShrinks 71 = .ok (.if_icmp .ne 17, 3) := by decide +kernel
theorem dX5_linearShrinks_74 : decode cX5_linearShrinks 74 = .ok (.aload_n 0, 1) := by decide +kernel
theorem dX5_linearShrinks_75 : decode cX5_linearShrinks 75 = .ok (.getfield 35, 3) := by decide +kernel
theorem dX5_linearShrinks_78 : decode cX5_linearShrinks 78 = .ok (.iload_n 3, 1) := by decide +kernel
theorem dX5_linearShrinks_79 : decode cX5_linearShrinks 79 = .ok (.iload 5, 2) := by decide +kernel
theorem dX5_linearShrinks_81 : decode cX5_linearShrinks 81 = .ok (.iastore, 1) := by decide +kernel
theorem dX5_linearShrinks_82 : decode cX5_linearShrinks 82 = .ok (.iinc 3 1, 3) := by decide +kernel
theorem dX5_linearShrinks_85 : decode cX5_linearShrinks 85 = .ok (.goto 14, 3) := by decide +kernel
theorem dX5_linearShrinks_88 : decode cX5_linearShrinks 88 = .ok (.aload_n 0, 1) := by decide +kernel
theorem dX5_linearShrinks_89 : decode cX5_linearShrinks 89 = .ok (.getfield 32, 3) := by decide +kernel
theorem dX5_linearShrinks_92 : decode cX5_linearShrinks 92 = .ok (.iload_n 2, 1) := by decide +kernel
theorem dX5_linearShrinks_93 : decode cX5_linearShrinks 93 = .ok (.iload 5, 2) := by decide +kernel
theorem dX5_linearShrinks_95 : decode cX5_linearShrinks 95 = .ok (.iastore, 1) := by decide +kernel
theorem dX5_linearShrinks_96 : decode cX5_linearShrinks 96 = .ok (.iinc 2 1, 3) := by decide +kernel
theorem dX5_linearShrinks_99 : decode cX5_linearShrinks 99 = .ok (.iinc 4 1, 3) := by decide +kernel
theorem dX5_linearShrinks_102 : decode cX5_linearShrinks 102 = .ok (.goto (-56), 3) := by decide +kernel
theorem dX5_linearShrinks_105 : decode cX5_linearShrinks 105 = .ok (.iconst 0, 1) := by decide +kernel
theorem dX5_linearShrinks_106 : decode cX5_linearShrinks 106 = .ok (.istore 4, 2) := by decide +kernel
theorem dX5_linearShrinks_108 : decode cX5_linearShrinks 108 = .ok (.iload 4, 2) := by decide +kernel
theorem dX5_linearShrinks_110 : decode cX5_linearShrinks 110 = .ok (.iload_n 3, 1) := by decide +kernel
theorem dX5_linearShrinks_111 : decode cX5_linearShrinks 111 = .ok (.if_icmp .ge 25, 3) := by decide +kernel
theorem dX5_linearShrinks_114 : decode cX5_linearShrinks 114 = .ok (.aload_n 0, 1) := by decide +kernel
theorem dX5_linearShrinks_115 : decode cX5_linearShrinks 115 = .ok (.getfield 32, 3) := by decide +kernel
theorem dX5_linearShrinks_118 : decode cX5_linearShrinks 118 = .ok (.iload_n 2, 1) := by decide +kernel
theorem dX5_linearShrinks_119 : decode cX5_linearShrinks 119 = .ok (.iload 4, 2) := by decide +kernel
theorem dX5_linearShrinks_121 : decode cX5_linearShrinks 121 = .ok (.iadd, 1) := by decide +kernel
theorem dX5_linearShrinks_122 : decode cX5_linearShrinks 122 = .ok (.aload_n 0, 1) := by decide +kernel
theorem dX5_linearShrinks_123 : decode cX5_linearShrinks 123 = .ok (.getfield 35, 3) := by decide +kernel
theorem dX5_linearShrinks_126 : decode cX5_linearShrinks 126 = .ok (.iload 4, 2) := by decide +kernel
theorem dX5_linearShrinks_128 : decode cX5_linearShrinks 128 = .ok (.iaload, 1) := by decide +kernel
theorem dX5_linearShrinks_129 : decode cX5_linearShrinks 129 = .ok (.iastore, 1) := by decide +kernel
theorem dX5_linearShrinks_130 : decode cX5_linearShrinks 130 = .ok (.iinc 4 1, 3) := by decide +kernel
theorem dX5_linearShrinks_133 : decode cX5_linearShrinks 133 = .ok (.goto (-25), 3) := by decide +kernel
theorem dX5_linearShrinks_136 : decode cX5_linearShrinks 136 = .ok (.aload_n 0, 1) := by decide +kernel
theorem dX5_linearShrinks_137 : decode cX5_linearShrinks 137 = .ok (.getfield 105, 3) := by decide +kernel
theorem dX5_linearShrinks_140 : decode cX5_linearShrinks 140 = .ok (.ifCond .ne 23, 3) := by decide +kernel
theorem dX5_linearShrinks_143 : decode cX5_linearShrinks 143 = .ok (.aload_n 0, 1) := by decide +kernel
theorem dX5_linearShrinks_144 : decode cX5_linearShrinks 144 = .ok (.dup, 1) := by decide +kernel
theorem dX5_linearShrinks_145 : decode cX5_linearShrinks 145 = .ok (.getfield 102, 3) := by decide +kernel
theorem dX5_linearShrinks_148 : decode cX5_linearShrinks 148 = .ok (.iconst 1, 1) := by decide +kernel
theorem dX5_linearShrinks_149 : decode cX5_linearShrinks 149 = .ok (.isub, 1) := by decide +kernel
theorem dX5_linearShrinks_150 : decode cX5_linearShrinks 150 = .ok (.putfield 102, 3) := by decide +kernel
theorem dX5_linearShrinks_153 : decode cX5_linearShrinks 153 = .ok (.aload_n 0, 1) := by decide +kernel
theorem dX5_linearShrinks_154 : decode cX5_linearShrinks 154 = .ok (.iconst 1, 1) := by decide +kernel
theorem dX5_linearShrinks_155 : decode cX5_linearShrinks 155 = .ok (.aload_n 0, 1) := by decide +kernel
theorem dX5_linearShrinks_156 : decode cX5_linearShrinks 156 = .ok (.getfield 102, 3) := by decide +kernel
theorem dX5_linearShrinks_159 : decode cX5_linearShrinks 159 = .ok (.ishl, 1) := by decide +kernel
theorem dX5_linearShrinks_160 : decode cX5_linearShrinks 160 = .ok (.putfield 105, 3) := by decide +kernel
theorem dX5_linearShrinks_163 : decode cX5_linearShrinks 163 = .ok (.aload_n 0, 1) := by decide +kernel
theorem dX5_linearShrinks_164 : decode cX5_linearShrinks 164 = .ok (.dup, 1) := by decide +kernel
theorem dX5_linearShrinks_165 : decode cX5_linearShrinks 165 = .ok (.getfield 105, 3) := by decide +kernel
theorem dX5_linearShrinks_168 : decode cX5_linearShrinks 168 = .ok (.iconst 1, 1) := by decide +kernel
theorem dX5_linearShrinks_169 : decode cX5_linearShrinks 169 = .ok (.isub, 1) := by decide +kernel
theorem dX5_linearShrinks_170 : decode cX5_linearShrinks 170 = .ok (.putfield 105, 3) := by decide +kernel
theorem dX5_linearShrinks_173 : decode cX5_linearShrinks 173 = .ok (.aload_n 0, 1) := by decide +kernel
theorem dX5_linearShrinks_174 : decode cX5_linearShrinks 174 = .ok (.dup, 1) := by decide +kernel
theorem dX5_linearShrinks_175 : decode cX5_linearShrinks 175 = .ok (.getfield 112, 3) := by decide +kernel
theorem dX5_linearShrinks_178 : decode cX5_linearShrinks 178 = .ok (.iconst 1, 1) := by decide +kernel
theorem dX5_linearShrinks_179 : decode cX5_linearShrinks 179 = .ok (.isub, 1) := by decide +kernel
theorem dX5_linearShrinks_180 : decode cX5_linearShrinks 180 = .ok (.putfield 112, 3) := by decide +kernel
theorem dX5_linearShrinks_183 : decode cX5_linearShrinks 183 = .ok (.goto (-183), 3) := by decide +kernel
theorem dX5_linearShrinks_186 : decode cX5_linearShrinks 186 = .ok (.return_, 1) := by decide +kernel
theorem dX5_adds_0 : decode cX5_adds 0 = .ok (.aload_n 0, 1) := by decide +kernel
theorem dX5_adds_1 : decode cX5_adds 1 = .ok (.iload_n 1, 1) := by decide +kernel
theorem dX5_adds_2 : decode cX5_adds 2 = .ok (.invokevirtual 118, 3) := by decide +kernel
theorem dX5_adds_5 : decode cX5_adds 5 = .ok (.aload_n 0, 1) := by decide +kernel
theorem dX5_adds_6 : decode cX5_adds 6 = .ok (.getfield 7, 3) := by decide +kernel
theorem dX5_adds_9 : decode cX5_adds 9 = .ok (.aload_n 0, 1) := by decide +kernel
theorem dX5_adds_10 : decode cX5_adds 10 = .ok (.getfield 51, 3) := by decide +kernel
theorem dX5_adds_13 : decode cX5_adds 13 = .ok (.iload_n 1, 1) := by decide +kernel
theorem dX5_adds_14 : decode cX5_adds 14 = .ok (.iastore, 1) := by decide +kernel
theorem dX5_adds_15 : decode cX5_adds 15 = .ok (.aload_n 0, 1) := by decide +kernel
theorem dX5_adds_16 : decode cX5_adds 16 = .ok (.getfield 13, 3) := by decide +kernel
theorem dX5_adds_19 : decode cX5_adds 19 = .ok (.aload_n 0, 1) := by decide +kernel
theorem dX5_adds_20 : decode cX5_adds 20 = .ok (.getfield 51, 3) := by decide +kernel
theorem dX5_adds_23 : decode cX5_adds 23 = .ok (.iload_n 2, 1) := by decide +kernel
theorem dX5_adds_24 : decode cX5_adds 24 = .ok (.iastore, 1) := by decide +kernel
theorem dX5_adds_25 : decode cX5_adds 25 = .ok (.aload_n 0, 1) := by decide +kernel
theorem dX5_adds_26 : decode cX5_adds 26 = .ok (.dup, 1) := by decide +kernel
theorem dX5_adds_27 : decode cX5_adds 27 = .ok (.getfield 51, 3) := by decide +kernel
theorem dX5_adds_30 : decode cX5_adds 30 = .ok (.iconst 1, 1) := by decide +kernel
theorem dX5_adds_31 : decode cX5_adds 31 = .ok (.iadd, 1) := by decide +kernel
theorem dX5_adds_32 : decode cX5_adds 32 = .ok (.putfield 51, 3) := by decide +kernel
theorem dX5_adds_35 : decode cX5_adds 35 = .ok (.aload_n 0, 1) := by decide +kernel
theorem dX5_adds_36 : decode cX5_adds 36 = .ok (.iload_n 1, 1) := by decide +kernel
theorem dX5_adds_37 : decode cX5_adds 37 = .ok (.invokevirtual 122, 3) := by decide +kernel
theorem dX5_adds_40 : decode cX5_adds 40 = .ok (.return_, 1) := by decide +kernel
set_option maxHeartbeats 4000000 in
set_option maxRecDepth 100000 in
theorem c_X5_linearMany (l : Launch) (D : va_G) (cy : ClassId) (bb : Nat → Nat) (sto : Nat → Nat) (vas : Nat → Nat) (sz : Nat) (cap : Nat) (low : Nat) (hig : Nat) (dpt : Nat → Nat) (glo : Nat) (ext : Nat → Nat) (mdb : Int32) (mhl : Int32) (msp : Int32) (mmg : Int32) (lin : Nat → Nat) (mlv : Nat) (mpt : Nat) (mls : Int32) (mov : Nat → Nat) (thr : Nat)  (hY : YOK mlv mpt)  : tq_F l yX5_linearMany cX5_linearMany 1 (some .int) 0 0 D cy (wM cy bb sto vas sz cap low hig dpt glo ext mdb mhl msp mmg lin mlv mpt mls mov thr) [.ref (bb 0)] (fun r => r = (nI (2 ^ mlv + mpt))) := by
  refine tq_F.mk (by decide) (Nat.le_of_ble_eq_true rfl) ?_
  intro p e s m args below meth c C hP hK ls hl
  obtain ⟨hx, hb, hml, hown, hrt, hlk, hT⟩ := id C
  have hl : lv_has ls 1 [(0, .ref (bb 0))] := hl
  have hlv9 := hY.lev
  have hp7 := p2_le (c := 7) hlv9
  have hpt := hY.1
  have hmn := hY.2
  refine lv_iconst (v := nI 1) hx hb dX5_linearMany_0 (by decide) ?_
  refine lv_aload_n hx hb dX5_linearMany_1 rfl (lv_at hl 0 rfl) ?_
  refine tq_get (C0 := RX5) (T := TX5) (N := 19) (ci := 5) (k := 14) C gX5 inX5 rfl (by decide) rfl fl_X5_102 hK hP 0 rfl rfl dX5_linearMany_2 ?_
  refine tq_ishl C (by omega) (by omega) dX5_linearMany_5 ?_
  refine tq_top (y := nI (2 ^ mlv)) (by rw [Nat.one_mul]) ?_
  refine lv_aload_n hx hb dX5_linearMany_6 rfl (lv_at hl 0 rfl) ?_
  refine tq_get (C0 := RX5) (T := TX5) (N := 19) (ci := 5) (k := 15) C gX5 inX5 rfl (by decide) rfl fl_X5_105 hK hP 0 rfl rfl dX5_linearMany_7 ?_
  refine tq_iadd C dX5_linearMany_10 ?_
  exact tq_fret (v := (nI ((2 ^ mlv) + mpt))) C rfl (rfl) dX5_linearMany_11
set_option maxHeartbeats 4000000 in
set_option maxRecDepth 100000 in
theorem c_X5_linearOf (l : Launch) (D : va_G) (cy : ClassId) (bb : Nat → Nat) (sto : Nat → Nat) (vas : Nat → Nat) (sz : Nat) (cap : Nat) (low : Nat) (hig : Nat) (dpt : Nat → Nat) (glo : Nat) (ext : Nat → Nat) (mdb : Int32) (mhl : Int32) (msp : Int32) (mmg : Int32) (lin : Nat → Nat) (mlv : Nat) (mpt : Nat) (mls : Int32) (mov : Nat → Nat) (thr : Nat) (kx : Nat) (hY : YOK mlv mpt) (hkx : kx < 65536) : tq_F l yX5_linearOf cX5_linearOf 3 (some .int) 1 21 D cy (wM cy bb sto vas sz cap low hig dpt glo ext mdb mhl msp mmg lin mlv mpt mls mov thr) [.ref (bb 0), .int (nI (kx))] (fun r => r = (nI (linOf mlv mpt kx))) := by
  refine tq_F.mk (by decide) (Nat.le_of_ble_eq_true rfl) ?_
  intro p e s m args below meth c C hP hK ls hl
  obtain ⟨hx, hb, hml, hown, hrt, hlk, hT⟩ := id C
  have hl : lv_has ls 3 [(0, .ref (bb 0)), (1, .int (nI (kx)))] := hl
  have hlv9 := hY.lev
  have hp7 := p2_le (c := 7) hlv9
  have hpt := hY.1
  have hmn := hY.2
  have hh := hs_lt kx
  have hml := Nat.mod_le (hs kx) (2 ^ mlv)
  refine lv_iload_n hx hb dX5_linearOf_0 rfl (lv_at hl 1 rfl) ?_
  refine tq_callF (va_runS C.fix (As := [.int (nI (kx))]) (rest := []) (c_X5_hash l D cy kx hkx) (tq_cS (n := 1) C ml_X5_54 sm_X5_hash ini_X5 cd_X5_hash ⟨by decide, by decide, by decide +kernel⟩ ⟨Nat.le_of_ble_eq_true rfl, Nat.le_of_ble_eq_true rfl⟩) ⟨tq_Pf.blind, tq_preF C hK (hP.sub [] rfl)⟩ rfl rfl hl.1 rfl (lv_room (Nat.le_of_ble_eq_true rfl)) dX5_linearOf_1 ⟨Nat.le_of_ble_eq_true rfl, Nat.le_of_ble_eq_true rfl⟩) (fun r1 hr1 => ?_)
  obtain rfl := hr1
  refine lv_aload_n hx hb dX5_linearOf_4 rfl (lv_at hl 0 rfl) ?_
  refine tq_get (C0 := RX5) (T := TX5) (N := 19) (ci := 5) (k := 14) C gX5 inX5 rfl (by decide) rfl fl_X5_102 hK hP 0 rfl rfl dX5_linearOf_5 ?_
  refine tq_callF (va_runS C.fix (As := [.int (nI (hs kx)), .int (nI (mlv))]) (rest := []) (c_X5_lowest l D cy (hs kx) mlv (by omega) (by omega)) (tq_cS (n := 2) C ml_X5_58 sm_X5_lowest ini_X5 cd_X5_lowest ⟨by decide, by decide, by decide +kernel⟩ ⟨Nat.le_of_ble_eq_true rfl, Nat.le_of_ble_eq_true rfl⟩) ⟨tq_Pf.blind, tq_preF C hK (hP.sub [] rfl)⟩ rfl rfl hl.1 rfl (lv_room (Nat.le_of_ble_eq_true rfl)) dX5_linearOf_8 ⟨Nat.le_of_ble_eq_true rfl, Nat.le_of_ble_eq_true rfl⟩) (fun r8 hr8 => ?_)
  obtain rfl := hr8
  refine lv_istore_n (lv' := [(2, .int (nI ((hs kx) % 2 ^ mlv))), (0, .ref (bb 0)), (1, .int (nI (kx)))]) hx hb dX5_linearOf_11 rfl hl (by decide) rfl (fun ls hl => ?_)
  refine lv_iload_n hx hb dX5_linearOf_12 rfl (lv_at hl 0 rfl) ?_
  refine lv_aload_n hx hb dX5_linearOf_13 rfl (lv_at hl 1 rfl) ?_
  refine tq_get (C0 := RX5) (T := TX5) (N := 19) (ci := 5) (k := 15) C gX5 inX5 rfl (by decide) rfl fl_X5_105 hK hP 0 rfl rfl dX5_linearOf_14 ?_
  refine tq_icmp_lt (tgt := 24) C (by omega) (by omega) dX5_linearOf_17 (by decide) (fun h17 => ?_) (fun h17 => ?_)
  · refine lv_iload_n hx hb dX5_linearOf_24 rfl (lv_at hl 2 rfl) ?_
    refine tq_callF (va_runS C.fix (As := [.int (nI (kx))]) (rest := []) (c_X5_hash l D cy kx hkx) (tq_cS (n := 1) C ml_X5_54 sm_X5_hash ini_X5 cd_X5_hash ⟨by decide, by decide, by decide +kernel⟩ ⟨Nat.le_of_ble_eq_true rfl, Nat.le_of_ble_eq_true rfl⟩) ⟨tq_Pf.blind, tq_preF C hK (hP.sub [] rfl)⟩ rfl rfl hl.1 rfl (lv_room (Nat.le_of_ble_eq_true rfl)) dX5_linearOf_25 ⟨Nat.le_of_ble_eq_true rfl, Nat.le_of_ble_eq_true rfl⟩) (fun r25 hr25 => ?_)
    obtain rfl := hr25
    refine lv_aload_n hx hb dX5_linearOf_28 rfl (lv_at hl 1 rfl) ?_
    refine tq_get (C0 := RX5) (T := TX5) (N := 19) (ci := 5) (k := 14) C gX5 inX5 rfl (by decide) rfl fl_X5_102 hK hP 0 rfl rfl dX5_linearOf_29 ?_
    refine lv_iconst (v := nI 1) hx hb dX5_linearOf_32 (by decide) ?_
    refine tq_iadd C dX5_linearOf_33 ?_
    refine tq_callF (va_runS C.fix (As := [.int (nI (hs kx)), .int (nI (mlv + 1))]) (rest := []) (c_X5_lowest l D cy (hs kx) (mlv + 1) (by omega) (by omega)) (tq_cS (n := 2) C ml_X5_58 sm_X5_lowest ini_X5 cd_X5_lowest ⟨by decide, by decide, by decide +kernel⟩ ⟨Nat.le_of_ble_eq_true rfl, Nat.le_of_ble_eq_true rfl⟩) ⟨tq_Pf.blind, tq_preF C hK (hP.sub [] rfl)⟩ rfl rfl hl.1 rfl (lv_room (Nat.le_of_ble_eq_true rfl)) dX5_linearOf_34 ⟨Nat.le_of_ble_eq_true rfl, Nat.le_of_ble_eq_true rfl⟩) (fun r34 hr34 => ?_)
    obtain rfl := hr34
    exact tq_fret (v := (nI ((hs kx) % 2 ^ (mlv + 1)))) C rfl (by rw [show linOf mlv mpt kx = hs kx % 2 ^ (mlv + 1) from if_neg (by omega)]) dX5_linearOf_37
  · refine lv_iload_n hx hb dX5_linearOf_20 rfl (lv_at hl 0 rfl) ?_
    refine lv_goto (tgt := 37) hx hb dX5_linearOf_21 (by decide) ?_
    exact tq_fret (v := (nI ((hs kx) % 2 ^ mlv))) C rfl (by rw [show linOf mlv mpt kx = hs kx % 2 ^ mlv from if_pos h17]) dX5_linearOf_37
set_option maxHeartbeats 4000000 in
set_option maxRecDepth 100000 in
theorem c_X5_linearPuts (l : Launch) (D : va_G) (cy : ClassId) (bb : Nat → Nat) (sto : Nat → Nat) (vas : Nat → Nat) (sz : Nat) (cap : Nat) (low : Nat) (hig : Nat) (dpt : Nat → Nat) (glo : Nat) (ext : Nat → Nat) (mdb : Int32) (mhl : Int32) (msp : Int32) (mmg : Int32) (lin : Nat → Nat) (mlv : Nat) (mpt : Nat) (mls : Int32) (mov : Nat → Nat) (thr : Nat) (kx : Nat) (hsz : 1 ≤ sz) (hsz2 : sz ≤ 120) (hY : YOK mlv mpt) (hcp1 : 1 ≤ cap) (hcp2 : cap ≤ 5) (hh1 : 50 ≤ hig) (hh2 : hig ≤ 200) : tq_V (S := Nat × Nat × Int32) l yX5_linearPuts cX5_linearPuts 2 1 20 0 0 D cy (wM cy bb sto vas sz cap low hig dpt glo ext mdb mhl msp mmg lin mlv mpt mls mov thr) [.ref (bb 0), .int (nI (kx))] (fun u => (u.1, u.2.1, u.2.2) = lS cap hig sz 241 (mlv, mpt, mls) ∧ YOK u.1 u.2.1) (fun u => (wM cy bb sto vas sz cap low hig dpt glo ext mdb mhl msp mmg (va_up lin (sz - 1) kx) u.1 u.2.1 u.2.2 mov thr)) := by
  refine tq_V.mk (by decide) (Nat.le_of_ble_eq_true rfl) ?_
  intro p e s m args below meth c A C hin hP hK hD hS hA ls hl
  obtain ⟨hx, hb, hml, hown, hrt, hlk, hT⟩ := id C
  have hl : lv_has ls 2 [(0, .ref (bb 0)), (1, .int (nI (kx)))] := hl
  refine lv_aload_n hx hb dX5_linearPuts_0 rfl (lv_at hl 0 rfl) ?_
  refine tq_get (C0 := RX5) (T := TX5) (N := 19) (ci := 5) (k := 13) C gX5 inX5 rfl (by decide) rfl fl_X5_32 hK hP 0 rfl rfl dX5_linearPuts_1 ?_
  refine lv_aload_n hx hb dX5_linearPuts_4 rfl (lv_at hl 0 rfl) ?_
  refine tq_get (C0 := RX5) (T := TX5) (N := 19) (ci := 5) (k := 2) C gX5 inX5 rfl (by decide) rfl fl_X5_51 hK hP 0 rfl rfl dX5_linearPuts_5 ?_
  refine lv_iconst (v := nI 1) hx hb dX5_linearPuts_8 (by decide) ?_
  refine tq_isub C hsz dX5_linearPuts_9 ?_
  refine lv_iload_n hx hb dX5_linearPuts_10 rfl (lv_at hl 1 rfl) ?_
  refine tq_iast (n := 120) (i := (sz - 1)) (v := kx) (f := lin) C hK hP hD hS 5 0 rfl rfl (by omega) (Nat.le_of_ble_eq_true rfl) dX5_linearPuts_11 (fun H locs hP hD hS => ?_)
  have hP : va_P D vwCl (wM cy bb sto vas sz cap low hig dpt glo ext mdb mhl msp mmg (va_up lin (sz - 1) kx) mlv mpt mls mov thr) H := hP
  have hD : va_D A (wM cy bb sto vas sz cap low hig dpt glo ext mdb mhl msp mmg (va_up lin (sz - 1) kx) mlv mpt mls mov thr) := hD
  suffices hlp12 : ∀ (n12 : Nat) (k : Nat) (mlv1 : Nat) (mpt1 : Nat) (mls1 : Int32), k < n12 → (241 ≤ k + (2 ^ mlv1 + mpt1)) → (YOK mlv1 mpt1) → (lS cap hig sz k (mlv1, mpt1, mls1) = lS cap hig sz 241 (mlv, mpt, mls)) → ∀ (H : Heap) (locs : List Loc), va_P D vwCl (wM cy bb sto vas sz cap low hig dpt glo ext mdb mhl msp mmg (va_up lin (sz - 1) kx) mlv1 mpt1 mls1 mov thr) H → va_D A (wM cy bb sto vas sz cap low hig dpt glo ext mdb mhl msp mmg (va_up lin (sz - 1) kx) mlv1 mpt1 mls1 mov thr) → va_S A s.heap H locs → ∀ ls : Array Slot, lv_has ls 2 [(0, .ref (bb 0)), (1, .int (nI (kx)))] → W p l e ({ frames := 1, cells := 0, slots := 0, locals := 20 } : Room) s m args below meth c H locs 0 0 (MQ below (va_Qv (S := Nat × Nat × Int32) (fun u => (u.1, u.2.1, u.2.2) = lS cap hig sz 241 (mlv, mpt, mls) ∧ YOK u.1 u.2.1) (tq_B D A (fun u => (wM cy bb sto vas sz cap low hig dpt glo ext mdb mhl msp mmg (va_up lin (sz - 1) kx) u.1 u.2.1 u.2.2 mov thr))) A) args s 0 0 A) (F0 m 12 ls []) from
    hlp12 242 241 mlv mpt mls (by omega) (Nat.le_add_right _ _) (hY) (rfl) _ _ hP hD hS _ (lv_sub hl [0, 1] rfl)
  intro n12
  induction n12 with
  | zero => intro k mlv1 mpt1 mls1 hf; exact absurd hf (Nat.not_lt_zero _)
  | succ n12 ih12 =>
    intro k mlv1 mpt1 mls1 hf12 hk hY1 hres H locs hP hD hS ls hl
    have hlv91 := hY1.lev
    have hp71 := p2_le (c := 7) hlv91
    have hpt1 := hY1.1
    have hmn1 := hY1.2
    have hf1 := fa_le (m := 2 ^ mlv1 + mpt1) hh2 (by omega) hcp2
    have hf2 := fa_ge (m := 2 ^ mlv1 + mpt1) (hi := hig) hh1 hcp1
    refine lv_bipush (v := nI 100) hx hb dX5_linearPuts_12 (by decide) ?_
    refine lv_aload_n hx hb dX5_linearPuts_14 rfl (lv_at hl 0 rfl) ?_
    refine tq_get (C0 := RX5) (T := TX5) (N := 19) (ci := 5) (k := 2) C gX5 inX5 rfl (by decide) rfl fl_X5_51 hK hP 0 rfl rfl dX5_linearPuts_15 ?_
    refine tq_imul C dX5_linearPuts_18 ?_
    refine lv_aload_n hx hb dX5_linearPuts_19 rfl (lv_at hl 0 rfl) ?_
    refine tq_get (C0 := RX5) (T := TX5) (N := 19) (ci := 5) (k := 5) C gX5 inX5 rfl (by decide) rfl fl_X5_23 hK hP 0 rfl rfl dX5_linearPuts_20 ?_
    refine lv_aload_n hx hb dX5_linearPuts_23 rfl (lv_at hl 0 rfl) ?_
    refine tq_callF (va_runV C.fix (As := []) (rest := [.int (nI (hig)), .int (nI (100 * sz))]) (c_X5_linearMany l D cy bb sto vas sz cap low hig dpt glo ext mdb mhl msp mmg (va_up lin (sz - 1) kx) mlv1 mpt1 mls1 mov thr hY1) (tq_cV (n := 0) C ml_X5_108 im_X5_linearMany se_X5_linearMany ini_X5 cd_X5_linearMany ⟨by decide, by decide, by decide +kernel⟩ ⟨Nat.le_of_ble_eq_true rfl, Nat.le_of_ble_eq_true rfl⟩) ⟨tq_Pf.blind, va_recv hK hP (ci := 5) (q0 := 0) rfl rfl, tq_preF C hK hP⟩ rfl rfl hl.1 rfl (lv_room (Nat.le_of_ble_eq_true rfl)) dX5_linearPuts_24 ⟨Nat.le_of_ble_eq_true rfl, Nat.le_of_ble_eq_true rfl⟩) (fun r24 hr24 => ?_)
    obtain rfl := hr24
    refine tq_imul C dX5_linearPuts_27 ?_
    refine lv_aload_n hx hb dX5_linearPuts_28 rfl (lv_at hl 0 rfl) ?_
    refine tq_get (C0 := RX5) (T := TX5) (N := 19) (ci := 5) (k := 3) C gX5 inX5 rfl (by decide) rfl fl_X5_16 hK hP 0 rfl rfl dX5_linearPuts_29 ?_
    refine tq_imul C dX5_linearPuts_32 ?_
    refine tq_icmp_le (tgt := 87) C (by omega) (by omega) dX5_linearPuts_33 (by decide) (fun h33 => ?_) (fun h33 => ?_)
    · have hR9 := lS_end hres h33
      exact tq_vret C (mlv1, mpt1, mls1) hP hD hS (⟨hR9, hY1⟩) (Nat.le_of_ble_eq_true rfl) (Nat.le_of_ble_eq_true rfl) dX5_linearPuts_87
    · have hgo := lS_go hres (by omega) h33
      have hok := lsplit_ok hY1 (by omega)
      have hmm := lsplit_many (v := mlv1) (p := mpt1)
      refine lv_aload_n hx hb dX5_linearPuts_36 rfl (lv_at hl 0 rfl) ?_
      refine lv_dup hx hb dX5_linearPuts_37 rfl ?_
      refine tq_get (C0 := RX5) (T := TX5) (N := 19) (ci := 5) (k := 15) C gX5 inX5 rfl (by decide) rfl fl_X5_105 hK hP 0 rfl rfl dX5_linearPuts_38 ?_
      refine lv_iconst (v := nI 1) hx hb dX5_linearPuts_41 (by decide) ?_
      refine tq_iadd C dX5_linearPuts_42 ?_
      refine tq_put (v := .int (nI (mpt1 + 1))) (C0 := RX5) (T := TX5) (N := 19) (ci := 5) (k := 15) (ty := .int) C gX5 inX5 tyX5_ok nmX5 rfl (by decide) rfl fl_X5_105 rfl (by decide +kernel) hK hP hD hS 0 rfl rfl rfl (Nat.le_of_ble_eq_true rfl) dX5_linearPuts_43 (fun H locs hP hD hS => ?_)
      have hP : va_P D vwCl (wM cy bb sto vas sz cap low hig dpt glo ext mdb mhl msp mmg (va_up lin (sz - 1) kx) mlv1 (mpt1 + 1) mls1 mov thr) H := hP
      have hD : va_D A (wM cy bb sto vas sz cap low hig dpt glo ext mdb mhl msp mmg (va_up lin (sz - 1) kx) mlv1 (mpt1 + 1) mls1 mov thr) := hD
      refine lv_aload_n hx hb dX5_linearPuts_46 rfl (lv_at hl 0 rfl) ?_
      refine lv_dup hx hb dX5_linearPuts_47 rfl ?_
      refine tq_get (C0 := RX5) (T := TX5) (N := 19) (ci := 5) (k := 16) C gX5 inX5 rfl (by decide) rfl fl_X5_112 hK hP 0 rfl rfl dX5_linearPuts_48 ?_
      refine lv_iconst (v := nI 1) hx hb dX5_linearPuts_51 (by decide) ?_
      refine lv_iadd hx hb dX5_linearPuts_52 ?_
      refine tq_put (v := .int (mls1 + nI 1)) (C0 := RX5) (T := TX5) (N := 19) (ci := 5) (k := 16) (ty := .int) C gX5 inX5 tyX5_ok nmX5 rfl (by decide) rfl fl_X5_112 rfl (by decide +kernel) hK hP hD hS 0 rfl rfl rfl (Nat.le_of_ble_eq_true rfl) dX5_linearPuts_53 (fun H locs hP hD hS => ?_)
      have hP : va_P D vwCl (wM cy bb sto vas sz cap low hig dpt glo ext mdb mhl msp mmg (va_up lin (sz - 1) kx) mlv1 (mpt1 + 1) (mls1 + nI 1) mov thr) H := hP
      have hD : va_D A (wM cy bb sto vas sz cap low hig dpt glo ext mdb mhl msp mmg (va_up lin (sz - 1) kx) mlv1 (mpt1 + 1) (mls1 + nI 1) mov thr) := hD
      refine lv_aload_n hx hb dX5_linearPuts_56 rfl (lv_at hl 0 rfl) ?_
      refine tq_get (C0 := RX5) (T := TX5) (N := 19) (ci := 5) (k := 15) C gX5 inX5 rfl (by decide) rfl fl_X5_105 hK hP 0 rfl rfl dX5_linearPuts_57 ?_
      refine lv_iconst (v := nI 1) hx hb dX5_linearPuts_60 (by decide) ?_
      refine lv_aload_n hx hb dX5_linearPuts_61 rfl (lv_at hl 0 rfl) ?_
      refine tq_get (C0 := RX5) (T := TX5) (N := 19) (ci := 5) (k := 14) C gX5 inX5 rfl (by decide) rfl fl_X5_102 hK hP 0 rfl rfl dX5_linearPuts_62 ?_
      refine tq_ishl C (by omega) (by omega) dX5_linearPuts_65 ?_
      refine tq_top (y := nI (2 ^ mlv1)) (by rw [Nat.one_mul]) ?_
      refine tq_icmp_ne (tgt := 12) C (by omega) (by omega) dX5_linearPuts_66 (by decide) (fun h66 => ?_) (fun h66 => ?_)
      · have hls : lsplit (mlv1, mpt1) = (mlv1, mpt1 + 1) := if_neg h66
        unfold lstep at hgo
        dsimp only at hgo
        rw [hls] at hgo hok hmm
        dsimp only at hgo hok hmm
        exact ih12 (k - 1) mlv1 (mpt1 + 1) (mls1 + nI 1) (by omega) (by omega) (hok) (hgo) _ _ hP hD hS _ (lv_sub hl [0, 1] rfl)
      · have hls : lsplit (mlv1, mpt1) = (mlv1 + 1, 0) := if_pos h66
        unfold lstep at hgo
        dsimp only at hgo
        rw [hls] at hgo hok hmm
        dsimp only at hgo hok hmm
        refine lv_aload_n hx hb dX5_linearPuts_69 rfl (lv_at hl 0 rfl) ?_
        refine lv_dup hx hb dX5_linearPuts_70 rfl ?_
        refine tq_get (C0 := RX5) (T := TX5) (N := 19) (ci := 5) (k := 14) C gX5 inX5 rfl (by decide) rfl fl_X5_102 hK hP 0 rfl rfl dX5_linearPuts_71 ?_
        refine lv_iconst (v := nI 1) hx hb dX5_linearPuts_74 (by decide) ?_
        refine tq_iadd C dX5_linearPuts_75 ?_
        refine tq_put (v := .int (nI (mlv1 + 1))) (C0 := RX5) (T := TX5) (N := 19) (ci := 5) (k := 14) (ty := .int) C gX5 inX5 tyX5_ok nmX5 rfl (by decide) rfl fl_X5_102 rfl (by decide +kernel) hK hP hD hS 0 rfl rfl rfl (Nat.le_of_ble_eq_true rfl) dX5_linearPuts_76 (fun H locs hP hD hS => ?_)
        have hP : va_P D vwCl (wM cy bb sto vas sz cap low hig dpt glo ext mdb mhl msp mmg (va_up lin (sz - 1) kx) (mlv1 + 1) (mpt1 + 1) (mls1 + nI 1) mov thr) H := hP
        have hD : va_D A (wM cy bb sto vas sz cap low hig dpt glo ext mdb mhl msp mmg (va_up lin (sz - 1) kx) (mlv1 + 1) (mpt1 + 1) (mls1 + nI 1) mov thr) := hD
        refine lv_aload_n hx hb dX5_linearPuts_79 rfl (lv_at hl 0 rfl) ?_
        refine lv_iconst (v := nI 0) hx hb dX5_linearPuts_80 (by decide) ?_
        refine tq_put (v := .int (nI (0))) (C0 := RX5) (T := TX5) (N := 19) (ci := 5) (k := 15) (ty := .int) C gX5 inX5 tyX5_ok nmX5 rfl (by decide) rfl fl_X5_105 rfl (by decide +kernel) hK hP hD hS 0 rfl rfl rfl (Nat.le_of_ble_eq_true rfl) dX5_linearPuts_81 (fun H locs hP hD hS => ?_)
        have hP : va_P D vwCl (wM cy bb sto vas sz cap low hig dpt glo ext mdb mhl msp mmg (va_up lin (sz - 1) kx) (mlv1 + 1) 0 (mls1 + nI 1) mov thr) H := hP
        have hD : va_D A (wM cy bb sto vas sz cap low hig dpt glo ext mdb mhl msp mmg (va_up lin (sz - 1) kx) (mlv1 + 1) 0 (mls1 + nI 1) mov thr) := hD
        refine lv_goto (tgt := 12) hx hb dX5_linearPuts_84 (by decide) ?_
        exact ih12 (k - 1) (mlv1 + 1) 0 (mls1 + nI 1) (by omega) (by omega) (hok) (hgo) _ _ hP hD hS _ (lv_sub hl [0, 1] rfl)
set_option maxHeartbeats 4000000 in
set_option maxRecDepth 100000 in
theorem c_X5_linearShrinks (l : Launch) (D : va_G) (cy : ClassId) (bb : Nat → Nat) (sto : Nat → Nat) (vas : Nat → Nat) (sz : Nat) (cap : Nat) (low : Nat) (hig : Nat) (dpt : Nat → Nat) (glo : Nat) (ext : Nat → Nat) (mdb : Int32) (mhl : Int32) (msp : Int32) (mmg : Int32) (lin : Nat → Nat) (mlv : Nat) (mpt : Nat) (mls : Int32) (mov : Nat → Nat) (thr : Nat)  (L : List Nat) (hL : AL lin L) (hsz : sz = L.length) (hsz2 : sz ≤ 120) (hbl : ∀ i, lin i < 65536) (hbm : ∀ i, mov i < 65536) (hY : YOK mlv mpt) (hcp1 : 1 ≤ cap) (hcp2 : cap ≤ 5) (hlo : low ≤ 50) : tq_V (S := (Nat → Nat) × (Nat → Nat) × Nat × Nat × Int32) l yX5_linearShrinks cX5_linearShrinks 6 2 43 0 0 D cy (wM cy bb sto vas sz cap low hig dpt glo ext mdb mhl msp mmg lin mlv mpt mls mov thr) [.ref (bb 0)] (fun u => AL u.1 (lB cap low sz 241 (L, mlv, mpt, mls)).1 ∧ (lB cap low sz 241 (L, mlv, mpt, mls)).1.length = L.length ∧ (u.2.2.1, u.2.2.2.1, u.2.2.2.2) = (lB cap low sz 241 (L, mlv, mpt, mls)).2 ∧ YOK u.2.2.1 u.2.2.2.1 ∧ (∀ i, u.1 i < 65536) ∧ ∀ i, u.2.1 i < 65536) (fun u => (wM cy bb sto vas sz cap low hig dpt glo ext mdb mhl msp mmg u.1 u.2.2.1 u.2.2.2.1 u.2.2.2.2 u.2.1 thr)) := by
  refine tq_V.mk (by decide) (Nat.le_of_ble_eq_true rfl) ?_
  intro p e s m args below meth c A C hin hP hK hD hS hA ls hl
  obtain ⟨hx, hb, hml, hown, hrt, hlk, hT⟩ := id C
  have hl : lv_has ls 6 [(0, .ref (bb 0))] := hl
  suffices hlp0 : ∀ (n0 : Nat) (k : Nat) (L1 : List Nat) (lin1 : Nat → Nat) (mov1 : Nat → Nat) (mlv1 : Nat) (mpt1 : Nat) (mls1 : Int32), k < n0 → (2 ^ mlv1 + mpt1 ≤ k) → (AL lin1 L1) → (L1.length = L.length) → (YOK mlv1 mpt1) → (∀ i, lin1 i < 65536) → (∀ i, mov1 i < 65536) → (lB cap low sz k (L1, mlv1, mpt1, mls1) = lB cap low sz 241 (L, mlv, mpt, mls)) → ∀ (H : Heap) (locs : List Loc), va_P D vwCl (wM cy bb sto vas sz cap low hig dpt glo ext mdb mhl msp mmg lin1 mlv1 mpt1 mls1 mov1 thr) H → va_D A (wM cy bb sto vas sz cap low hig dpt glo ext mdb mhl msp mmg lin1 mlv1 mpt1 mls1 mov1 thr) → va_S A s.heap H locs → ∀ ls : Array Slot, lv_has ls 6 [(0, .ref (bb 0))] → W p l e ({ frames := 2, cells := 0, slots := 0, locals := 43 } : Room) s m args below meth c H locs 0 0 (MQ below (va_Qv (S := (Nat → Nat) × (Nat → Nat) × Nat × Nat × Int32) (fun u => AL u.1 (lB cap low sz 241 (L, mlv, mpt, mls)).1 ∧ (lB cap low sz 241 (L, mlv, mpt, mls)).1.length = L.length ∧ (u.2.2.1, u.2.2.2.1, u.2.2.2.2) = (lB cap low sz 241 (L, mlv, mpt, mls)).2 ∧ YOK u.2.2.1 u.2.2.2.1 ∧ (∀ i, u.1 i < 65536) ∧ ∀ i, u.2.1 i < 65536) (tq_B D A (fun u => (wM cy bb sto vas sz cap low hig dpt glo ext mdb mhl msp mmg u.1 u.2.2.1 u.2.2.2.1 u.2.2.2.2 u.2.1 thr))) A) args s 0 0 A) (F0 m 0 ls []) from
    hlp0 242 241 L lin mov mlv mpt mls (by omega) (by have := hY.2; omega) (hL) (rfl) (hY) (hbl) (hbm) (rfl) _ _ hP hD hS _ (lv_sub hl [0] rfl)
  intro n0
  induction n0 with
  | zero => intro k L1 lin1 mov1 mlv1 mpt1 mls1 hf; exact absurd hf (Nat.not_lt_zero _)
  | succ n0 ih0 =>
    intro k L1 lin1 mov1 mlv1 mpt1 mls1 hf0 hk hL1 hle hY1 hbl1 hbm1 hres H locs hP hD hS ls hl
    have hlv91 := hY1.lev
    have hp71 := p2_le (c := 7) hlv91
    have hpt1 := hY1.1
    have hmn1 := hY1.2
    have hf1 := fa_le (m := 2 ^ mlv1 + mpt1) (hi := low) (by omega) (by omega) hcp2
    refine lv_aload_n hx hb dX5_linearShrinks_0 rfl (lv_at hl 0 rfl) ?_
    refine tq_callF (va_runV C.fix (As := []) (rest := []) (c_X5_linearMany l D cy bb sto vas sz cap low hig dpt glo ext mdb mhl msp mmg lin1 mlv1 mpt1 mls1 mov1 thr hY1) (tq_cV (n := 0) C ml_X5_108 im_X5_linearMany se_X5_linearMany ini_X5 cd_X5_linearMany ⟨by decide, by decide, by decide +kernel⟩ ⟨Nat.le_of_ble_eq_true rfl, Nat.le_of_ble_eq_true rfl⟩) ⟨tq_Pf.blind, va_recv hK hP (ci := 5) (q0 := 0) rfl rfl, tq_preF C hK hP⟩ rfl rfl hl.1 rfl (lv_room (Nat.le_of_ble_eq_true rfl)) dX5_linearShrinks_1 ⟨Nat.le_of_ble_eq_true rfl, Nat.le_of_ble_eq_true rfl⟩) (fun r1 hr1 => ?_)
    obtain rfl := hr1
    refine lv_iconst (v := nI 1) hx hb dX5_linearShrinks_4 (by decide) ?_
    refine tq_icmp_le (tgt := 186) C (by omega) (by omega) dX5_linearShrinks_5 (by decide) (fun h5 => ?_) (fun h5 => ?_)
    · have hR9 := lB_end hres (Or.inl h5)
      exact tq_vret C (lin1, mov1, mlv1, mpt1, mls1) hP hD hS (⟨by rw [← hR9]; exact hL1, by rw [← hR9]; exact hle, by rw [← hR9], hY1, hbl1, hbm1⟩) (Nat.le_of_ble_eq_true rfl) (Nat.le_of_ble_eq_true rfl) dX5_linearShrinks_186
    · refine lv_bipush (v := nI 100) hx hb dX5_linearShrinks_8 (by decide) ?_
      refine lv_aload_n hx hb dX5_linearShrinks_10 rfl (lv_at hl 0 rfl) ?_
      refine tq_get (C0 := RX5) (T := TX5) (N := 19) (ci := 5) (k := 2) C gX5 inX5 rfl (by decide) rfl fl_X5_51 hK hP 0 rfl rfl dX5_linearShrinks_11 ?_
      refine tq_imul C dX5_linearShrinks_14 ?_
      refine lv_aload_n hx hb dX5_linearShrinks_15 rfl (lv_at hl 0 rfl) ?_
      refine tq_get (C0 := RX5) (T := TX5) (N := 19) (ci := 5) (k := 4) C gX5 inX5 rfl (by decide) rfl fl_X5_20 hK hP 0 rfl rfl dX5_linearShrinks_16 ?_
      refine lv_aload_n hx hb dX5_linearShrinks_19 rfl (lv_at hl 0 rfl) ?_
      refine tq_callF (va_runV C.fix (As := []) (rest := [.int (nI (low)), .int (nI (100 * sz))]) (c_X5_linearMany l D cy bb sto vas sz cap low hig dpt glo ext mdb mhl msp mmg lin1 mlv1 mpt1 mls1 mov1 thr hY1) (tq_cV (n := 0) C ml_X5_108 im_X5_linearMany se_X5_linearMany ini_X5 cd_X5_linearMany ⟨by decide, by decide, by decide +kernel⟩ ⟨Nat.le_of_ble_eq_true rfl, Nat.le_of_ble_eq_true rfl⟩) ⟨tq_Pf.blind, va_recv hK hP (ci := 5) (q0 := 0) rfl rfl, tq_preF C hK hP⟩ rfl rfl hl.1 rfl (lv_room (Nat.le_of_ble_eq_true rfl)) dX5_linearShrinks_20 ⟨Nat.le_of_ble_eq_true rfl, Nat.le_of_ble_eq_true rfl⟩) (fun r20 hr20 => ?_)
      obtain rfl := hr20
      refine tq_imul C dX5_linearShrinks_23 ?_
      refine lv_aload_n hx hb dX5_linearShrinks_24 rfl (lv_at hl 0 rfl) ?_
      refine tq_get (C0 := RX5) (T := TX5) (N := 19) (ci := 5) (k := 3) C gX5 inX5 rfl (by decide) rfl fl_X5_16 hK hP 0 rfl rfl dX5_linearShrinks_25 ?_
      refine tq_imul C dX5_linearShrinks_28 ?_
      refine tq_icmp_ge (tgt := 186) C (by omega) (by omega) dX5_linearShrinks_29 (by decide) (fun h29 => ?_) (fun h29 => ?_)
      · have hR9 := lB_end hres (Or.inr h29)
        exact tq_vret C (lin1, mov1, mlv1, mpt1, mls1) hP hD hS (⟨by rw [← hR9]; exact hL1, by rw [← hR9]; exact hle, by rw [← hR9], hY1, hbl1, hbm1⟩) (Nat.le_of_ble_eq_true rfl) (Nat.le_of_ble_eq_true rfl) dX5_linearShrinks_186
      · have hgo := lB_go hres (by omega) h5 h29
        have hok := lback_ok hY1 h5
        have hmm := (lback_split hY1 h5).2.2
        unfold bstep at hgo
        dsimp only at hgo
        refine lv_aload_n hx hb dX5_linearShrinks_32 rfl (lv_at hl 0 rfl) ?_
        refine tq_callF (va_runV C.fix (As := []) (rest := []) (c_X5_linearMany l D cy bb sto vas sz cap low hig dpt glo ext mdb mhl msp mmg lin1 mlv1 mpt1 mls1 mov1 thr hY1) (tq_cV (n := 0) C ml_X5_108 im_X5_linearMany se_X5_linearMany ini_X5 cd_X5_linearMany ⟨by decide, by decide, by decide +kernel⟩ ⟨Nat.le_of_ble_eq_true rfl, Nat.le_of_ble_eq_true rfl⟩) ⟨tq_Pf.blind, va_recv hK hP (ci := 5) (q0 := 0) rfl rfl, tq_preF C hK hP⟩ rfl rfl hl.1 rfl (lv_room (Nat.le_of_ble_eq_true rfl)) dX5_linearShrinks_33 ⟨Nat.le_of_ble_eq_true rfl, Nat.le_of_ble_eq_true rfl⟩) (fun r33 hr33 => ?_)
        obtain rfl := hr33
        refine lv_iconst (v := nI 1) hx hb dX5_linearShrinks_36 (by decide) ?_
        refine tq_isub C (by omega) dX5_linearShrinks_37 ?_
        refine lv_istore_n (lv' := [(1, .int (nI ((2 ^ mlv1 + mpt1) - 1))), (0, .ref (bb 0))]) hx hb dX5_linearShrinks_38 rfl hl (by decide) rfl (fun ls hl => ?_)
        refine lv_iconst (v := nI 0) hx hb dX5_linearShrinks_39 (by decide) ?_
        refine lv_istore_n (lv' := [(2, .int (nI (0))), (1, .int (nI ((2 ^ mlv1 + mpt1) - 1))), (0, .ref (bb 0))]) hx hb dX5_linearShrinks_40 rfl hl (by decide) rfl (fun ls hl => ?_)
        refine lv_iconst (v := nI 0) hx hb dX5_linearShrinks_41 (by decide) ?_
        refine lv_istore_n (lv' := [(3, .int (nI (0))), (2, .int (nI (0))), (1, .int (nI ((2 ^ mlv1 + mpt1) - 1))), (0, .ref (bb 0))]) hx hb dX5_linearShrinks_42 rfl hl (by decide) rfl (fun ls hl => ?_)
        refine lv_iconst (v := nI 0) hx hb dX5_linearShrinks_43 (by decide) ?_
        refine lv_istore (lv' := [(4, .int (nI (0))), (3, .int (nI (0))), (2, .int (nI (0))), (1, .int (nI ((2 ^ mlv1 + mpt1) - 1))), (0, .ref (bb 0))]) hx hb dX5_linearShrinks_44 hl (by decide) rfl (fun ls hl => ?_)
        suffices hlp46 : ∀ (n46 : Nat) (i : Nat) (lin2 : Nat → Nat) (mov2 : Nat → Nat), sz - i < n46 → (i ≤ sz) → (AL lin2 ((L1.take i).filter (fun q => !(linOf mlv1 mpt1 q == 2 ^ mlv1 + mpt1 - 1)))) → (AL mov2 ((L1.take i).filter (fun q => linOf mlv1 mpt1 q == 2 ^ mlv1 + mpt1 - 1))) → (∀ j, i ≤ j → lin2 j = lin1 j) → (∀ j, lin2 j < 65536) → (∀ j, mov2 j < 65536) → ∀ (H : Heap) (locs : List Loc), va_P D vwCl (wM cy bb sto vas sz cap low hig dpt glo ext mdb mhl msp mmg lin2 mlv1 mpt1 mls1 mov2 thr) H → va_D A (wM cy bb sto vas sz cap low hig dpt glo ext mdb mhl msp mmg lin2 mlv1 mpt1 mls1 mov2 thr) → va_S A s.heap H locs → ∀ ls : Array Slot, lv_has ls 6 [(0, .ref (bb 0)), (1, .int (nI ((2 ^ mlv1 + mpt1) - 1))), (2, .int (nI (((L1.take i).filter (fun q => !(linOf mlv1 mpt1 q == 2 ^ mlv1 + mpt1 - 1))).length))), (3, .int (nI (((L1.take i).filter (fun q => linOf mlv1 mpt1 q == 2 ^ mlv1 + mpt1 - 1)).length))), (4, .int (nI (i)))] → W p l e ({ frames := 2, cells := 0, slots := 0, locals := 43 } : Room) s m args below meth c H locs 0 0 (MQ below (va_Qv (S := (Nat → Nat) × (Nat → Nat) × Nat × Nat × Int32) (fun u => AL u.1 (lB cap low sz 241 (L, mlv, mpt, mls)).1 ∧ (lB cap low sz 241 (L, mlv, mpt, mls)).1.length = L.length ∧ (u.2.2.1, u.2.2.2.1, u.2.2.2.2) = (lB cap low sz 241 (L, mlv, mpt, mls)).2 ∧ YOK u.2.2.1 u.2.2.2.1 ∧ (∀ i, u.1 i < 65536) ∧ ∀ i, u.2.1 i < 65536) (tq_B D A (fun u => (wM cy bb sto vas sz cap low hig dpt glo ext mdb mhl msp mmg u.1 u.2.2.1 u.2.2.2.1 u.2.2.2.2 u.2.1 thr))) A) args s 0 0 A) (F0 m 46 ls []) from
          hlp46 (sz + 1) 0 lin1 mov1 (by omega) (by omega) (by rw [List.take_zero]; exact AL_nil) (by rw [List.take_zero]; exact AL_nil) (fun _ _ => rfl) (hbl1) (hbm1) _ _ hP hD hS _ (lv_sub hl [4, 3, 2, 1, 0] rfl)
        intro n46
        induction n46 with
        | zero => intro i lin2 mov2 hf; exact absurd hf (Nat.not_lt_zero _)
        | succ n46 ih46 =>
          intro i lin2 mov2 hf46 hi hlo2 hmo2 hhi hbl2 hbm2 H locs hP hD hS ls hl
          refine lv_iload hx hb dX5_linearShrinks_46 (lv_at hl 4 rfl) ?_
          refine lv_aload_n hx hb dX5_linearShrinks_48 rfl (lv_at hl 0 rfl) ?_
          refine tq_get (C0 := RX5) (T := TX5) (N := 19) (ci := 5) (k := 2) C gX5 inX5 rfl (by decide) rfl fl_X5_51 hK hP 0 rfl rfl dX5_linearShrinks_49 ?_
          refine tq_icmp_ge (tgt := 105) C (by omega) (by omega) dX5_linearShrinks_52 (by decide) (fun h52 => ?_) (fun h52 => ?_)
          · rw [show i = L1.length from by omega, List.take_length] at hlo2 hmo2 hl
            have hfl2 := flen2 (E := L1) (p := (fun q => linOf mlv1 mpt1 q == 2 ^ mlv1 + mpt1 - 1))
            refine lv_iconst (v := nI 0) hx hb dX5_linearShrinks_105 (by decide) ?_
            refine lv_istore (lv' := [(4, .int (nI (0))), (0, .ref (bb 0)), (1, .int (nI ((2 ^ mlv1 + mpt1) - 1))), (2, .int (nI ((L1.filter (fun q => !(linOf mlv1 mpt1 q == 2 ^ mlv1 + mpt1 - 1))).length))), (3, .int (nI ((L1.filter (fun q => linOf mlv1 mpt1 q == 2 ^ mlv1 + mpt1 - 1)).length)))]) hx hb dX5_linearShrinks_106 hl (by decide) rfl (fun ls hl => ?_)
            suffices hlp108 : ∀ (n108 : Nat) (j : Nat) (lin3 : Nat → Nat), (L1.filter (fun q => linOf mlv1 mpt1 q == 2 ^ mlv1 + mpt1 - 1)).length - j < n108 → (j ≤ (L1.filter (fun q => linOf mlv1 mpt1 q == 2 ^ mlv1 + mpt1 - 1)).length) → (AL lin3 (L1.filter (fun q => !(linOf mlv1 mpt1 q == 2 ^ mlv1 + mpt1 - 1)) ++ (L1.filter (fun q => linOf mlv1 mpt1 q == 2 ^ mlv1 + mpt1 - 1)).take j)) → (∀ j, lin3 j < 65536) → ∀ (H : Heap) (locs : List Loc), va_P D vwCl (wM cy bb sto vas sz cap low hig dpt glo ext mdb mhl msp mmg lin3 mlv1 mpt1 mls1 mov2 thr) H → va_D A (wM cy bb sto vas sz cap low hig dpt glo ext mdb mhl msp mmg lin3 mlv1 mpt1 mls1 mov2 thr) → va_S A s.heap H locs → ∀ ls : Array Slot, lv_has ls 6 [(0, .ref (bb 0)), (1, .int (nI ((2 ^ mlv1 + mpt1) - 1))), (2, .int (nI ((L1.filter (fun q => !(linOf mlv1 mpt1 q == 2 ^ mlv1 + mpt1 - 1))).length))), (3, .int (nI ((L1.filter (fun q => linOf mlv1 mpt1 q == 2 ^ mlv1 + mpt1 - 1)).length))), (4, .int (nI (j)))] → W p l e ({ frames := 2, cells := 0, slots := 0, locals := 43 } : Room) s m args below meth c H locs 0 0 (MQ below (va_Qv (S := (Nat → Nat) × (Nat → Nat) × Nat × Nat × Int32) (fun u => AL u.1 (lB cap low sz 241 (L, mlv, mpt, mls)).1 ∧ (lB cap low sz 241 (L, mlv, mpt, mls)).1.length = L.length ∧ (u.2.2.1, u.2.2.2.1, u.2.2.2.2) = (lB cap low sz 241 (L, mlv, mpt, mls)).2 ∧ YOK u.2.2.1 u.2.2.2.1 ∧ (∀ i, u.1 i < 65536) ∧ ∀ i, u.2.1 i < 65536) (tq_B D A (fun u => (wM cy bb sto vas sz cap low hig dpt glo ext mdb mhl msp mmg u.1 u.2.2.1 u.2.2.2.1 u.2.2.2.2 u.2.1 thr))) A) args s 0 0 A) (F0 m 108 ls []) from
              hlp108 ((L1.filter (fun q => linOf mlv1 mpt1 q == 2 ^ mlv1 + mpt1 - 1)).length + 1) 0 lin2 (by omega) (by omega) (by rw [List.take_zero, List.append_nil]; exact hlo2) (hbl2) _ _ hP hD hS _ (lv_sub hl [1, 2, 3, 4, 0] rfl)
            intro n108
            induction n108 with
            | zero => intro j lin3 hf; exact absurd hf (Nat.not_lt_zero _)
            | succ n108 ih108 =>
              intro j lin3 hf108 hj hA3 hbl3 H locs hP hD hS ls hl
              refine lv_iload hx hb dX5_linearShrinks_108 (lv_at hl 4 rfl) ?_
              refine lv_iload_n hx hb dX5_linearShrinks_110 rfl (lv_at hl 3 rfl) ?_
              refine tq_icmp_ge (tgt := 136) C (by omega) (by omega) dX5_linearShrinks_111 (by decide) (fun h111 => ?_) (fun h111 => ?_)
              · have hA4 : AL lin3 (mvL L1 mlv1 mpt1 (2 ^ mlv1 + mpt1 - 1)) := by
                  rw [show j = (L1.filter (fun q => linOf mlv1 mpt1 q == 2 ^ mlv1 + mpt1 - 1)).length from by omega, List.take_length] at hA3; exact hA3
                refine lv_aload_n hx hb dX5_linearShrinks_136 rfl (lv_at hl 0 rfl) ?_
                refine tq_get (C0 := RX5) (T := TX5) (N := 19) (ci := 5) (k := 15) C gX5 inX5 rfl (by decide) rfl fl_X5_105 hK hP 0 rfl rfl dX5_linearShrinks_137 ?_
                refine tq_if_ne (tgt := 163) C (by omega) dX5_linearShrinks_140 (by decide) (fun h140 => ?_) (fun h140 => ?_)
                · have hls : lback (mlv1, mpt1) = (mlv1, mpt1 - 1) := if_neg h140
                  rw [hls] at hgo hok hmm
                  dsimp only at hgo hok hmm
                  refine lv_aload_n hx hb dX5_linearShrinks_163 rfl (lv_at hl 0 rfl) ?_
                  refine lv_dup hx hb dX5_linearShrinks_164 rfl ?_
                  refine tq_get (C0 := RX5) (T := TX5) (N := 19) (ci := 5) (k := 15) C gX5 inX5 rfl (by decide) rfl fl_X5_105 hK hP 0 rfl rfl dX5_linearShrinks_165 ?_
                  refine lv_iconst (v := nI 1) hx hb dX5_linearShrinks_168 (by decide) ?_
                  refine tq_isub C (by omega) dX5_linearShrinks_169 ?_
                  refine tq_put (v := .int (nI (mpt1 - 1))) (C0 := RX5) (T := TX5) (N := 19) (ci := 5) (k := 15) (ty := .int) C gX5 inX5 tyX5_ok nmX5 rfl (by decide) rfl fl_X5_105 rfl (by decide +kernel) hK hP hD hS 0 rfl rfl rfl (Nat.le_of_ble_eq_true rfl) dX5_linearShrinks_170 (fun H locs hP hD hS => ?_)
                  have hP : va_P D vwCl (wM cy bb sto vas sz cap low hig dpt glo ext mdb mhl msp mmg lin3 mlv1 (mpt1 - 1) mls1 mov2 thr) H := hP
                  have hD : va_D A (wM cy bb sto vas sz cap low hig dpt glo ext mdb mhl msp mmg lin3 mlv1 (mpt1 - 1) mls1 mov2 thr) := hD
                  refine lv_aload_n hx hb dX5_linearShrinks_173 rfl (lv_at hl 0 rfl) ?_
                  refine lv_dup hx hb dX5_linearShrinks_174 rfl ?_
                  refine tq_get (C0 := RX5) (T := TX5) (N := 19) (ci := 5) (k := 16) C gX5 inX5 rfl (by decide) rfl fl_X5_112 hK hP 0 rfl rfl dX5_linearShrinks_175 ?_
                  refine lv_iconst (v := nI 1) hx hb dX5_linearShrinks_178 (by decide) ?_
                  refine lv_isub hx hb dX5_linearShrinks_179 ?_
                  refine tq_put (v := .int (mls1 - nI 1)) (C0 := RX5) (T := TX5) (N := 19) (ci := 5) (k := 16) (ty := .int) C gX5 inX5 tyX5_ok nmX5 rfl (by decide) rfl fl_X5_112 rfl (by decide +kernel) hK hP hD hS 0 rfl rfl rfl (Nat.le_of_ble_eq_true rfl) dX5_linearShrinks_180 (fun H locs hP hD hS => ?_)
                  have hP : va_P D vwCl (wM cy bb sto vas sz cap low hig dpt glo ext mdb mhl msp mmg lin3 mlv1 (mpt1 - 1) (mls1 - nI 1) mov2 thr) H := hP
                  have hD : va_D A (wM cy bb sto vas sz cap low hig dpt glo ext mdb mhl msp mmg lin3 mlv1 (mpt1 - 1) (mls1 - nI 1) mov2 thr) := hD
                  refine lv_goto (tgt := 0) hx hb dX5_linearShrinks_183 (by decide) ?_
                  exact ih0 (k - 1) (mvL L1 mlv1 mpt1 (2 ^ mlv1 + mpt1 - 1)) lin3 mov2 mlv1 (mpt1 - 1) (mls1 - nI 1) (by omega) (by omega) (hA4) (by rw [mvL_len]; exact hle) (hok) (hbl3) (hbm2) (hgo) _ _ hP hD hS _ (lv_sub hl [0] rfl)
                · have hls : lback (mlv1, mpt1) = (mlv1 - 1, 2 ^ (mlv1 - 1) - 1) := if_pos h140
                  rw [hls] at hgo hok hmm
                  dsimp only at hgo hok hmm
                  have hl11 : 1 ≤ mlv1 := by
                    rcases Nat.eq_zero_or_pos mlv1 with q | q
                    · rw [q, h140] at h5; simp at h5
                    · exact q
                  have hp61 := p2_le (c := 7) (b := mlv1 - 1) (by omega)
                  have hp60 := p2_pos (mlv1 - 1)
                  refine lv_aload_n hx hb dX5_linearShrinks_143 rfl (lv_at hl 0 rfl) ?_
                  refine lv_dup hx hb dX5_linearShrinks_144 rfl ?_
                  refine tq_get (C0 := RX5) (T := TX5) (N := 19) (ci := 5) (k := 14) C gX5 inX5 rfl (by decide) rfl fl_X5_102 hK hP 0 rfl rfl dX5_linearShrinks_145 ?_
                  refine lv_iconst (v := nI 1) hx hb dX5_linearShrinks_148 (by decide) ?_
                  refine tq_isub C (by omega) dX5_linearShrinks_149 ?_
                  refine tq_put (v := .int (nI (mlv1 - 1))) (C0 := RX5) (T := TX5) (N := 19) (ci := 5) (k := 14) (ty := .int) C gX5 inX5 tyX5_ok nmX5 rfl (by decide) rfl fl_X5_102 rfl (by decide +kernel) hK hP hD hS 0 rfl rfl rfl (Nat.le_of_ble_eq_true rfl) dX5_linearShrinks_150 (fun H locs hP hD hS => ?_)
                  have hP : va_P D vwCl (wM cy bb sto vas sz cap low hig dpt glo ext mdb mhl msp mmg lin3 (mlv1 - 1) mpt1 mls1 mov2 thr) H := hP
                  have hD : va_D A (wM cy bb sto vas sz cap low hig dpt glo ext mdb mhl msp mmg lin3 (mlv1 - 1) mpt1 mls1 mov2 thr) := hD
                  refine lv_aload_n hx hb dX5_linearShrinks_153 rfl (lv_at hl 0 rfl) ?_
                  refine lv_iconst (v := nI 1) hx hb dX5_linearShrinks_154 (by decide) ?_
                  refine lv_aload_n hx hb dX5_linearShrinks_155 rfl (lv_at hl 0 rfl) ?_
                  refine tq_get (C0 := RX5) (T := TX5) (N := 19) (ci := 5) (k := 14) C gX5 inX5 rfl (by decide) rfl fl_X5_102 hK hP 0 rfl rfl dX5_linearShrinks_156 ?_
                  refine tq_ishl C (by omega) (by omega) dX5_linearShrinks_159 ?_
                  refine tq_top (y := nI (2 ^ (mlv1 - 1))) (by rw [Nat.one_mul]) ?_
                  refine tq_put (v := .int (nI (2 ^ (mlv1 - 1)))) (C0 := RX5) (T := TX5) (N := 19) (ci := 5) (k := 15) (ty := .int) C gX5 inX5 tyX5_ok nmX5 rfl (by decide) rfl fl_X5_105 rfl (by decide +kernel) hK hP hD hS 0 rfl rfl rfl (Nat.le_of_ble_eq_true rfl) dX5_linearShrinks_160 (fun H locs hP hD hS => ?_)
                  have hP : va_P D vwCl (wM cy bb sto vas sz cap low hig dpt glo ext mdb mhl msp mmg lin3 (mlv1 - 1) (2 ^ (mlv1 - 1)) mls1 mov2 thr) H := hP
                  have hD : va_D A (wM cy bb sto vas sz cap low hig dpt glo ext mdb mhl msp mmg lin3 (mlv1 - 1) (2 ^ (mlv1 - 1)) mls1 mov2 thr) := hD
                  refine lv_aload_n hx hb dX5_linearShrinks_163 rfl (lv_at hl 0 rfl) ?_
                  refine lv_dup hx hb dX5_linearShrinks_164 rfl ?_
                  refine tq_get (C0 := RX5) (T := TX5) (N := 19) (ci := 5) (k := 15) C gX5 inX5 rfl (by decide) rfl fl_X5_105 hK hP 0 rfl rfl dX5_linearShrinks_165 ?_
                  refine lv_iconst (v := nI 1) hx hb dX5_linearShrinks_168 (by decide) ?_
                  refine tq_isub C (by omega) dX5_linearShrinks_169 ?_
                  refine tq_put (v := .int (nI ((2 ^ (mlv1 - 1)) - 1))) (C0 := RX5) (T := TX5) (N := 19) (ci := 5) (k := 15) (ty := .int) C gX5 inX5 tyX5_ok nmX5 rfl (by decide) rfl fl_X5_105 rfl (by decide +kernel) hK hP hD hS 0 rfl rfl rfl (Nat.le_of_ble_eq_true rfl) dX5_linearShrinks_170 (fun H locs hP hD hS => ?_)
                  have hP : va_P D vwCl (wM cy bb sto vas sz cap low hig dpt glo ext mdb mhl msp mmg lin3 (mlv1 - 1) ((2 ^ (mlv1 - 1)) - 1) mls1 mov2 thr) H := hP
                  have hD : va_D A (wM cy bb sto vas sz cap low hig dpt glo ext mdb mhl msp mmg lin3 (mlv1 - 1) ((2 ^ (mlv1 - 1)) - 1) mls1 mov2 thr) := hD
                  refine lv_aload_n hx hb dX5_linearShrinks_173 rfl (lv_at hl 0 rfl) ?_
                  refine lv_dup hx hb dX5_linearShrinks_174 rfl ?_
                  refine tq_get (C0 := RX5) (T := TX5) (N := 19) (ci := 5) (k := 16) C gX5 inX5 rfl (by decide) rfl fl_X5_112 hK hP 0 rfl rfl dX5_linearShrinks_175 ?_
                  refine lv_iconst (v := nI 1) hx hb dX5_linearShrinks_178 (by decide) ?_
                  refine lv_isub hx hb dX5_linearShrinks_179 ?_
                  refine tq_put (v := .int (mls1 - nI 1)) (C0 := RX5) (T := TX5) (N := 19) (ci := 5) (k := 16) (ty := .int) C gX5 inX5 tyX5_ok nmX5 rfl (by decide) rfl fl_X5_112 rfl (by decide +kernel) hK hP hD hS 0 rfl rfl rfl (Nat.le_of_ble_eq_true rfl) dX5_linearShrinks_180 (fun H locs hP hD hS => ?_)
                  have hP : va_P D vwCl (wM cy bb sto vas sz cap low hig dpt glo ext mdb mhl msp mmg lin3 (mlv1 - 1) ((2 ^ (mlv1 - 1)) - 1) (mls1 - nI 1) mov2 thr) H := hP
                  have hD : va_D A (wM cy bb sto vas sz cap low hig dpt glo ext mdb mhl msp mmg lin3 (mlv1 - 1) ((2 ^ (mlv1 - 1)) - 1) (mls1 - nI 1) mov2 thr) := hD
                  refine lv_goto (tgt := 0) hx hb dX5_linearShrinks_183 (by decide) ?_
                  exact ih0 (k - 1) (mvL L1 mlv1 mpt1 (2 ^ mlv1 + mpt1 - 1)) lin3 mov2 (mlv1 - 1) ((2 ^ (mlv1 - 1)) - 1) (mls1 - nI 1) (by omega) (by omega) (hA4) (by rw [mvL_len]; exact hle) (hok) (hbl3) (hbm2) (hgo) _ _ hP hD hS _ (lv_sub hl [0] rfl)
              · have hj2 : j < (L1.filter (fun q => linOf mlv1 mpt1 q == 2 ^ mlv1 + mpt1 - 1)).length := by omega
                refine lv_aload_n hx hb dX5_linearShrinks_114 rfl (lv_at hl 0 rfl) ?_
                refine tq_get (C0 := RX5) (T := TX5) (N := 19) (ci := 5) (k := 13) C gX5 inX5 rfl (by decide) rfl fl_X5_32 hK hP 0 rfl rfl dX5_linearShrinks_115 ?_
                refine lv_iload_n hx hb dX5_linearShrinks_118 rfl (lv_at hl 2 rfl) ?_
                refine lv_iload hx hb dX5_linearShrinks_119 (lv_at hl 4 rfl) ?_
                refine tq_iadd C dX5_linearShrinks_121 ?_
                refine lv_aload_n hx hb dX5_linearShrinks_122 rfl (lv_at hl 0 rfl) ?_
                refine tq_get (C0 := RX5) (T := TX5) (N := 19) (ci := 5) (k := 17) C gX5 inX5 rfl (by decide) rfl fl_X5_35 hK hP 0 rfl rfl dX5_linearShrinks_123 ?_
                refine lv_iload hx hb dX5_linearShrinks_126 (lv_at hl 4 rfl) ?_
                refine tq_iald (n := 120) (i := j) (f := mov2) C hK hP 6 0 rfl rfl (by omega) (Nat.le_of_ble_eq_true rfl) dX5_linearShrinks_128 ?_
                refine tq_iast (n := 120) (i := (((L1.filter (fun q => !(linOf mlv1 mpt1 q == 2 ^ mlv1 + mpt1 - 1))).length) + j)) (v := (mov2 j)) (f := lin3) C hK hP hD hS 5 0 rfl rfl (by omega) (Nat.le_of_ble_eq_true rfl) dX5_linearShrinks_129 (fun H locs hP hD hS => ?_)
                have hP : va_P D vwCl (wM cy bb sto vas sz cap low hig dpt glo ext mdb mhl msp mmg (va_up lin3 (((L1.filter (fun q => !(linOf mlv1 mpt1 q == 2 ^ mlv1 + mpt1 - 1))).length) + j) (mov2 j)) mlv1 mpt1 mls1 mov2 thr) H := hP
                have hD : va_D A (wM cy bb sto vas sz cap low hig dpt glo ext mdb mhl msp mmg (va_up lin3 (((L1.filter (fun q => !(linOf mlv1 mpt1 q == 2 ^ mlv1 + mpt1 - 1))).length) + j) (mov2 j)) mlv1 mpt1 mls1 mov2 thr) := hD
                refine lv_iinc (v := (nI (j + 1))) (lv' := [(4, .int (nI (j + 1))), (0, .ref (bb 0)), (1, .int (nI ((2 ^ mlv1 + mpt1) - 1))), (2, .int (nI ((L1.filter (fun q => !(linOf mlv1 mpt1 q == 2 ^ mlv1 + mpt1 - 1))).length))), (3, .int (nI ((L1.filter (fun q => linOf mlv1 mpt1 q == 2 ^ mlv1 + mpt1 - 1)).length)))]) hx hb dX5_linearShrinks_130 hl (k := 4) rfl (tq_inc1 _) (by decide) rfl (fun ls hl => ?_)
                refine lv_goto (tgt := 108) hx hb dX5_linearShrinks_133 (by decide) ?_
                exact ih108 (j + 1) (va_up lin3 (((L1.filter (fun q => !(linOf mlv1 mpt1 q == 2 ^ mlv1 + mpt1 - 1))).length) + j) (mov2 j)) (by omega) (by omega) (by rw [take_succD hj2, ← List.append_assoc, ← hmo2 j hj2]; exact AL_push hA3 (by rw [List.length_append, List.length_take]; omega)) (bd_up hbl3 (hbm2 j)) _ _ hP hD hS _ (lv_sub hl [1, 2, 3, 4, 0] rfl)
          · have hi2 : i < L1.length := by omega
            have hf0 := filter_take (p := (fun q => !(linOf mlv1 mpt1 q == 2 ^ mlv1 + mpt1 - 1))) hi2
            have hf1 := filter_take (p := (fun q => linOf mlv1 mpt1 q == 2 ^ mlv1 + mpt1 - 1)) hi2
            have hl0 := flen (E := L1) (p := (fun q => !(linOf mlv1 mpt1 q == 2 ^ mlv1 + mpt1 - 1))) (i := i)
            have hl1 := flen (E := L1) (p := (fun q => linOf mlv1 mpt1 q == 2 ^ mlv1 + mpt1 - 1)) (i := i)
            have hei : lin2 i = L1.getD i 0 := (hhi i (Nat.le_refl _)).trans (hL1 i hi2)
            have hbi := hbl2 i
            have hlo9 := linOf_lt hpt1 (L1.getD i 0)
            refine lv_aload_n hx hb dX5_linearShrinks_55 rfl (lv_at hl 0 rfl) ?_
            refine tq_get (C0 := RX5) (T := TX5) (N := 19) (ci := 5) (k := 13) C gX5 inX5 rfl (by decide) rfl fl_X5_32 hK hP 0 rfl rfl dX5_linearShrinks_56 ?_
            refine lv_iload hx hb dX5_linearShrinks_59 (lv_at hl 4 rfl) ?_
            refine tq_iald (n := 120) (i := i) (f := lin2) C hK hP 5 0 rfl rfl (by omega) (Nat.le_of_ble_eq_true rfl) dX5_linearShrinks_61 ?_
            refine tq_top (y := nI (L1.getD i 0)) (by rw [hei]) ?_
            rw [hei] at hbi
            refine lv_istore (lv' := [(5, .int (nI (L1.getD i 0))), (0, .ref (bb 0)), (1, .int (nI ((2 ^ mlv1 + mpt1) - 1))), (2, .int (nI (((L1.take i).filter (fun q => !(linOf mlv1 mpt1 q == 2 ^ mlv1 + mpt1 - 1))).length))), (3, .int (nI (((L1.take i).filter (fun q => linOf mlv1 mpt1 q == 2 ^ mlv1 + mpt1 - 1)).length))), (4, .int (nI (i)))]) hx hb dX5_linearShrinks_62 hl (by decide) rfl (fun ls hl => ?_)
            refine lv_aload_n hx hb dX5_linearShrinks_64 rfl (lv_at hl 1 rfl) ?_
            refine lv_iload hx hb dX5_linearShrinks_65 (lv_at hl 0 rfl) ?_
            refine tq_callF (va_runV C.fix (As := [.int (nI (L1.getD i 0))]) (rest := []) (c_X5_linearOf l D cy bb sto vas sz cap low hig dpt glo ext mdb mhl msp mmg lin2 mlv1 mpt1 mls1 mov2 thr (L1.getD i 0) hY1 hbi) (tq_cV (n := 1) C ml_X5_115 im_X5_linearOf se_X5_linearOf ini_X5 cd_X5_linearOf ⟨by decide, by decide, by decide +kernel⟩ ⟨Nat.le_of_ble_eq_true rfl, Nat.le_of_ble_eq_true rfl⟩) ⟨tq_Pf.blind, va_recv hK hP (ci := 5) (q0 := 0) rfl rfl, tq_preF C hK hP⟩ rfl rfl hl.1 rfl (lv_room (Nat.le_of_ble_eq_true rfl)) dX5_linearShrinks_67 ⟨Nat.le_of_ble_eq_true rfl, Nat.le_of_ble_eq_true rfl⟩) (fun r67 hr67 => ?_)
            obtain rfl := hr67
            refine lv_iload_n hx hb dX5_linearShrinks_70 rfl (lv_at hl 2 rfl) ?_
            refine tq_icmp_ne (tgt := 88) C (by omega) (by omega) dX5_linearShrinks_71 (by decide) (fun h71 => ?_) (fun h71 => ?_)
            · rw [if_neg (by simpa using h71)] at hf1
              rw [if_pos (by simpa using h71)] at hf0
              refine lv_aload_n hx hb dX5_linearShrinks_88 rfl (lv_at hl 1 rfl) ?_
              refine tq_get (C0 := RX5) (T := TX5) (N := 19) (ci := 5) (k := 13) C gX5 inX5 rfl (by decide) rfl fl_X5_32 hK hP 0 rfl rfl dX5_linearShrinks_89 ?_
              refine lv_iload_n hx hb dX5_linearShrinks_92 rfl (lv_at hl 3 rfl) ?_
              refine lv_iload hx hb dX5_linearShrinks_93 (lv_at hl 0 rfl) ?_
              refine tq_iast (n := 120) (i := (((L1.take i).filter (fun q => !(linOf mlv1 mpt1 q == 2 ^ mlv1 + mpt1 - 1))).length)) (v := (L1.getD i 0)) (f := lin2) C hK hP hD hS 5 0 rfl rfl (by omega) (Nat.le_of_ble_eq_true rfl) dX5_linearShrinks_95 (fun H locs hP hD hS => ?_)
              have hP : va_P D vwCl (wM cy bb sto vas sz cap low hig dpt glo ext mdb mhl msp mmg (va_up lin2 (((L1.take i).filter (fun q => !(linOf mlv1 mpt1 q == 2 ^ mlv1 + mpt1 - 1))).length) (L1.getD i 0)) mlv1 mpt1 mls1 mov2 thr) H := hP
              have hD : va_D A (wM cy bb sto vas sz cap low hig dpt glo ext mdb mhl msp mmg (va_up lin2 (((L1.take i).filter (fun q => !(linOf mlv1 mpt1 q == 2 ^ mlv1 + mpt1 - 1))).length) (L1.getD i 0)) mlv1 mpt1 mls1 mov2 thr) := hD
              refine lv_iinc (v := (nI ((((L1.take i).filter (fun q => !(linOf mlv1 mpt1 q == 2 ^ mlv1 + mpt1 - 1))).length) + 1))) (lv' := [(2, .int (nI ((((L1.take i).filter (fun q => !(linOf mlv1 mpt1 q == 2 ^ mlv1 + mpt1 - 1))).length) + 1))), (5, .int (nI (L1.getD i 0))), (0, .ref (bb 0)), (1, .int (nI ((2 ^ mlv1 + mpt1) - 1))), (3, .int (nI (((L1.take i).filter (fun q => linOf mlv1 mpt1 q == 2 ^ mlv1 + mpt1 - 1)).length))), (4, .int (nI (i)))]) hx hb dX5_linearShrinks_96 hl (k := 3) rfl (tq_inc1 _) (by decide) rfl (fun ls hl => ?_)
              refine lv_iinc (v := (nI (i + 1))) (lv' := [(4, .int (nI (i + 1))), (2, .int (nI ((((L1.take i).filter (fun q => !(linOf mlv1 mpt1 q == 2 ^ mlv1 + mpt1 - 1))).length) + 1))), (5, .int (nI (L1.getD i 0))), (0, .ref (bb 0)), (1, .int (nI ((2 ^ mlv1 + mpt1) - 1))), (3, .int (nI (((L1.take i).filter (fun q => linOf mlv1 mpt1 q == 2 ^ mlv1 + mpt1 - 1)).length)))]) hx hb dX5_linearShrinks_99 hl (k := 5) rfl (tq_inc1 _) (by decide) rfl (fun ls hl => ?_)
              refine lv_goto (tgt := 46) hx hb dX5_linearShrinks_102 (by decide) ?_
              rw [show ((L1.take i).filter (fun q => !(linOf mlv1 mpt1 q == 2 ^ mlv1 + mpt1 - 1))).length + 1 = ((L1.take (i + 1)).filter (fun q => !(linOf mlv1 mpt1 q == 2 ^ mlv1 + mpt1 - 1))).length from by rw [hf0]; simp, show ((L1.take i).filter (fun q => linOf mlv1 mpt1 q == 2 ^ mlv1 + mpt1 - 1)).length = ((L1.take (i + 1)).filter (fun q => linOf mlv1 mpt1 q == 2 ^ mlv1 + mpt1 - 1)).length from by rw [hf1]] at hl
              exact ih46 (i + 1) (va_up lin2 (((L1.take i).filter (fun q => !(linOf mlv1 mpt1 q == 2 ^ mlv1 + mpt1 - 1))).length) (L1.getD i 0)) mov2 (by omega) (by omega) (by rw [hf0]; exact AL_push hlo2 rfl) (by rw [hf1]; exact hmo2) (fun j hj => by rw [up_n _ _ (by omega)]; exact hhi j (by omega)) (bd_up hbl2 hbi) (hbm2) _ _ hP hD hS _ (lv_sub hl [3, 4, 1, 5, 0] rfl)
            · rw [if_pos (by simpa using h71)] at hf1
              rw [if_neg (by simpa using h71)] at hf0
              refine lv_aload_n hx hb dX5_linearShrinks_74 rfl (lv_at hl 1 rfl) ?_
              refine tq_get (C0 := RX5) (T := TX5) (N := 19) (ci := 5) (k := 17) C gX5 inX5 rfl (by decide) rfl fl_X5_35 hK hP 0 rfl rfl dX5_linearShrinks_75 ?_
              refine lv_iload_n hx hb dX5_linearShrinks_78 rfl (lv_at hl 4 rfl) ?_
              refine lv_iload hx hb dX5_linearShrinks_79 (lv_at hl 0 rfl) ?_
              refine tq_iast (n := 120) (i := (((L1.take i).filter (fun q => linOf mlv1 mpt1 q == 2 ^ mlv1 + mpt1 - 1)).length)) (v := (L1.getD i 0)) (f := mov2) C hK hP hD hS 6 0 rfl rfl (by omega) (Nat.le_of_ble_eq_true rfl) dX5_linearShrinks_81 (fun H locs hP hD hS => ?_)
              have hP : va_P D vwCl (wM cy bb sto vas sz cap low hig dpt glo ext mdb mhl msp mmg lin2 mlv1 mpt1 mls1 (va_up mov2 (((L1.take i).filter (fun q => linOf mlv1 mpt1 q == 2 ^ mlv1 + mpt1 - 1)).length) (L1.getD i 0)) thr) H := hP
              have hD : va_D A (wM cy bb sto vas sz cap low hig dpt glo ext mdb mhl msp mmg lin2 mlv1 mpt1 mls1 (va_up mov2 (((L1.take i).filter (fun q => linOf mlv1 mpt1 q == 2 ^ mlv1 + mpt1 - 1)).length) (L1.getD i 0)) thr) := hD
              refine lv_iinc (v := (nI ((((L1.take i).filter (fun q => linOf mlv1 mpt1 q == 2 ^ mlv1 + mpt1 - 1)).length) + 1))) (lv' := [(3, .int (nI ((((L1.take i).filter (fun q => linOf mlv1 mpt1 q == 2 ^ mlv1 + mpt1 - 1)).length) + 1))), (5, .int (nI (L1.getD i 0))), (0, .ref (bb 0)), (1, .int (nI ((2 ^ mlv1 + mpt1) - 1))), (2, .int (nI (((L1.take i).filter (fun q => !(linOf mlv1 mpt1 q == 2 ^ mlv1 + mpt1 - 1))).length))), (4, .int (nI (i)))]) hx hb dX5_linearShrinks_82 hl (k := 4) rfl (tq_inc1 _) (by decide) rfl (fun ls hl => ?_)
              refine lv_goto (tgt := 99) hx hb dX5_linearShrinks_85 (by decide) ?_
              refine lv_iinc (v := (nI (i + 1))) (lv' := [(4, .int (nI (i + 1))), (3, .int (nI ((((L1.take i).filter (fun q => linOf mlv1 mpt1 q == 2 ^ mlv1 + mpt1 - 1)).length) + 1))), (5, .int (nI (L1.getD i 0))), (0, .ref (bb 0)), (1, .int (nI ((2 ^ mlv1 + mpt1) - 1))), (2, .int (nI (((L1.take i).filter (fun q => !(linOf mlv1 mpt1 q == 2 ^ mlv1 + mpt1 - 1))).length)))]) hx hb dX5_linearShrinks_99 hl (k := 5) rfl (tq_inc1 _) (by decide) rfl (fun ls hl => ?_)
              refine lv_goto (tgt := 46) hx hb dX5_linearShrinks_102 (by decide) ?_
              rw [show ((L1.take i).filter (fun q => linOf mlv1 mpt1 q == 2 ^ mlv1 + mpt1 - 1)).length + 1 = ((L1.take (i + 1)).filter (fun q => linOf mlv1 mpt1 q == 2 ^ mlv1 + mpt1 - 1)).length from by rw [hf1]; simp, show ((L1.take i).filter (fun q => !(linOf mlv1 mpt1 q == 2 ^ mlv1 + mpt1 - 1))).length = ((L1.take (i + 1)).filter (fun q => !(linOf mlv1 mpt1 q == 2 ^ mlv1 + mpt1 - 1))).length from by rw [hf0]] at hl
              exact ih46 (i + 1) lin2 (va_up mov2 (((L1.take i).filter (fun q => linOf mlv1 mpt1 q == 2 ^ mlv1 + mpt1 - 1)).length) (L1.getD i 0)) (by omega) (by omega) (by rw [hf0]; exact hlo2) (by rw [hf1]; exact AL_push hmo2 rfl) (fun j hj => hhi j (by omega)) (hbl2) (bd_up hbm2 hbi) _ _ hP hD hS _ (lv_sub hl [3, 4, 5, 1, 0] rfl)
set_option maxHeartbeats 4000000 in
set_option maxRecDepth 100000 in
theorem c_X5_adds (l : Launch) (D : va_G) (cy : ClassId) (bb : Nat → Nat) (sto : Nat → Nat) (vas : Nat → Nat) (sz : Nat) (cap : Nat) (low : Nat) (hig : Nat) (dpt : Nat → Nat) (glo : Nat) (ext : Nat → Nat) (mdb : Int32) (mhl : Int32) (msp : Int32) (mmg : Int32) (lin : Nat → Nat) (mlv : Nat) (mpt : Nat) (mls : Int32) (mov : Nat → Nat) (thr : Nat) (kx : Nat) (vx : Nat) (S : List (Nat × Nat)) (dep : Nat → Nat) (E L : List Nat) (hMR : MR sto vas sz dpt ext lin mov S dep E L) (hMC : MC cap low hig glo mlv mpt dep) (hkx : kx < 65536) (hvx : vx < 1000000) (hno : ∀ i, i < sz → sto i ≠ kx) (hlt : sz < 120) : tq_V (S := (Nat → Nat) × Nat × (Nat → Nat) × Int32 × Int32 × (Nat → Nat) × Nat × Nat × Int32) l yX5_adds cX5_adds 3 4 90 0 0 D cy (wM cy bb sto vas sz cap low hig dpt glo ext mdb mhl msp mmg lin mlv mpt mls mov thr) [.ref (bb 0), .int (nI (kx)), .int (nI (vx))] (fun u => ∃ S2 dep2 E2 L2, MR (va_up sto sz kx) (va_up vas sz vx) (sz + 1) u.1 u.2.2.1 u.2.2.2.2.2.1 mov S2 dep2 E2 L2 ∧ MC cap low hig u.2.1 u.2.2.2.2.2.2.1 u.2.2.2.2.2.2.2.1 dep2 ∧ mkM S2 cap low hig dep2 u.2.1 E2 u.2.2.2.1 mhl u.2.2.2.2.1 mmg L2 u.2.2.2.2.2.2.1 u.2.2.2.2.2.2.2.1 u.2.2.2.2.2.2.2.2 = aadd (mkM S cap low hig dep glo E mdb mhl msp mmg L mlv mpt mls) kx vx) (fun u => (wM cy bb (va_up sto sz kx) (va_up vas sz vx) (sz + 1) cap low hig u.1 u.2.1 u.2.2.1 u.2.2.2.1 mhl u.2.2.2.2.1 mmg u.2.2.2.2.2.1 u.2.2.2.2.2.2.1 u.2.2.2.2.2.2.2.1 u.2.2.2.2.2.2.2.2 mov thr)) := by
  refine tq_V.mk (by decide) (Nat.le_of_ble_eq_true rfl) ?_
  intro p e s m args below meth c A C hin hP hK hD hS hA ls hl
  obtain ⟨hx, hb, hml, hown, hrt, hlk, hT⟩ := id C
  have hl : lv_has ls 3 [(0, .ref (bb 0)), (1, .int (nI (kx))), (2, .int (nI (vx)))] := hl
  obtain ⟨hzS, hzE, hzL, hz120, hd, hAE, hAL, hPM, hKE, hKL, hSS, hbd⟩ := id hMR
  obtain ⟨hXo, hY, ⟨hcp1, hcp2⟩, ⟨hlo, hh1, hh2⟩⟩ := id hMC
  refine lv_aload_n hx hb dX5_adds_0 rfl (lv_at hl 0 rfl) ?_
  refine lv_iload_n hx hb dX5_adds_1 rfl (lv_at hl 1 rfl) ?_
  refine tq_callV (W3 := fun u => (wM cy bb sto vas sz cap low hig u.1 u.2.1 (va_up ext sz kx) u.2.2.1 mhl u.2.2.2 mmg lin mlv mpt mls mov thr)) (wr := []) (va_runV C.fix (As := [.int (nI (kx))]) (rest := []) ((c_X5_puts l D cy bb sto vas sz cap low hig dpt glo ext mdb mhl msp mmg lin mlv mpt mls mov thr kx dep hd hXo E hAE hzE hlt (fun i => (hbd i).2.2.1) hkx hcp2) s.heap.size) (tq_cV (n := 1) C ml_X5_118 im_X5_puts se_X5_puts ini_X5 cd_X5_puts ⟨by decide, by decide, by decide +kernel⟩ ⟨Nat.le_of_ble_eq_true rfl, Nat.le_of_ble_eq_true rfl⟩) ⟨tq_Pc.blind, va_recv hK hP (ci := 5) (q0 := 0) rfl rfl, tq_preC C hK hP hD⟩ rfl rfl hl.1 rfl (lv_room (Nat.le_of_ble_eq_true rfl)) dX5_adds_2 ⟨Nat.le_of_ble_eq_true rfl, Nat.le_of_ble_eq_true rfl⟩) hP hD hS hA [0, 1, 2, 3, 4, 5, 6] [] [0, 1, 2, 3, 4, 5, 6] rfl rfl (by decide) (by decide) (by decide) (fun _ => rfl) (fun u2 H locs hr2 hP hD hS => ?_)
  obtain ⟨dpt2, glo2, mdb2, msp2⟩ := u2
  try dsimp only at hr2
  have hP : va_P D vwCl (wM cy bb sto vas sz cap low hig dpt2 glo2 (va_up ext sz kx) mdb2 mhl msp2 mmg lin mlv mpt mls mov thr) H := hP
  have hD : va_D A (wM cy bb sto vas sz cap low hig dpt2 glo2 (va_up ext sz kx) mdb2 mhl msp2 mmg lin mlv mpt mls mov thr) := hD
  refine lv_aload_n hx hb dX5_adds_5 rfl (lv_at hl 0 rfl) ?_
  refine tq_get (C0 := RX5) (T := TX5) (N := 19) (ci := 5) (k := 0) C gX5 inX5 rfl (by decide) rfl fl_X5_7 hK hP 0 rfl rfl dX5_adds_6 ?_
  refine lv_aload_n hx hb dX5_adds_9 rfl (lv_at hl 0 rfl) ?_
  refine tq_get (C0 := RX5) (T := TX5) (N := 19) (ci := 5) (k := 2) C gX5 inX5 rfl (by decide) rfl fl_X5_51 hK hP 0 rfl rfl dX5_adds_10 ?_
  refine lv_iload_n hx hb dX5_adds_13 rfl (lv_at hl 1 rfl) ?_
  refine tq_iast (n := 120) (i := sz) (v := kx) (f := sto) C hK hP hD hS 1 0 rfl rfl (by omega) (Nat.le_of_ble_eq_true rfl) dX5_adds_14 (fun H locs hP hD hS => ?_)
  have hP : va_P D vwCl (wM cy bb (va_up sto sz kx) vas sz cap low hig dpt2 glo2 (va_up ext sz kx) mdb2 mhl msp2 mmg lin mlv mpt mls mov thr) H := hP
  have hD : va_D A (wM cy bb (va_up sto sz kx) vas sz cap low hig dpt2 glo2 (va_up ext sz kx) mdb2 mhl msp2 mmg lin mlv mpt mls mov thr) := hD
  refine lv_aload_n hx hb dX5_adds_15 rfl (lv_at hl 0 rfl) ?_
  refine tq_get (C0 := RX5) (T := TX5) (N := 19) (ci := 5) (k := 1) C gX5 inX5 rfl (by decide) rfl fl_X5_13 hK hP 0 rfl rfl dX5_adds_16 ?_
  refine lv_aload_n hx hb dX5_adds_19 rfl (lv_at hl 0 rfl) ?_
  refine tq_get (C0 := RX5) (T := TX5) (N := 19) (ci := 5) (k := 2) C gX5 inX5 rfl (by decide) rfl fl_X5_51 hK hP 0 rfl rfl dX5_adds_20 ?_
  refine lv_iload_n hx hb dX5_adds_23 rfl (lv_at hl 2 rfl) ?_
  refine tq_iast (n := 120) (i := sz) (v := vx) (f := vas) C hK hP hD hS 2 0 rfl rfl (by omega) (Nat.le_of_ble_eq_true rfl) dX5_adds_24 (fun H locs hP hD hS => ?_)
  have hP : va_P D vwCl (wM cy bb (va_up sto sz kx) (va_up vas sz vx) sz cap low hig dpt2 glo2 (va_up ext sz kx) mdb2 mhl msp2 mmg lin mlv mpt mls mov thr) H := hP
  have hD : va_D A (wM cy bb (va_up sto sz kx) (va_up vas sz vx) sz cap low hig dpt2 glo2 (va_up ext sz kx) mdb2 mhl msp2 mmg lin mlv mpt mls mov thr) := hD
  refine lv_aload_n hx hb dX5_adds_25 rfl (lv_at hl 0 rfl) ?_
  refine lv_dup hx hb dX5_adds_26 rfl ?_
  refine tq_get (C0 := RX5) (T := TX5) (N := 19) (ci := 5) (k := 2) C gX5 inX5 rfl (by decide) rfl fl_X5_51 hK hP 0 rfl rfl dX5_adds_27 ?_
  refine lv_iconst (v := nI 1) hx hb dX5_adds_30 (by decide) ?_
  refine tq_iadd C dX5_adds_31 ?_
  refine tq_put (v := .int (nI (sz + 1))) (C0 := RX5) (T := TX5) (N := 19) (ci := 5) (k := 2) (ty := .int) C gX5 inX5 tyX5_ok nmX5 rfl (by decide) rfl fl_X5_51 rfl (by decide +kernel) hK hP hD hS 0 rfl rfl rfl (Nat.le_of_ble_eq_true rfl) dX5_adds_32 (fun H locs hP hD hS => ?_)
  have hP : va_P D vwCl (wM cy bb (va_up sto sz kx) (va_up vas sz vx) (sz + 1) cap low hig dpt2 glo2 (va_up ext sz kx) mdb2 mhl msp2 mmg lin mlv mpt mls mov thr) H := hP
  have hD : va_D A (wM cy bb (va_up sto sz kx) (va_up vas sz vx) (sz + 1) cap low hig dpt2 glo2 (va_up ext sz kx) mdb2 mhl msp2 mmg lin mlv mpt mls mov thr) := hD
  refine lv_aload_n hx hb dX5_adds_35 rfl (lv_at hl 0 rfl) ?_
  refine lv_iload_n hx hb dX5_adds_36 rfl (lv_at hl 1 rfl) ?_
  refine tq_callV (W3 := fun u => (wM cy bb (va_up sto sz kx) (va_up vas sz vx) (sz + 1) cap low hig dpt2 glo2 (va_up ext sz kx) mdb2 mhl msp2 mmg (va_up lin ((sz + 1) - 1) kx) u.1 u.2.1 u.2.2 mov thr)) (wr := []) (va_runV C.fix (As := [.int (nI (kx))]) (rest := []) ((c_X5_linearPuts l D cy bb (va_up sto sz kx) (va_up vas sz vx) (sz + 1) cap low hig dpt2 glo2 (va_up ext sz kx) mdb2 mhl msp2 mmg lin mlv mpt mls mov thr kx (by omega) (by omega) hY hcp1 hcp2 hh1 hh2) H.size) (tq_cV (n := 1) C ml_X5_122 im_X5_linearPuts se_X5_linearPuts ini_X5 cd_X5_linearPuts ⟨by decide, by decide, by decide +kernel⟩ ⟨Nat.le_of_ble_eq_true rfl, Nat.le_of_ble_eq_true rfl⟩) ⟨tq_Pc.blind, va_recv hK hP (ci := 5) (q0 := 0) rfl rfl, tq_preC C hK hP hD⟩ rfl rfl hl.1 rfl (lv_room (Nat.le_of_ble_eq_true rfl)) dX5_adds_37 ⟨Nat.le_of_ble_eq_true rfl, Nat.le_of_ble_eq_true rfl⟩) hP hD hS hA [0, 1, 2, 3, 4, 5, 6] [] [0, 1, 2, 3, 4, 5, 6] rfl rfl (by decide) (by decide) (by decide) (fun _ => rfl) (fun u37 H locs hr37 hP hD hS => ?_)
  obtain ⟨mlv2, mpt2, mls2⟩ := u37
  try dsimp only at hr37
  have hP : va_P D vwCl (wM cy bb (va_up sto sz kx) (va_up vas sz vx) (sz + 1) cap low hig dpt2 glo2 (va_up ext sz kx) mdb2 mhl msp2 mmg (va_up lin ((sz + 1) - 1) kx) mlv2 mpt2 mls2 mov thr) H := hP
  have hD : va_D A (wM cy bb (va_up sto sz kx) (va_up vas sz vx) (sz + 1) cap low hig dpt2 glo2 (va_up ext sz kx) mdb2 mhl msp2 mmg (va_up lin ((sz + 1) - 1) kx) mlv2 mpt2 mls2 mov thr) := hD
  have hn1 := hPM.no hno
  exact tq_vret C (dpt2, glo2, va_up ext sz kx, mdb2, msp2, va_up lin ((sz + 1) - 1) kx, mlv2, mpt2, mls2) hP hD hS (⟨insS S kx vx, (pS cap E (hs kx % 256) 9 (dep, glo, mdb, msp)).1, E ++ [kx], L ++ [kx], ⟨by rw [insS_len hn1.1, hzS], by rw [List.length_append, hzE]; rfl, by rw [List.length_append, hzL]; rfl, by omega, hr2.1, AL_push hAE hzE, AL_push hAL (by omega), hPM.add hno, hKE.add hno, hKL.add hno, insS_sorted hSS, fun i => ⟨bd_up (fun j => (hbd j).1) hkx i, bd_up (fun j => (hbd j).2.1) hvx i, bd_up (fun j => (hbd j).2.2.1) hkx i, bd_up (fun j => (hbd j).2.2.2.1) hkx i, (hbd i).2.2.2.2⟩⟩, ⟨by have h9 := hr2.2.2; rw [← hr2.2.1] at h9; exact h9, hr37.2, ⟨hcp1, hcp2⟩, ⟨hlo, hh1, hh2⟩⟩, by unfold mkM aadd; dsimp only; rw [← hzS, ← hr37.1, ← hr2.2.1]⟩) (Nat.le_of_ble_eq_true rfl) (Nat.le_of_ble_eq_true rfl) dX5_adds_40
