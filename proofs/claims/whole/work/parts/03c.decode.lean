theorem dX9_launch_105 : decode cX9_launch 105 = .ok (.iload_n 2, 1) := by decide +kernel
theorem dX9_launch_106 : decode cX9_launch 106 = .ok (.iastore, 1) := by decide +kernel
theorem dX9_launch_107 : decode cX9_launch 107 = .ok (.dup, 1) := by decide +kernel
theorem dX9_launch_108 : decode cX9_launch 108 = .ok (.iconst 2, 1) := by decide +kernel
theorem dX9_launch_109 : decode cX9_launch 109 = .ok (.iload_n 3, 1) := by decide +kernel
theorem dX9_launch_110 : decode cX9_launch 110 = .ok (.iastore, 1) := by decide +kernel
theorem dX9_launch_111 : decode cX9_launch 111 = .ok (.dup, 1) := by decide +kernel
theorem dX9_launch_112 : decode cX9_launch 112 = .ok (.iconst 3, 1) := by decide +kernel
theorem dX9_launch_113 : decode cX9_launch 113 = .ok (.iload 4, 2) := by decide +kernel
theorem dX9_launch_115 : decode cX9_launch 115 = .ok (.iastore, 1) := by decide +kernel
theorem dX9_launch_116 : decode cX9_launch 116 = .ok (.dup, 1) := by decide +kernel
theorem dX9_launch_117 : decode cX9_launch 117 = .ok (.iconst 4, 1) := by decide +kernel
theorem dX9_launch_118 : decode cX9_launch 118 = .ok (.iload 5, 2) := by decide +kernel
theorem dX9_launch_120 : decode cX9_launch 120 = .ok (.iastore, 1) := by decide +kernel
theorem dX9_launch_121 : decode cX9_launch 121 = .ok (.dup, 1) := by decide +kernel
theorem dX9_launch_122 : decode cX9_launch 122 = .ok (.iconst 5, 1) := by decide +kernel
theorem dX9_launch_123 : decode cX9_launch 123 = .ok (.iload 6, 2) := by decide +kernel
theorem dX9_launch_125 : decode cX9_launch 125 = .ok (.iastore, 1) := by decide +kernel
theorem dX9_launch_126 : decode cX9_launch 126 = .ok (.astore 7, 2) := by decide +kernel
theorem dX9_launch_128 : decode cX9_launch 128 = .ok (.aload 7, 2) := by decide +kernel
theorem dX9_launch_130 : decode cX9_launch 130 = .ok (.iconst 0, 1) := by decide +kernel
theorem dX9_launch_131 : decode cX9_launch 131 = .ok (.aload_n 0, 1) := by decide +kernel
theorem dX9_launch_132 : decode cX9_launch 132 = .ok (.getfield 22, 3) := by decide +kernel
theorem dX9_launch_135 : decode cX9_launch 135 = .ok (.bipush 6, 2) := by decide +kernel
theorem dX9_launch_137 : decode cX9_launch 137 = .ok (.aload_n 0, 1) := by decide +kernel
theorem dX9_launch_138 : decode cX9_launch 138 = .ok (.getfield 51, 3) := by decide +kernel
theorem dX9_launch_141 : decode cX9_launch 141 = .ok (.imul, 1) := by decide +kernel
theorem dX9_launch_142 : decode cX9_launch 142 = .ok (.bipush 6, 2) := by decide +kernel
theorem dX9_launch_144 : decode cX9_launch 144 = .ok (.invokestatic 94, 3) := by decide +kernel
theorem dX9_launch_147 : decode cX9_launch 147 = .ok (.aload_n 0, 1) := by decide +kernel
theorem dX9_launch_148 : decode cX9_launch 148 = .ok (.aload_n 0, 1) := by decide +kernel
theorem dX9_launch_149 : decode cX9_launch 149 = .ok (.getfield 51, 3) := by decide +kernel
theorem dX9_launch_152 : decode cX9_launch 152 = .ok (.iconst 0, 1) := by decide +kernel
theorem dX9_launch_153 : decode cX9_launch 153 = .ok (.aload_n 0, 1) := by decide +kernel
theorem dX9_launch_154 : decode cX9_launch 154 = .ok (.getfield 19, 3) := by decide +kernel
theorem dX9_launch_157 : decode cX9_launch 157 = .ok (.iload_n 1, 1) := by decide +kernel
theorem dX9_launch_158 : decode cX9_launch 158 = .ok (.iaload, 1) := by decide +kernel
theorem dX9_launch_159 : decode cX9_launch 159 = .ok (.invokevirtual 100, 3) := by decide +kernel
theorem dX9_launch_162 : decode cX9_launch 162 = .ok (.aload_n 0, 1) := by decide +kernel
theorem dX9_launch_163 : decode cX9_launch 163 = .ok (.aload_n 0, 1) := by decide +kernel
theorem dX9_launch_164 : decode cX9_launch 164 = .ok (.getfield 51, 3) := by decide +kernel
theorem dX9_launch_167 : decode cX9_launch 167 = .ok (.iconst 1, 1) := by decide +kernel
theorem dX9_launch_168 : decode cX9_launch 168 = .ok (.iload_n 2, 1) := by decide +kernel
theorem dX9_launch_169 : decode cX9_launch 169 = .ok (.invokevirtual 100, 3) := by decide +kernel
theorem dX9_launch_172 : decode cX9_launch 172 = .ok (.aload_n 0, 1) := by decide +kernel
theorem dX9_launch_173 : decode cX9_launch 173 = .ok (.dup, 1) := by decide +kernel
theorem dX9_launch_174 : decode cX9_launch 174 = .ok (.getfield 51, 3) := by decide +kernel
theorem dX9_launch_177 : decode cX9_launch 177 = .ok (.iconst 1, 1) := by decide +kernel
theorem dX9_launch_178 : decode cX9_launch 178 = .ok (.iadd, 1) := by decide +kernel
theorem dX9_launch_179 : decode cX9_launch 179 = .ok (.putfield 51, 3) := by decide +kernel
theorem dX9_launch_182 : decode cX9_launch 182 = .ok (.aload_n 0, 1) := by decide +kernel
theorem dX9_launch_183 : decode cX9_launch 183 = .ok (.getfield 51, 3) := by decide +kernel
theorem dX9_launch_186 : decode cX9_launch 186 = .ok (.iconst 1, 1) := by decide +kernel
theorem dX9_launch_187 : decode cX9_launch 187 = .ok (.isub, 1) := by decide +kernel
theorem dX9_launch_188 : decode cX9_launch 188 = .ok (.ireturn, 1) := by decide +kernel
theorem dX9_setToll_0 : decode cX9_setToll 0 = .ok (.aload_n 0, 1) := by decide +kernel
theorem dX9_setToll_1 : decode cX9_setToll 1 = .ok (.iconst 0, 1) := by decide +kernel
theorem dX9_setToll_2 : decode cX9_setToll 2 = .ok (.putfield 40, 3) := by decide +kernel
theorem dX9_setToll_5 : decode cX9_setToll 5 = .ok (.aload_n 0, 1) := by decide +kernel
theorem dX9_setToll_6 : decode cX9_setToll 6 = .ok (.iload_n 1, 1) := by decide +kernel
theorem dX9_setToll_7 : decode cX9_setToll 7 = .ok (.invokevirtual 104, 3) := by decide +kernel
theorem dX9_setToll_10 : decode cX9_setToll 10 = .ok (.ifCond .ne 9, 3) := by decide +kernel
theorem dX9_setToll_13 : decode cX9_setToll 13 = .ok (.aload_n 0, 1) := by decide +kernel
theorem dX9_setToll_14 : decode cX9_setToll 14 = .ok (.iconst 1, 1) := by decide +kernel
theorem dX9_setToll_15 : decode cX9_setToll 15 = .ok (.invokevirtual 73, 3) := by decide +kernel
theorem dX9_setToll_18 : decode cX9_setToll 18 = .ok (.ireturn, 1) := by decide +kernel
theorem dX9_setToll_19 : decode cX9_setToll 19 = .ok (.iload_n 2, 1) := by decide +kernel
theorem dX9_setToll_20 : decode cX9_setToll 20 = .ok (.iconst 0, 1) := by decide +kernel
theorem dX9_setToll_21 : decode cX9_setToll 21 = .ok (.bipush 50, 2) := by decide +kernel
theorem dX9_setToll_23 : decode cX9_setToll 23 = .ok (.invokestatic 44, 3) := by decide +kernel
theorem dX9_setToll_26 : decode cX9_setToll 26 = .ok (.ifCond .ne 9, 3) := by decide +kernel
theorem dX9_setToll_29 : decode cX9_setToll 29 = .ok (.aload_n 0, 1) := by decide +kernel
theorem dX9_setToll_30 : decode cX9_setToll 30 = .ok (.iconst 2, 1) := by decide +kernel
theorem dX9_setToll_31 : decode cX9_setToll 31 = .ok (.invokevirtual 73, 3) := by decide +kernel
theorem dX9_setToll_34 : decode cX9_setToll 34 = .ok (.ireturn, 1) := by decide +kernel
theorem dX9_setToll_35 : decode cX9_setToll 35 = .ok (.aload_n 0, 1) := by decide +kernel
theorem dX9_setToll_36 : decode cX9_setToll 36 = .ok (.iload_n 1, 1) := by decide +kernel
theorem dX9_setToll_37 : decode cX9_setToll 37 = .ok (.iconst 5, 1) := by decide +kernel
theorem dX9_setToll_38 : decode cX9_setToll 38 = .ok (.invokevirtual 66, 3) := by decide +kernel
theorem dX9_setToll_41 : decode cX9_setToll 41 = .ok (.istore_n 3, 1) := by decide +kernel
theorem dX9_setToll_42 : decode cX9_setToll 42 = .ok (.aload_n 0, 1) := by decide +kernel
theorem dX9_setToll_43 : decode cX9_setToll 43 = .ok (.getfield 22, 3) := by decide +kernel
theorem dX9_setToll_46 : decode cX9_setToll 46 = .ok (.bipush 6, 2) := by decide +kernel
theorem dX9_setToll_48 : decode cX9_setToll 48 = .ok (.iload_n 1, 1) := by decide +kernel
theorem dX9_setToll_49 : decode cX9_setToll 49 = .ok (.imul, 1) := by decide +kernel
theorem dX9_setToll_50 : decode cX9_setToll 50 = .ok (.iconst 5, 1) := by decide +kernel
theorem dX9_setToll_51 : decode cX9_setToll 51 = .ok (.iadd, 1) := by decide +kernel
theorem dX9_setToll_52 : decode cX9_setToll 52 = .ok (.iload_n 2, 1) := by decide +kernel
theorem dX9_setToll_53 : decode cX9_setToll 53 = .ok (.iastore, 1) := by decide +kernel
theorem dX9_setToll_54 : decode cX9_setToll 54 = .ok (.iload_n 3, 1) := by decide +kernel
theorem dX9_setToll_55 : decode cX9_setToll 55 = .ok (.ireturn, 1) := by decide +kernel
theorem dX9_look_0 : decode cX9_look 0 = .ok (.iconst 0, 1) := by decide +kernel
theorem dX9_look_1 : decode cX9_look 1 = .ok (.istore 4, 2) := by decide +kernel
theorem dX9_look_3 : decode cX9_look 3 = .ok (.iload 4, 2) := by decide +kernel
theorem dX9_look_5 : decode cX9_look 5 = .ok (.sipush 196, 3) := by decide +kernel
theorem dX9_look_8 : decode cX9_look 8 = .ok (.if_icmp .ge 17, 3) := by decide +kernel
theorem dX9_look_11 : decode cX9_look 11 = .ok (.aload_n 0, 1) := by decide +kernel
theorem dX9_look_12 : decode cX9_look 12 = .ok (.getfield 31, 3) := by decide +kernel
theorem dX9_look_15 : decode cX9_look 15 = .ok (.iload 4, 2) := by decide +kernel
theorem dX9_look_17 : decode cX9_look 17 = .ok (.iconst (-1), 1) := by decide +kernel
theorem dX9_look_18 : decode cX9_look 18 = .ok (.iastore, 1) := by decide +kernel
theorem dX9_look_19 : decode cX9_look 19 = .ok (.iinc 4 1, 3) := by decide +kernel
theorem dX9_look_22 : decode cX9_look 22 = .ok (.goto (-19), 3) := by decide +kernel
theorem dX9_look_25 : decode cX9_look 25 = .ok (.aload_n 0, 1) := by decide +kernel
theorem dX9_look_26 : decode cX9_look 26 = .ok (.iload_n 1, 1) := by decide +kernel
theorem dX9_look_27 : decode cX9_look 27 = .ok (.iload_n 2, 1) := by decide +kernel
theorem dX9_look_28 : decode cX9_look 28 = .ok (.iload_n 3, 1) := by decide +kernel
theorem dX9_look_29 : decode cX9_look 29 = .ok (.invokevirtual 107, 3) := by decide +kernel
theorem dX9_look_32 : decode cX9_look 32 = .ok (.ifCond .ne 4, 3) := by decide +kernel
theorem dX9_look_35 : decode cX9_look 35 = .ok (.return_, 1) := by decide +kernel
theorem dX9_look_36 : decode cX9_look 36 = .ok (.aload_n 0, 1) := by decide +kernel
theorem dX9_look_37 : decode cX9_look 37 = .ok (.getfield 31, 3) := by decide +kernel
theorem dX9_look_40 : decode cX9_look 40 = .ok (.iload_n 2, 1) := by decide +kernel
theorem dX9_look_41 : decode cX9_look 41 = .ok (.iconst 0, 1) := by decide +kernel
theorem dX9_look_42 : decode cX9_look 42 = .ok (.iastore, 1) := by decide +kernel
theorem dX9_look_43 : decode cX9_look 43 = .ok (.iconst 1, 1) := by decide +kernel
theorem dX9_look_44 : decode cX9_look 44 = .ok (.istore 4, 2) := by decide +kernel
theorem dX9_look_46 : decode cX9_look 46 = .ok (.iconst 0, 1) := by decide +kernel
theorem dX9_look_47 : decode cX9_look 47 = .ok (.istore 5, 2) := by decide +kernel
theorem dX9_look_49 : decode cX9_look 49 = .ok (.iload 4, 2) := by decide +kernel
theorem dX9_look_51 : decode cX9_look 51 = .ok (.ifCond .eq 113, 3) := by decide +kernel
theorem dX9_look_54 : decode cX9_look 54 = .ok (.iconst 0, 1) := by decide +kernel
theorem dX9_look_55 : decode cX9_look 55 = .ok (.istore 4, 2) := by decide +kernel
theorem dX9_look_57 : decode cX9_look 57 = .ok (.iconst 0, 1) := by decide +kernel
theorem dX9_look_58 : decode cX9_look 58 = .ok (.istore 6, 2) := by decide +kernel
theorem dX9_look_60 : decode cX9_look 60 = .ok (.iload 6, 2) := by decide +kernel
theorem dX9_look_62 : decode cX9_look 62 = .ok (.sipush 196, 3) := by decide +kernel
theorem dX9_look_65 : decode cX9_look 65 = .ok (.if_icmp .ge 93, 3) := by decide +kernel
theorem dX9_look_68 : decode cX9_look 68 = .ok (.aload_n 0, 1) := by decide +kernel
theorem dX9_look_69 : decode cX9_look 69 = .ok (.getfield 31, 3) := by decide +kernel
theorem dX9_look_72 : decode cX9_look 72 = .ok (.iload 6, 2) := by decide +kernel
theorem dX9_look_74 : decode cX9_look 74 = .ok (.iaload, 1) := by decide +kernel
theorem dX9_look_75 : decode cX9_look 75 = .ok (.iload 5, 2) := by decide +kernel
theorem dX9_look_77 : decode cX9_look 77 = .ok (.if_icmp .eq 6, 3) := by decide +kernel
theorem dX9_look_80 : decode cX9_look 80 = .ok (.goto 72, 3) := by decide +kernel
theorem dX9_look_83 : decode cX9_look 83 = .ok (.iconst 0, 1) := by decide +kernel
theorem dX9_look_84 : decode cX9_look 84 = .ok (.istore 7, 2) := by decide +kernel
theorem dX9_look_86 : decode cX9_look 86 = .ok (.iload 7, 2) := by decide +kernel
theorem dX9_look_88 : decode cX9_look 88 = .ok (.iconst 4, 1) := by decide +kernel
theorem dX9_look_89 : decode cX9_look 89 = .ok (.if_icmp .ge 63, 3) := by decide +kernel
theorem dX9_look_92 : decode cX9_look 92 = .ok (.iload 6, 2) := by decide +kernel
theorem dX9_look_94 : decode cX9_look 94 = .ok (.iload 7, 2) := by decide +kernel
theorem dX9_look_96 : decode cX9_look 96 = .ok (.invokestatic 110, 3) := by decide +kernel
theorem dX9_look_99 : decode cX9_look 99 = .ok (.istore 8, 2) := by decide +kernel
theorem dX9_look_101 : decode cX9_look 101 = .ok (.iload 8, 2) := by decide +kernel
theorem dX9_look_103 : decode cX9_look 103 = .ok (.iconst (-1), 1) := by decide +kernel
theorem dX9_look_104 : decode cX9_look 104 = .ok (.if_icmp .eq 42, 3) := by decide +kernel
theorem dX9_look_107 : decode cX9_look 107 = .ok (.aload_n 0, 1) := by decide +kernel
theorem dX9_look_108 : decode cX9_look 108 = .ok (.getfield 31, 3) := by decide +kernel
theorem dX9_look_111 : decode cX9_look 111 = .ok (.iload 8, 2) := by decide +kernel
theorem dX9_look_113 : decode cX9_look 113 = .ok (.iaload, 1) := by decide +kernel
theorem dX9_look_114 : decode cX9_look 114 = .ok (.iconst (-1), 1) := by decide +kernel
theorem dX9_look_115 : decode cX9_look 115 = .ok (.if_icmp .ne 31, 3) := by decide +kernel
theorem dX9_look_118 : decode cX9_look 118 = .ok (.aload_n 0, 1) := by decide +kernel
theorem dX9_look_119 : decode cX9_look 119 = .ok (.iload_n 1, 1) := by decide +kernel
theorem dX9_look_120 : decode cX9_look 120 = .ok (.iload 8, 2) := by decide +kernel
theorem dX9_look_122 : decode cX9_look 122 = .ok (.iload_n 3, 1) := by decide +kernel
theorem dX9_look_123 : decode cX9_look 123 = .ok (.invokevirtual 107, 3) := by decide +kernel
theorem dX9_look_126 : decode cX9_look 126 = .ok (.ifCond .ne 6, 3) := by decide +kernel
theorem dX9_look_129 : decode cX9_look 129 = .ok (.goto 17, 3) := by decide +kernel
theorem dX9_look_132 : decode cX9_look 132 = .ok (.aload_n 0, 1) := by decide +kernel
theorem dX9_look_133 : decode cX9_look 133 = .ok (.getfield 31, 3) := by decide +kernel
theorem dX9_look_136 : decode cX9_look 136 = .ok (.iload 8, 2) := by decide +kernel
theorem dX9_look_138 : decode cX9_look 138 = .ok (.iload 5, 2) := by decide +kernel
theorem dX9_look_140 : decode cX9_look 140 = .ok (.iconst 1, 1) := by decide +kernel
theorem dX9_look_141 : decode cX9_look 141 = .ok (.iadd, 1) := by decide +kernel
theorem dX9_look_142 : decode cX9_look 142 = .ok (.iastore, 1) := by decide +kernel
theorem dX9_look_143 : decode cX9_look 143 = .ok (.iconst 1, 1) := by decide +kernel
theorem dX9_look_144 : decode cX9_look 144 = .ok (.istore 4, 2) := by decide +kernel
theorem dX9_look_146 : decode cX9_look 146 = .ok (.iinc 7 1, 3) := by decide +kernel
theorem dX9_look_149 : decode cX9_look 149 = .ok (.goto (-63), 3) := by decide +kernel
theorem dX9_look_152 : decode cX9_look 152 = .ok (.iinc 6 1, 3) := by decide +kernel
theorem dX9_look_155 : decode cX9_look 155 = .ok (.goto (-95), 3) := by decide +kernel
theorem dX9_look_158 : decode cX9_look 158 = .ok (.iinc 5 1, 3) := by decide +kernel
theorem dX9_look_161 : decode cX9_look 161 = .ok (.goto (-112), 3) := by decide +kernel
theorem dX9_look_164 : decode cX9_look 164 = .ok (.return_, 1) := by decide +kernel
theorem dX9_boundCell_0 : decode cX9_boundCell 0 = .ok (.aload_n 0, 1) := by decide +kernel
theorem dX9_boundCell_1 : decode cX9_boundCell 1 = .ok (.getfield 19, 3) := by decide +kernel
theorem dX9_boundCell_4 : decode cX9_boundCell 4 = .ok (.aload_n 0, 1) := by decide +kernel
theorem dX9_boundCell_5 : decode cX9_boundCell 5 = .ok (.iload_n 1, 1) := by decide +kernel
theorem dX9_boundCell_6 : decode cX9_boundCell 6 = .ok (.iconst 1, 1) := by decide +kernel
theorem dX9_boundCell_7 : decode cX9_boundCell 7 = .ok (.invokevirtual 77, 3) := by decide +kernel
theorem dX9_boundCell_10 : decode cX9_boundCell 10 = .ok (.iaload, 1) := by decide +kernel
theorem dX9_boundCell_11 : decode cX9_boundCell 11 = .ok (.ireturn, 1) := by decide +kernel
theorem dX9_isAground_0 : decode cX9_isAground 0 = .ok (.aload_n 0, 1) := by decide +kernel
theorem dX9_isAground_1 : decode cX9_isAground 1 = .ok (.iload_n 1, 1) := by decide +kernel
theorem dX9_isAground_2 : decode cX9_isAground 2 = .ok (.aload_n 0, 1) := by decide +kernel
theorem dX9_isAground_3 : decode cX9_isAground 3 = .ok (.iload_n 1, 1) := by decide +kernel
theorem dX9_isAground_4 : decode cX9_isAground 4 = .ok (.iconst 0, 1) := by decide +kernel
theorem dX9_isAground_5 : decode cX9_isAground 5 = .ok (.invokevirtual 77, 3) := by decide +kernel
theorem dX9_isAground_8 : decode cX9_isAground 8 = .ok (.aload_n 0, 1) := by decide +kernel
theorem dX9_isAground_9 : decode cX9_isAground 9 = .ok (.invokevirtual 80, 3) := by decide +kernel
theorem dX9_isAground_12 : decode cX9_isAground 12 = .ok (.invokevirtual 107, 3) := by decide +kernel
theorem dX9_isAground_15 : decode cX9_isAground 15 = .ok (.ifCond .ne 7, 3) := by decide +kernel
theorem dX9_isAground_18 : decode cX9_isAground 18 = .ok (.iconst 1, 1) := by decide +kernel
theorem dX9_isAground_19 : decode cX9_isAground 19 = .ok (.goto 4, 3) := by decide +kernel
theorem dX9_isAground_22 : decode cX9_isAground 22 = .ok (.iconst 0, 1) := by decide +kernel
theorem dX9_isAground_23 : decode cX9_isAground 23 = .ok (.ireturn, 1) := by decide +kernel
theorem dX9_ridersOf_0 : decode cX9_ridersOf 0 = .ok (.iconst 0, 1) := by decide +kernel
theorem dX9_ridersOf_1 : decode cX9_ridersOf 1 = .ok (.istore_n 2, 1) := by decide +kernel
theorem dX9_ridersOf_2 : decode cX9_ridersOf 2 = .ok (.iconst 0, 1) := by decide +kernel
theorem dX9_ridersOf_3 : decode cX9_ridersOf 3 = .ok (.istore_n 3, 1) := by decide +kernel
theorem dX9_ridersOf_4 : decode cX9_ridersOf 4 = .ok (.iload_n 3, 1) := by decide +kernel
theorem dX9_ridersOf_5 : decode cX9_ridersOf 5 = .ok (.aload_n 0, 1) := by decide +kernel
theorem dX9_ridersOf_6 : decode cX9_ridersOf 6 = .ok (.getfield 113, 3) := by decide +kernel
theorem dX9_ridersOf_9 : decode cX9_ridersOf 9 = .ok (.if_icmp .ge 27, 3) := by decide +kernel
theorem dX9_ridersOf_12 : decode cX9_ridersOf 12 = .ok (.iload_n 2, 1) := by decide +kernel
theorem dX9_ridersOf_13 : decode cX9_ridersOf 13 = .ok (.aload_n 0, 1) := by decide +kernel
theorem dX9_ridersOf_14 : decode cX9_ridersOf 14 = .ok (.iload_n 3, 1) := by decide +kernel
theorem dX9_ridersOf_15 : decode cX9_ridersOf 15 = .ok (.iconst 3, 1) := by decide +kernel
theorem dX9_ridersOf_16 : decode cX9_ridersOf 16 = .ok (.invokevirtual 116, 3) := by decide +kernel
theorem dX9_ridersOf_19 : decode cX9_ridersOf 19 = .ok (.iload_n 1, 1) := by decide +kernel
theorem dX9_ridersOf_20 : decode cX9_ridersOf 20 = .ok (.if_icmp .ne 7, 3) := by decide +kernel
theorem dX9_ridersOf_23 : decode cX9_ridersOf 23 = .ok (.iconst 1, 1) := by decide +kernel
theorem dX9_ridersOf_24 : decode cX9_ridersOf 24 = .ok (.goto 4, 3) := by decide +kernel
theorem dX9_ridersOf_27 : decode cX9_ridersOf 27 = .ok (.iconst 0, 1) := by decide +kernel
theorem dX9_ridersOf_28 : decode cX9_ridersOf 28 = .ok (.iadd, 1) := by decide +kernel
theorem dX9_ridersOf_29 : decode cX9_ridersOf 29 = .ok (.istore_n 2, 1) := by decide +kernel
theorem dX9_ridersOf_30 : decode cX9_ridersOf 30 = .ok (.iinc 3 1, 3) := by decide +kernel
theorem dX9_ridersOf_33 : decode cX9_ridersOf 33 = .ok (.goto (-29), 3) := by decide +kernel
theorem dX9_ridersOf_36 : decode cX9_ridersOf 36 = .ok (.iload_n 2, 1) := by decide +kernel
theorem dX9_ridersOf_37 : decode cX9_ridersOf 37 = .ok (.ireturn, 1) := by decide +kernel
theorem dX9_puntTold_0 : decode cX9_puntTold 0 = .ok (.iload_n 2, 1) := by decide +kernel
theorem dX9_puntTold_1 : decode cX9_puntTold 1 = .ok (.tableswitch 134 0 7 #[47, 57, 67, 74, 80, 87, 101, 127], 47) := by decide +kernel
theorem dX9_puntTold_48 : decode cX9_puntTold 48 = .ok (.aload_n 0, 1) := by decide +kernel
theorem dX9_puntTold_49 : decode cX9_puntTold 49 = .ok (.iload_n 1, 1) := by decide +kernel
theorem dX9_puntTold_50 : decode cX9_puntTold 50 = .ok (.iconst 0, 1) := by decide +kernel
theorem dX9_puntTold_51 : decode cX9_puntTold 51 = .ok (.invokevirtual 77, 3) := by decide +kernel
theorem dX9_puntTold_54 : decode cX9_puntTold 54 = .ok (.bipush 14, 2) := by decide +kernel
theorem dX9_puntTold_56 : decode cX9_puntTold 56 = .ok (.irem, 1) := by decide +kernel
theorem dX9_puntTold_57 : decode cX9_puntTold 57 = .ok (.ireturn, 1) := by decide +kernel
theorem dX9_puntTold_58 : decode cX9_puntTold 58 = .ok (.aload_n 0, 1) := by decide +kernel
theorem dX9_puntTold_59 : decode cX9_puntTold 59 = .ok (.iload_n 1, 1) := by decide +kernel
theorem dX9_puntTold_60 : decode cX9_puntTold 60 = .ok (.iconst 0, 1) := by decide +kernel
theorem dX9_puntTold_61 : decode cX9_puntTold 61 = .ok (.invokevirtual 77, 3) := by decide +kernel
theorem dX9_puntTold_64 : decode cX9_puntTold 64 = .ok (.bipush 14, 2) := by decide +kernel
theorem dX9_puntTold_66 : decode cX9_puntTold 66 = .ok (.idiv, 1) := by decide +kernel
theorem dX9_puntTold_67 : decode cX9_puntTold 67 = .ok (.ireturn, 1) := by decide +kernel
theorem dX9_puntTold_68 : decode cX9_puntTold 68 = .ok (.aload_n 0, 1) := by decide +kernel
theorem dX9_puntTold_69 : decode cX9_puntTold 69 = .ok (.iload_n 1, 1) := by decide +kernel
theorem dX9_puntTold_70 : decode cX9_puntTold 70 = .ok (.iconst 1, 1) := by decide +kernel
theorem dX9_puntTold_71 : decode cX9_puntTold 71 = .ok (.invokevirtual 77, 3) := by decide +kernel
theorem dX9_puntTold_74 : decode cX9_puntTold 74 = .ok (.ireturn, 1) := by decide +kernel
theorem dX9_puntTold_75 : decode cX9_puntTold 75 = .ok (.aload_n 0, 1) := by decide +kernel
theorem dX9_puntTold_76 : decode cX9_puntTold 76 = .ok (.iload_n 1, 1) := by decide +kernel
theorem dX9_puntTold_77 : decode cX9_puntTold 77 = .ok (.invokevirtual 119, 3) := by decide +kernel
theorem dX9_puntTold_80 : decode cX9_puntTold 80 = .ok (.ireturn, 1) := by decide +kernel
theorem dX9_puntTold_81 : decode cX9_puntTold 81 = .ok (.aload_n 0, 1) := by decide +kernel
theorem dX9_puntTold_82 : decode cX9_puntTold 82 = .ok (.iload_n 1, 1) := by decide +kernel
theorem dX9_puntTold_83 : decode cX9_puntTold 83 = .ok (.iconst 5, 1) := by decide +kernel
theorem dX9_puntTold_84 : decode cX9_puntTold 84 = .ok (.invokevirtual 66, 3) := by decide +kernel
theorem dX9_puntTold_87 : decode cX9_puntTold 87 = .ok (.ireturn, 1) := by decide +kernel
theorem dX9_puntTold_88 : decode cX9_puntTold 88 = .ok (.aload_n 0, 1) := by decide +kernel
theorem dX9_puntTold_89 : decode cX9_puntTold 89 = .ok (.iload_n 1, 1) := by decide +kernel
theorem dX9_puntTold_90 : decode cX9_puntTold 90 = .ok (.invokevirtual 122, 3) := by decide +kernel
theorem dX9_puntTold_93 : decode cX9_puntTold 93 = .ok (.ifCond .eq 7, 3) := by decide +kernel
theorem dX9_puntTold_96 : decode cX9_puntTold 96 = .ok (.iconst 1, 1) := by decide +kernel
theorem dX9_puntTold_97 : decode cX9_puntTold 97 = .ok (.goto 4, 3) := by decide +kernel
theorem dX9_puntTold_100 : decode cX9_puntTold 100 = .ok (.iconst 0, 1) := by decide +kernel
theorem dX9_puntTold_101 : decode cX9_puntTold 101 = .ok (.ireturn, 1) := by decide +kernel
theorem dX9_puntTold_102 : decode cX9_puntTold 102 = .ok (.aload_n 0, 1) := by decide +kernel
theorem dX9_puntTold_103 : decode cX9_puntTold 103 = .ok (.iload_n 1, 1) := by decide +kernel
theorem dX9_puntTold_104 : decode cX9_puntTold 104 = .ok (.aload_n 0, 1) := by decide +kernel
theorem dX9_puntTold_105 : decode cX9_puntTold 105 = .ok (.iload_n 1, 1) := by decide +kernel
theorem dX9_puntTold_106 : decode cX9_puntTold 106 = .ok (.invokevirtual 125, 3) := by decide +kernel
theorem dX9_puntTold_109 : decode cX9_puntTold 109 = .ok (.aload_n 0, 1) := by decide +kernel
theorem dX9_puntTold_110 : decode cX9_puntTold 110 = .ok (.invokevirtual 80, 3) := by decide +kernel
theorem dX9_puntTold_113 : decode cX9_puntTold 113 = .ok (.invokevirtual 128, 3) := by decide +kernel
theorem dX9_puntTold_116 : decode cX9_puntTold 116 = .ok (.aload_n 0, 1) := by decide +kernel
theorem dX9_puntTold_117 : decode cX9_puntTold 117 = .ok (.getfield 31, 3) := by decide +kernel
theorem dX9_puntTold_120 : decode cX9_puntTold 120 = .ok (.aload_n 0, 1) := by decide +kernel
theorem dX9_puntTold_121 : decode cX9_puntTold 121 = .ok (.iload_n 1, 1) := by decide +kernel
theorem dX9_puntTold_122 : decode cX9_puntTold 122 = .ok (.iconst 0, 1) := by decide +kernel
theorem dX9_puntTold_123 : decode cX9_puntTold 123 = .ok (.invokevirtual 77, 3) := by decide +kernel
theorem dX9_puntTold_126 : decode cX9_puntTold 126 = .ok (.iaload, 1) := by decide +kernel
theorem dX9_puntTold_127 : decode cX9_puntTold 127 = .ok (.ireturn, 1) := by decide +kernel
theorem dX9_puntTold_128 : decode cX9_puntTold 128 = .ok (.aload_n 0, 1) := by decide +kernel
theorem dX9_puntTold_129 : decode cX9_puntTold 129 = .ok (.iload_n 1, 1) := by decide +kernel
theorem dX9_puntTold_130 : decode cX9_puntTold 130 = .ok (.iconst 2, 1) := by decide +kernel
theorem dX9_puntTold_131 : decode cX9_puntTold 131 = .ok (.invokevirtual 77, 3) := by decide +kernel
theorem dX9_puntTold_134 : decode cX9_puntTold 134 = .ok (.ireturn, 1) := by decide +kernel
theorem dX9_puntTold_135 : decode cX9_puntTold 135 = .ok (.aload_n 0, 1) := by decide +kernel
theorem dX9_puntTold_136 : decode cX9_puntTold 136 = .ok (.iload_n 1, 1) := by decide +kernel
theorem dX9_puntTold_137 : decode cX9_puntTold 137 = .ok (.iconst 3, 1) := by decide +kernel
theorem dX9_puntTold_138 : decode cX9_puntTold 138 = .ok (.invokevirtual 77, 3) := by decide +kernel
theorem dX9_puntTold_141 : decode cX9_puntTold 141 = .ok (.ireturn, 1) := by decide +kernel
theorem dX9_punt_0 : decode cX9_punt 0 = .ok (.aload_n 0, 1) := by decide +kernel
theorem dX9_punt_1 : decode cX9_punt 1 = .ok (.iconst 0, 1) := by decide +kernel
theorem dX9_punt_2 : decode cX9_punt 2 = .ok (.putfield 40, 3) := by decide +kernel
theorem dX9_punt_5 : decode cX9_punt 5 = .ok (.aload_n 0, 1) := by decide +kernel
theorem dX9_punt_6 : decode cX9_punt 6 = .ok (.iload_n 1, 1) := by decide +kernel
theorem dX9_punt_7 : decode cX9_punt 7 = .ok (.invokevirtual 104, 3) := by decide +kernel
theorem dX9_punt_10 : decode cX9_punt 10 = .ok (.ifCond .eq 22, 3) := by decide +kernel
theorem dX9_punt_13 : decode cX9_punt 13 = .ok (.iload_n 2, 1) := by decide +kernel
theorem dX9_punt_14 : decode cX9_punt 14 = .ok (.iconst 0, 1) := by decide +kernel
theorem dX9_punt_15 : decode cX9_punt 15 = .ok (.bipush 8, 2) := by decide +kernel
theorem dX9_punt_17 : decode cX9_punt 17 = .ok (.invokestatic 44, 3) := by decide +kernel
theorem dX9_punt_20 : decode cX9_punt 20 = .ok (.ifCond .eq 12, 3) := by decide +kernel
theorem dX9_punt_23 : decode cX9_punt 23 = .ok (.aload_n 0, 1) := by decide +kernel
theorem dX9_punt_24 : decode cX9_punt 24 = .ok (.iload_n 1, 1) := by decide +kernel
theorem dX9_punt_25 : decode cX9_punt 25 = .ok (.iload_n 2, 1) := by decide +kernel
theorem dX9_punt_26 : decode cX9_punt 26 = .ok (.invokevirtual 131, 3) := by decide +kernel
theorem dX9_punt_29 : decode cX9_punt 29 = .ok (.goto 8, 3) := by decide +kernel
theorem dX9_punt_32 : decode cX9_punt 32 = .ok (.aload_n 0, 1) := by decide +kernel
theorem dX9_punt_33 : decode cX9_punt 33 = .ok (.iconst 1, 1) := by decide +kernel
theorem dX9_punt_34 : decode cX9_punt 34 = .ok (.invokevirtual 73, 3) := by decide +kernel
theorem dX9_punt_37 : decode cX9_punt 37 = .ok (.ireturn, 1) := by decide +kernel
theorem dX9_addTraveller_0 : decode cX9_addTraveller 0 = .ok (.aload_n 0, 1) := by decide +kernel
theorem dX9_addTraveller_1 : decode cX9_addTraveller 1 = .ok (.iconst 0, 1) := by decide +kernel
theorem dX9_addTraveller_2 : decode cX9_addTraveller 2 = .ok (.putfield 40, 3) := by decide +kernel
theorem dX9_addTraveller_5 : decode cX9_addTraveller 5 = .ok (.aload_n 0, 1) := by decide +kernel
theorem dX9_addTraveller_6 : decode cX9_addTraveller 6 = .ok (.iload_n 1, 1) := by decide +kernel
theorem dX9_addTraveller_7 : decode cX9_addTraveller 7 = .ok (.invokevirtual 90, 3) := by decide +kernel
theorem dX9_addTraveller_10 : decode cX9_addTraveller 10 = .ok (.ifCond .eq 11, 3) := by decide +kernel
theorem dX9_addTraveller_13 : decode cX9_addTraveller 13 = .ok (.aload_n 0, 1) := by decide +kernel
theorem dX9_addTraveller_14 : decode cX9_addTraveller 14 = .ok (.iload_n 2, 1) := by decide +kernel
theorem dX9_addTraveller_15 : decode cX9_addTraveller 15 = .ok (.invokevirtual 90, 3) := by decide +kernel
theorem dX9_addTraveller_18 : decode cX9_addTraveller 18 = .ok (.ifCond .ne 9, 3) := by decide +kernel
theorem dX9_addTraveller_21 : decode cX9_addTraveller 21 = .ok (.aload_n 0, 1) := by decide +kernel
theorem dX9_addTraveller_22 : decode cX9_addTraveller 22 = .ok (.iconst 1, 1) := by decide +kernel
theorem dX9_addTraveller_23 : decode cX9_addTraveller 23 = .ok (.invokevirtual 73, 3) := by decide +kernel
theorem dX9_addTraveller_26 : decode cX9_addTraveller 26 = .ok (.ireturn, 1) := by decide +kernel
theorem dX9_addTraveller_27 : decode cX9_addTraveller 27 = .ok (.iload_n 1, 1) := by decide +kernel
theorem dX9_addTraveller_28 : decode cX9_addTraveller 28 = .ok (.iload_n 2, 1) := by decide +kernel
theorem dX9_addTraveller_29 : decode cX9_addTraveller 29 = .ok (.if_icmp .eq 14, 3) := by decide +kernel
theorem dX9_addTraveller_32 : decode cX9_addTraveller 32 = .ok (.iload_n 3, 1) := by decide +kernel
theorem dX9_addTraveller_33 : decode cX9_addTraveller 33 = .ok (.iconst 0, 1) := by decide +kernel
theorem dX9_addTraveller_34 : decode cX9_addTraveller 34 = .ok (.sipush 1000, 3) := by decide +kernel
theorem dX9_addTraveller_37 : decode cX9_addTraveller 37 = .ok (.invokestatic 44, 3) := by decide +kernel
theorem dX9_addTraveller_40 : decode cX9_addTraveller 40 = .ok (.ifCond .ne 9, 3) := by decide +kernel
theorem dX9_addTraveller_43 : decode cX9_addTraveller 43 = .ok (.aload_n 0, 1) := by decide +kernel
theorem dX9_addTraveller_44 : decode cX9_addTraveller 44 = .ok (.iconst 2, 1) := by decide +kernel
theorem dX9_addTraveller_45 : decode cX9_addTraveller 45 = .ok (.invokevirtual 73, 3) := by decide +kernel
theorem dX9_addTraveller_48 : decode cX9_addTraveller 48 = .ok (.ireturn, 1) := by decide +kernel
theorem dX9_addTraveller_49 : decode cX9_addTraveller 49 = .ok (.aload_n 0, 1) := by decide +kernel
theorem dX9_addTraveller_50 : decode cX9_addTraveller 50 = .ok (.getfield 113, 3) := by decide +kernel
theorem dX9_addTraveller_53 : decode cX9_addTraveller 53 = .ok (.bipush 30, 2) := by decide +kernel
theorem dX9_addTraveller_55 : decode cX9_addTraveller 55 = .ok (.if_icmp .ne 9, 3) := by decide +kernel
theorem dX9_addTraveller_58 : decode cX9_addTraveller 58 = .ok (.aload_n 0, 1) := by decide +kernel
theorem dX9_addTraveller_59 : decode cX9_addTraveller 59 = .ok (.iconst 3, 1) := by decide +kernel
theorem dX9_addTraveller_60 : decode cX9_addTraveller 60 = .ok (.invokevirtual 73, 3) := by decide +kernel
theorem dX9_addTraveller_63 : decode cX9_addTraveller 63 = .ok (.ireturn, 1) := by decide +kernel
theorem dX9_addTraveller_64 : decode cX9_addTraveller 64 = .ok (.iconst 5, 1) := by decide +kernel
theorem dX9_addTraveller_65 : decode cX9_addTraveller 65 = .ok (.newarray .int, 2) := by decide +kernel
theorem dX9_addTraveller_67 : decode cX9_addTraveller 67 = .ok (.dup, 1) := by decide +kernel
theorem dX9_addTraveller_68 : decode cX9_addTraveller 68 = .ok (.iconst 0, 1) := by decide +kernel
theorem dX9_addTraveller_69 : decode cX9_addTraveller 69 = .ok (.iload_n 2, 1) := by decide +kernel
theorem dX9_addTraveller_70 : decode cX9_addTraveller 70 = .ok (.iastore, 1) := by decide +kernel
theorem dX9_addTraveller_71 : decode cX9_addTraveller 71 = .ok (.dup, 1) := by decide +kernel
theorem dX9_addTraveller_72 : decode cX9_addTraveller 72 = .ok (.iconst 1, 1) := by decide +kernel
theorem dX9_addTraveller_73 : decode cX9_addTraveller 73 = .ok (.iload_n 3, 1) := by decide +kernel
theorem dX9_addTraveller_74 : decode cX9_addTraveller 74 = .ok (.iastore, 1) := by decide +kernel
theorem dX9_addTraveller_75 : decode cX9_addTraveller 75 = .ok (.dup, 1) := by decide +kernel
theorem dX9_addTraveller_76 : decode cX9_addTraveller 76 = .ok (.iconst 2, 1) := by decide +kernel
theorem dX9_addTraveller_77 : decode cX9_addTraveller 77 = .ok (.iload_n 1, 1) := by decide +kernel
theorem dX9_addTraveller_78 : decode cX9_addTraveller 78 = .ok (.iastore, 1) := by decide +kernel
theorem dX9_addTraveller_79 : decode cX9_addTraveller 79 = .ok (.dup, 1) := by decide +kernel
theorem dX9_addTraveller_80 : decode cX9_addTraveller 80 = .ok (.iconst 3, 1) := by decide +kernel
theorem dX9_addTraveller_81 : decode cX9_addTraveller 81 = .ok (.iconst (-1), 1) := by decide +kernel
theorem dX9_addTraveller_82 : decode cX9_addTraveller 82 = .ok (.iastore, 1) := by decide +kernel
theorem dX9_addTraveller_83 : decode cX9_addTraveller 83 = .ok (.dup, 1) := by decide +kernel
theorem dX9_addTraveller_84 : decode cX9_addTraveller 84 = .ok (.iconst 4, 1) := by decide +kernel
theorem dX9_addTraveller_85 : decode cX9_addTraveller 85 = .ok (.iconst (-1), 1) := by decide +kernel
theorem dX9_addTraveller_86 : decode cX9_addTraveller 86 = .ok (.iastore, 1) := by decide +kernel
theorem dX9_addTraveller_87 : decode cX9_addTraveller 87 = .ok (.astore 4, 2) := by decide +kernel
theorem dX9_addTraveller_89 : decode cX9_addTraveller 89 = .ok (.aload 4, 2) := by decide +kernel
theorem dX9_addTraveller_91 : decode cX9_addTraveller 91 = .ok (.iconst 0, 1) := by decide +kernel
theorem dX9_addTraveller_92 : decode cX9_addTraveller 92 = .ok (.aload_n 0, 1) := by decide +kernel
theorem dX9_addTraveller_93 : decode cX9_addTraveller 93 = .ok (.getfield 28, 3) := by decide +kernel
theorem dX9_addTraveller_96 : decode cX9_addTraveller 96 = .ok (.iconst 5, 1) := by decide +kernel
theorem dX9_addTraveller_97 : decode cX9_addTraveller 97 = .ok (.aload_n 0, 1) := by decide +kernel
theorem dX9_addTraveller_98 : decode cX9_addTraveller 98 = .ok (.getfield 113, 3) := by decide +kernel
theorem dX9_addTraveller_101 : decode cX9_addTraveller 101 = .ok (.imul, 1) := by decide +kernel
theorem dX9_addTraveller_102 : decode cX9_addTraveller 102 = .ok (.iconst 5, 1) := by decide +kernel
theorem dX9_addTraveller_103 : decode cX9_addTraveller 103 = .ok (.invokestatic 94, 3) := by decide +kernel
theorem dX9_addTraveller_106 : decode cX9_addTraveller 106 = .ok (.aload_n 0, 1) := by decide +kernel
theorem dX9_addTraveller_107 : decode cX9_addTraveller 107 = .ok (.dup, 1) := by decide +kernel
theorem dX9_addTraveller_108 : decode cX9_addTraveller 108 = .ok (.getfield 113, 3) := by decide +kernel
theorem dX9_addTraveller_111 : decode cX9_addTraveller 111 = .ok (.iconst 1, 1) := by decide +kernel
theorem dX9_addTraveller_112 : decode cX9_addTraveller 112 = .ok (.iadd, 1) := by decide +kernel
theorem dX9_addTraveller_113 : decode cX9_addTraveller 113 = .ok (.putfield 113, 3) := by decide +kernel
theorem dX9_addTraveller_116 : decode cX9_addTraveller 116 = .ok (.aload_n 0, 1) := by decide +kernel
theorem dX9_addTraveller_117 : decode cX9_addTraveller 117 = .ok (.getfield 113, 3) := by decide +kernel
theorem dX9_addTraveller_120 : decode cX9_addTraveller 120 = .ok (.iconst 1, 1) := by decide +kernel
theorem dX9_addTraveller_121 : decode cX9_addTraveller 121 = .ok (.isub, 1) := by decide +kernel
theorem dX9_addTraveller_122 : decode cX9_addTraveller 122 = .ok (.ireturn, 1) := by decide +kernel
theorem dX9_across_0 : decode cX9_across 0 = .ok (.aload_n 0, 1) := by decide +kernel
theorem dX9_across_1 : decode cX9_across 1 = .ok (.iload_n 1, 1) := by decide +kernel
theorem dX9_across_2 : decode cX9_across 2 = .ok (.iconst 0, 1) := by decide +kernel
theorem dX9_across_3 : decode cX9_across 3 = .ok (.invokevirtual 66, 3) := by decide +kernel
theorem dX9_across_6 : decode cX9_across 6 = .ok (.iload_n 2, 1) := by decide +kernel
theorem dX9_across_7 : decode cX9_across 7 = .ok (.if_icmp .ne 12, 3) := by decide +kernel
theorem dX9_across_10 : decode cX9_across 10 = .ok (.aload_n 0, 1) := by decide +kernel
theorem dX9_across_11 : decode cX9_across 11 = .ok (.iload_n 1, 1) := by decide +kernel
theorem dX9_across_12 : decode cX9_across 12 = .ok (.iconst 1, 1) := by decide +kernel
theorem dX9_across_13 : decode cX9_across 13 = .ok (.invokevirtual 66, 3) := by decide +kernel
theorem dX9_across_16 : decode cX9_across 16 = .ok (.goto 23, 3) := by decide +kernel
theorem dX9_across_19 : decode cX9_across 19 = .ok (.aload_n 0, 1) := by decide +kernel
theorem dX9_across_20 : decode cX9_across 20 = .ok (.iload_n 1, 1) := by decide +kernel
theorem dX9_across_21 : decode cX9_across 21 = .ok (.iconst 1, 1) := by decide +kernel
theorem dX9_across_22 : decode cX9_across 22 = .ok (.invokevirtual 66, 3) := by decide +kernel
theorem dX9_across_25 : decode cX9_across 25 = .ok (.iload_n 2, 1) := by decide +kernel
theorem dX9_across_26 : decode cX9_across 26 = .ok (.if_icmp .ne 12, 3) := by decide +kernel
theorem dX9_across_29 : decode cX9_across 29 = .ok (.aload_n 0, 1) := by decide +kernel
theorem dX9_across_30 : decode cX9_across 30 = .ok (.iload_n 1, 1) := by decide +kernel
theorem dX9_across_31 : decode cX9_across 31 = .ok (.iconst 0, 1) := by decide +kernel
theorem dX9_across_32 : decode cX9_across 32 = .ok (.invokevirtual 66, 3) := by decide +kernel
theorem dX9_across_35 : decode cX9_across 35 = .ok (.goto 4, 3) := by decide +kernel
theorem dX9_across_38 : decode cX9_across 38 = .ok (.iconst (-1), 1) := by decide +kernel
theorem dX9_across_39 : decode cX9_across 39 = .ok (.ireturn, 1) := by decide +kernel
theorem dX9_link_0 : decode cX9_link 0 = .ok (.iconst 0, 1) := by decide +kernel
theorem dX9_link_1 : decode cX9_link 1 = .ok (.istore_n 2, 1) := by decide +kernel
theorem dX9_link_2 : decode cX9_link 2 = .ok (.iload_n 2, 1) := by decide +kernel
theorem dX9_link_3 : decode cX9_link 3 = .ok (.aload_n 0, 1) := by decide +kernel
theorem dX9_link_4 : decode cX9_link 4 = .ok (.getfield 48, 3) := by decide +kernel
theorem dX9_link_7 : decode cX9_link 7 = .ok (.if_icmp .ge 25, 3) := by decide +kernel
theorem dX9_link_10 : decode cX9_link 10 = .ok (.aload_n 0, 1) := by decide +kernel
theorem dX9_link_11 : decode cX9_link 11 = .ok (.getfield 34, 3) := by decide +kernel
theorem dX9_link_14 : decode cX9_link 14 = .ok (.iload_n 2, 1) := by decide +kernel
theorem dX9_link_15 : decode cX9_link 15 = .ok (.iload_n 2, 1) := by decide +kernel
theorem dX9_link_16 : decode cX9_link 16 = .ok (.iload_n 1, 1) := by decide +kernel
theorem dX9_link_17 : decode cX9_link 17 = .ok (.if_icmp .ne 7, 3) := by decide +kernel
theorem dX9_link_20 : decode cX9_link 20 = .ok (.iconst 0, 1) := by decide +kernel
theorem dX9_link_21 : decode cX9_link 21 = .ok (.goto 4, 3) := by decide +kernel
theorem dX9_link_24 : decode cX9_link 24 = .ok (.iconst (-1), 1) := by decide +kernel
theorem dX9_link_25 : decode cX9_link 25 = .ok (.iastore, 1) := by decide +kernel
theorem dX9_link_26 : decode cX9_link 26 = .ok (.iinc 2 1, 3) := by decide +kernel
theorem dX9_link_29 : decode cX9_link 29 = .ok (.goto (-27), 3) := by decide +kernel
theorem dX9_link_32 : decode cX9_link 32 = .ok (.aload_n 0, 1) := by decide +kernel
theorem dX9_link_33 : decode cX9_link 33 = .ok (.getfield 37, 3) := by decide +kernel
theorem dX9_link_36 : decode cX9_link 36 = .ok (.iload_n 1, 1) := by decide +kernel
theorem dX9_link_37 : decode cX9_link 37 = .ok (.iconst 0, 1) := by decide +kernel
theorem dX9_link_38 : decode cX9_link 38 = .ok (.iastore, 1) := by decide +kernel
theorem dX9_link_39 : decode cX9_link 39 = .ok (.iconst 1, 1) := by decide +kernel
theorem dX9_link_40 : decode cX9_link 40 = .ok (.istore_n 2, 1) := by decide +kernel
theorem dX9_link_41 : decode cX9_link 41 = .ok (.iload_n 2, 1) := by decide +kernel
theorem dX9_link_42 : decode cX9_link 42 = .ok (.aload_n 0, 1) := by decide +kernel
theorem dX9_link_43 : decode cX9_link 43 = .ok (.getfield 48, 3) := by decide +kernel
theorem dX9_link_46 : decode cX9_link 46 = .ok (.if_icmp .gt 153, 3) := by decide +kernel
theorem dX9_link_49 : decode cX9_link 49 = .ok (.iconst 0, 1) := by decide +kernel
theorem dX9_link_50 : decode cX9_link 50 = .ok (.istore_n 3, 1) := by decide +kernel
theorem dX9_link_51 : decode cX9_link 51 = .ok (.iload_n 3, 1) := by decide +kernel
theorem dX9_link_52 : decode cX9_link 52 = .ok (.aload_n 0, 1) := by decide +kernel
theorem dX9_link_53 : decode cX9_link 53 = .ok (.getfield 48, 3) := by decide +kernel
theorem dX9_link_56 : decode cX9_link 56 = .ok (.if_icmp .ge 137, 3) := by decide +kernel
theorem dX9_link_59 : decode cX9_link 59 = .ok (.aload_n 0, 1) := by decide +kernel
theorem dX9_link_60 : decode cX9_link 60 = .ok (.getfield 34, 3) := by decide +kernel
theorem dX9_link_63 : decode cX9_link 63 = .ok (.iload_n 3, 1) := by decide +kernel
theorem dX9_link_64 : decode cX9_link 64 = .ok (.iaload, 1) := by decide +kernel
theorem dX9_link_65 : decode cX9_link 65 = .ok (.iconst (-1), 1) := by decide +kernel
theorem dX9_link_66 : decode cX9_link 66 = .ok (.if_icmp .eq 16, 3) := by decide +kernel
theorem dX9_link_69 : decode cX9_link 69 = .ok (.aload_n 0, 1) := by decide +kernel
theorem dX9_link_70 : decode cX9_link 70 = .ok (.getfield 34, 3) := by decide +kernel
theorem dX9_link_73 : decode cX9_link 73 = .ok (.iload_n 3, 1) := by decide +kernel
theorem dX9_link_74 : decode cX9_link 74 = .ok (.iaload, 1) := by decide +kernel
theorem dX9_link_75 : decode cX9_link 75 = .ok (.iload_n 2, 1) := by decide +kernel
theorem dX9_link_76 : decode cX9_link 76 = .ok (.if_icmp .ge 6, 3) := by decide +kernel
theorem dX9_link_79 : decode cX9_link 79 = .ok (.goto 108, 3) := by decide +kernel
theorem dX9_link_82 : decode cX9_link 82 = .ok (.iconst 0, 1) := by decide +kernel
theorem dX9_link_83 : decode cX9_link 83 = .ok (.istore 4, 2) := by decide +kernel
theorem dX9_link_85 : decode cX9_link 85 = .ok (.iload 4, 2) := by decide +kernel
theorem dX9_link_87 : decode cX9_link 87 = .ok (.aload_n 0, 1) := by decide +kernel
theorem dX9_link_88 : decode cX9_link 88 = .ok (.getfield 51, 3) := by decide +kernel
theorem dX9_link_91 : decode cX9_link 91 = .ok (.if_icmp .ge 96, 3) := by decide +kernel
theorem dX9_link_94 : decode cX9_link 94 = .ok (.aload_n 0, 1) := by decide +kernel
theorem dX9_link_95 : decode cX9_link 95 = .ok (.iload 4, 2) := by decide +kernel
theorem dX9_link_97 : decode cX9_link 97 = .ok (.iload_n 3, 1) := by decide +kernel
theorem dX9_link_98 : decode cX9_link 98 = .ok (.invokevirtual 134, 3) := by decide +kernel
theorem dX9_link_101 : decode cX9_link 101 = .ok (.istore 5, 2) := by decide +kernel
theorem dX9_link_103 : decode cX9_link 103 = .ok (.iload 5, 2) := by decide +kernel
theorem dX9_link_105 : decode cX9_link 105 = .ok (.iconst (-1), 1) := by decide +kernel
theorem dX9_link_106 : decode cX9_link 106 = .ok (.if_icmp .eq 75, 3) := by decide +kernel
theorem dX9_link_109 : decode cX9_link 109 = .ok (.aload_n 0, 1) := by decide +kernel
theorem dX9_link_110 : decode cX9_link 110 = .ok (.getfield 34, 3) := by decide +kernel
theorem dX9_link_113 : decode cX9_link 113 = .ok (.iload 5, 2) := by decide +kernel
theorem dX9_link_115 : decode cX9_link 115 = .ok (.iaload, 1) := by decide +kernel
theorem dX9_link_116 : decode cX9_link 116 = .ok (.iload_n 2, 1) := by decide +kernel
theorem dX9_link_117 : decode cX9_link 117 = .ok (.iconst 1, 1) := by decide +kernel
theorem dX9_link_118 : decode cX9_link 118 = .ok (.isub, 1) := by decide +kernel
theorem dX9_link_119 : decode cX9_link 119 = .ok (.if_icmp .eq 6, 3) := by decide +kernel
theorem dX9_link_122 : decode cX9_link 122 = .ok (.goto 59, 3) := by decide +kernel
theorem dX9_link_125 : decode cX9_link 125 = .ok (.aload_n 0, 1) := by decide +kernel
theorem dX9_link_126 : decode cX9_link 126 = .ok (.getfield 37, 3) := by decide +kernel
theorem dX9_link_129 : decode cX9_link 129 = .ok (.iload 5, 2) := by decide +kernel
theorem dX9_link_131 : decode cX9_link 131 = .ok (.iaload, 1) := by decide +kernel
theorem dX9_link_132 : decode cX9_link 132 = .ok (.aload_n 0, 1) := by decide +kernel
theorem dX9_link_133 : decode cX9_link 133 = .ok (.iload 4, 2) := by decide +kernel
theorem dX9_link_135 : decode cX9_link 135 = .ok (.iconst 5, 1) := by decide +kernel
theorem dX9_link_136 : decode cX9_link 136 = .ok (.invokevirtual 66, 3) := by decide +kernel
theorem dX9_link_139 : decode cX9_link 139 = .ok (.iadd, 1) := by decide +kernel
theorem dX9_link_140 : decode cX9_link 140 = .ok (.istore 6, 2) := by decide +kernel
theorem dX9_link_142 : decode cX9_link 142 = .ok (.aload_n 0, 1) := by decide +kernel
theorem dX9_link_143 : decode cX9_link 143 = .ok (.getfield 37, 3) := by decide +kernel
theorem dX9_link_146 : decode cX9_link 146 = .ok (.iload_n 3, 1) := by decide +kernel
theorem dX9_link_147 : decode cX9_link 147 = .ok (.aload_n 0, 1) := by decide +kernel
theorem dX9_link_148 : decode cX9_link 148 = .ok (.getfield 34, 3) := by decide +kernel
theorem dX9_link_151 : decode cX9_link 151 = .ok (.iload_n 3, 1) := by decide +kernel
theorem dX9_link_152 : decode cX9_link 152 = .ok (.iaload, 1) := by decide +kernel
theorem dX9_link_153 : decode cX9_link 153 = .ok (.iload_n 2, 1) := by decide +kernel
theorem dX9_link_154 : decode cX9_link 154 = .ok (.if_icmp .ne 17, 3) := by decide +kernel
theorem dX9_link_157 : decode cX9_link 157 = .ok (.aload_n 0, 1) := by decide +kernel
theorem dX9_link_158 : decode cX9_link 158 = .ok (.getfield 37, 3) := by decide +kernel
theorem dX9_link_161 : decode cX9_link 161 = .ok (.iload_n 3, 1) := by decide +kernel
theorem dX9_link_162 : decode cX9_link 162 = .ok (.iaload, 1) := by decide +kernel
theorem dX9_link_163 : decode cX9_link 163 = .ok (.iload 6, 2) := by decide +kernel
theorem dX9_link_165 : decode cX9_link 165 = .ok (.invokestatic 137, 3) := by decide +kernel
theorem dX9_link_168 : decode cX9_link 168 = .ok (.goto 5, 3) := by decide +kernel
theorem dX9_link_171 : decode cX9_link 171 = .ok (.iload 6, 2) := by decide +kernel
theorem dX9_link_173 : decode cX9_link 173 = .ok (.iastore, 1) := by decide +kernel
theorem dX9_link_174 : decode cX9_link 174 = .ok (.aload_n 0, 1) := by decide +kernel
theorem dX9_link_175 : decode cX9_link 175 = .ok (.getfield 34, 3) := by decide +kernel
theorem dX9_link_178 : decode cX9_link 178 = .ok (.iload_n 3, 1) := by decide +kernel
theorem dX9_link_179 : decode cX9_link 179 = .ok (.iload_n 2, 1) := by decide +kernel
theorem dX9_link_180 : decode cX9_link 180 = .ok (.iastore, 1) := by decide +kernel
theorem dX9_link_181 : decode cX9_link 181 = .ok (.iinc 4 1, 3) := by decide +kernel
theorem dX9_link_184 : decode cX9_link 184 = .ok (.goto (-99), 3) := by decide +kernel
theorem dX9_link_187 : decode cX9_link 187 = .ok (.iinc 3 1, 3) := by decide +kernel
theorem dX9_link_190 : decode cX9_link 190 = .ok (.goto (-139), 3) := by decide +kernel
theorem dX9_link_193 : decode cX9_link 193 = .ok (.iinc 2 1, 3) := by decide +kernel
theorem dX9_link_196 : decode cX9_link 196 = .ok (.goto (-155), 3) := by decide +kernel
theorem dX9_link_199 : decode cX9_link 199 = .ok (.return_, 1) := by decide +kernel
theorem dX9_takes_0 : decode cX9_takes 0 = .ok (.aload_n 0, 1) := by decide +kernel
theorem dX9_takes_1 : decode cX9_takes 1 = .ok (.iload_n 2, 1) := by decide +kernel
theorem dX9_takes_2 : decode cX9_takes 2 = .ok (.invokevirtual 140, 3) := by decide +kernel
theorem dX9_takes_5 : decode cX9_takes 5 = .ok (.iconst 0, 1) := by decide +kernel
theorem dX9_takes_6 : decode cX9_takes 6 = .ok (.istore_n 3, 1) := by decide +kernel
theorem dX9_takes_7 : decode cX9_takes 7 = .ok (.iload_n 3, 1) := by decide +kernel
theorem dX9_takes_8 : decode cX9_takes 8 = .ok (.aload_n 0, 1) := by decide +kernel
theorem dX9_takes_9 : decode cX9_takes 9 = .ok (.getfield 51, 3) := by decide +kernel
theorem dX9_takes_12 : decode cX9_takes 12 = .ok (.if_icmp .ge 58, 3) := by decide +kernel
theorem dX9_takes_15 : decode cX9_takes 15 = .ok (.iload_n 1, 1) := by decide +kernel
theorem dX9_takes_16 : decode cX9_takes 16 = .ok (.iload_n 2, 1) := by decide +kernel
theorem dX9_takes_17 : decode cX9_takes 17 = .ok (.if_icmp .eq 53, 3) := by decide +kernel
theorem dX9_takes_20 : decode cX9_takes 20 = .ok (.aload_n 0, 1) := by decide +kernel
theorem dX9_takes_21 : decode cX9_takes 21 = .ok (.getfield 34, 3) := by decide +kernel
theorem dX9_takes_24 : decode cX9_takes 24 = .ok (.iload_n 1, 1) := by decide +kernel
theorem dX9_takes_25 : decode cX9_takes 25 = .ok (.iaload, 1) := by decide +kernel
theorem dX9_takes_26 : decode cX9_takes 26 = .ok (.iconst (-1), 1) := by decide +kernel
theorem dX9_takes_27 : decode cX9_takes 27 = .ok (.if_icmp .eq 43, 3) := by decide +kernel
theorem dX9_takes_30 : decode cX9_takes 30 = .ok (.aload_n 0, 1) := by decide +kernel
theorem dX9_takes_31 : decode cX9_takes 31 = .ok (.iload_n 3, 1) := by decide +kernel
theorem dX9_takes_32 : decode cX9_takes 32 = .ok (.iload_n 1, 1) := by decide +kernel
theorem dX9_takes_33 : decode cX9_takes 33 = .ok (.invokevirtual 134, 3) := by decide +kernel
theorem dX9_takes_36 : decode cX9_takes 36 = .ok (.istore 4, 2) := by decide +kernel
theorem dX9_takes_38 : decode cX9_takes 38 = .ok (.iload 4, 2) := by decide +kernel
theorem dX9_takes_40 : decode cX9_takes 40 = .ok (.iconst (-1), 1) := by decide +kernel
theorem dX9_takes_41 : decode cX9_takes 41 = .ok (.if_icmp .eq 23, 3) := by decide +kernel
theorem dX9_takes_44 : decode cX9_takes 44 = .ok (.aload_n 0, 1) := by decide +kernel
theorem dX9_takes_45 : decode cX9_takes 45 = .ok (.getfield 34, 3) := by decide +kernel
theorem dX9_takes_48 : decode cX9_takes 48 = .ok (.iload 4, 2) := by decide +kernel
theorem dX9_takes_50 : decode cX9_takes 50 = .ok (.iaload, 1) := by decide +kernel
theorem dX9_takes_51 : decode cX9_takes 51 = .ok (.aload_n 0, 1) := by decide +kernel
theorem dX9_takes_52 : decode cX9_takes 52 = .ok (.getfield 34, 3) := by decide +kernel
theorem dX9_takes_55 : decode cX9_takes 55 = .ok (.iload_n 1, 1) := by decide +kernel
theorem dX9_takes_56 : decode cX9_takes 56 = .ok (.iaload, 1) := by decide +kernel
theorem dX9_takes_57 : decode cX9_takes 57 = .ok (.iconst 1, 1) := by decide +kernel
theorem dX9_takes_58 : decode cX9_takes 58 = .ok (.isub, 1) := by decide +kernel
theorem dX9_takes_59 : decode cX9_takes 59 = .ok (.if_icmp .ne 5, 3) := by decide +kernel
theorem dX9_takes_62 : decode cX9_takes 62 = .ok (.iload_n 3, 1) := by decide +kernel
theorem dX9_takes_63 : decode cX9_takes 63 = .ok (.ireturn, 1) := by decide +kernel
theorem dX9_takes_64 : decode cX9_takes 64 = .ok (.iinc 3 1, 3) := by decide +kernel
theorem dX9_takes_67 : decode cX9_takes 67 = .ok (.goto (-60), 3) := by decide +kernel
theorem dX9_takes_70 : decode cX9_takes 70 = .ok (.iconst (-1), 1) := by decide +kernel
theorem dX9_takes_71 : decode cX9_takes 71 = .ok (.ireturn, 1) := by decide +kernel
theorem dX9_chainFrom_0 : decode cX9_chainFrom 0 = .ok (.aload_n 0, 1) := by decide +kernel
theorem dX9_chainFrom_1 : decode cX9_chainFrom 1 = .ok (.iload_n 2, 1) := by decide +kernel
theorem dX9_chainFrom_2 : decode cX9_chainFrom 2 = .ok (.invokevirtual 140, 3) := by decide +kernel
theorem dX9_chainFrom_5 : decode cX9_chainFrom 5 = .ok (.aload_n 0, 1) := by decide +kernel
theorem dX9_chainFrom_6 : decode cX9_chainFrom 6 = .ok (.getfield 34, 3) := by decide +kernel
theorem dX9_chainFrom_9 : decode cX9_chainFrom 9 = .ok (.iload_n 1, 1) := by decide +kernel
theorem dX9_chainFrom_10 : decode cX9_chainFrom 10 = .ok (.iaload, 1) := by decide +kernel
theorem dX9_chainFrom_11 : decode cX9_chainFrom 11 = .ok (.ireturn, 1) := by decide +kernel
theorem dX9_hasCome_0 : decode cX9_hasCome 0 = .ok (.aload_n 0, 1) := by decide +kernel
theorem dX9_hasCome_1 : decode cX9_hasCome 1 = .ok (.iload_n 1, 1) := by decide +kernel
theorem dX9_hasCome_2 : decode cX9_hasCome 2 = .ok (.iconst 4, 1) := by decide +kernel
theorem dX9_hasCome_3 : decode cX9_hasCome 3 = .ok (.invokevirtual 116, 3) := by decide +kernel
theorem dX9_hasCome_6 : decode cX9_hasCome 6 = .ok (.iconst (-1), 1) := by decide +kernel
theorem dX9_hasCome_7 : decode cX9_hasCome 7 = .ok (.if_icmp .eq 7, 3) := by decide +kernel
theorem dX9_hasCome_10 : decode cX9_hasCome 10 = .ok (.iconst 1, 1) := by decide +kernel
theorem dX9_hasCome_11 : decode cX9_hasCome 11 = .ok (.goto 4, 3) := by decide +kernel
theorem dX9_hasCome_14 : decode cX9_hasCome 14 = .ok (.iconst 0, 1) := by decide +kernel
theorem dX9_hasCome_15 : decode cX9_hasCome 15 = .ok (.ireturn, 1) := by decide +kernel
theorem dX9_travellerTold_0 : decode cX9_travellerTold 0 = .ok (.iload_n 2, 1) := by decide +kernel
theorem dX9_travellerTold_1 : decode cX9_travellerTold 1 = .ok (.tableswitch 101 4 6 #[27, 41, 94], 27) := by decide +kernel
theorem dX9_travellerTold_28 : decode cX9_travellerTold 28 = .ok (.aload_n 0, 1) := by decide +kernel
theorem dX9_travellerTold_29 : decode cX9_travellerTold 29 = .ok (.iload_n 1, 1) := by decide +kernel
theorem dX9_travellerTold_30 : decode cX9_travellerTold 30 = .ok (.invokevirtual 144, 3) := by decide +kernel
theorem dX9_travellerTold_33 : decode cX9_travellerTold 33 = .ok (.ifCond .eq 7, 3) := by decide +kernel
theorem dX9_travellerTold_36 : decode cX9_travellerTold 36 = .ok (.iconst 1, 1) := by decide +kernel
theorem dX9_travellerTold_37 : decode cX9_travellerTold 37 = .ok (.goto 4, 3) := by decide +kernel
theorem dX9_travellerTold_40 : decode cX9_travellerTold 40 = .ok (.iconst 0, 1) := by decide +kernel
theorem dX9_travellerTold_41 : decode cX9_travellerTold 41 = .ok (.ireturn, 1) := by decide +kernel
theorem dX9_travellerTold_42 : decode cX9_travellerTold 42 = .ok (.aload_n 0, 1) := by decide +kernel
theorem dX9_travellerTold_43 : decode cX9_travellerTold 43 = .ok (.iload_n 1, 1) := by decide +kernel
theorem dX9_travellerTold_44 : decode cX9_travellerTold 44 = .ok (.iconst 3, 1) := by decide +kernel
theorem dX9_travellerTold_45 : decode cX9_travellerTold 45 = .ok (.invokevirtual 116, 3) := by decide +kernel
theorem dX9_travellerTold_48 : decode cX9_travellerTold 48 = .ok (.iconst (-1), 1) := by decide +kernel
theorem dX9_travellerTold_49 : decode cX9_travellerTold 49 = .ok (.if_icmp .ne 22, 3) := by decide +kernel
theorem dX9_travellerTold_52 : decode cX9_travellerTold 52 = .ok (.aload_n 0, 1) := by decide +kernel
theorem dX9_travellerTold_53 : decode cX9_travellerTold 53 = .ok (.aload_n 0, 1) := by decide +kernel
theorem dX9_travellerTold_54 : decode cX9_travellerTold 54 = .ok (.iload_n 1, 1) := by decide +kernel
theorem dX9_travellerTold_55 : decode cX9_travellerTold 55 = .ok (.iconst 2, 1) := by decide +kernel
theorem dX9_travellerTold_56 : decode cX9_travellerTold 56 = .ok (.invokevirtual 116, 3) := by decide +kernel
theorem dX9_travellerTold_59 : decode cX9_travellerTold 59 = .ok (.aload_n 0, 1) := by decide +kernel
theorem dX9_travellerTold_60 : decode cX9_travellerTold 60 = .ok (.iload_n 1, 1) := by decide +kernel
theorem dX9_travellerTold_61 : decode cX9_travellerTold 61 = .ok (.iconst 0, 1) := by decide +kernel
theorem dX9_travellerTold_62 : decode cX9_travellerTold 62 = .ok (.invokevirtual 116, 3) := by decide +kernel
theorem dX9_travellerTold_65 : decode cX9_travellerTold 65 = .ok (.invokevirtual 147, 3) := by decide +kernel
theorem dX9_travellerTold_68 : decode cX9_travellerTold 68 = .ok (.goto 26, 3) := by decide +kernel
theorem dX9_travellerTold_71 : decode cX9_travellerTold 71 = .ok (.iconst 1, 1) := by decide +kernel
theorem dX9_travellerTold_72 : decode cX9_travellerTold 72 = .ok (.aload_n 0, 1) := by decide +kernel
theorem dX9_travellerTold_73 : decode cX9_travellerTold 73 = .ok (.aload_n 0, 1) := by decide +kernel
theorem dX9_travellerTold_74 : decode cX9_travellerTold 74 = .ok (.aload_n 0, 1) := by decide +kernel
theorem dX9_travellerTold_75 : decode cX9_travellerTold 75 = .ok (.iload_n 1, 1) := by decide +kernel
theorem dX9_travellerTold_76 : decode cX9_travellerTold 76 = .ok (.iconst 3, 1) := by decide +kernel
theorem dX9_travellerTold_77 : decode cX9_travellerTold 77 = .ok (.invokevirtual 116, 3) := by decide +kernel
theorem dX9_travellerTold_80 : decode cX9_travellerTold 80 = .ok (.iconst 1, 1) := by decide +kernel
theorem dX9_travellerTold_81 : decode cX9_travellerTold 81 = .ok (.invokevirtual 77, 3) := by decide +kernel
theorem dX9_travellerTold_84 : decode cX9_travellerTold 84 = .ok (.aload_n 0, 1) := by decide +kernel
theorem dX9_travellerTold_85 : decode cX9_travellerTold 85 = .ok (.iload_n 1, 1) := by decide +kernel
theorem dX9_travellerTold_86 : decode cX9_travellerTold 86 = .ok (.iconst 0, 1) := by decide +kernel
theorem dX9_travellerTold_87 : decode cX9_travellerTold 87 = .ok (.invokevirtual 116, 3) := by decide +kernel
theorem dX9_travellerTold_90 : decode cX9_travellerTold 90 = .ok (.invokevirtual 147, 3) := by decide +kernel
theorem dX9_travellerTold_93 : decode cX9_travellerTold 93 = .ok (.iadd, 1) := by decide +kernel
theorem dX9_travellerTold_94 : decode cX9_travellerTold 94 = .ok (.ireturn, 1) := by decide +kernel
theorem dX9_travellerTold_95 : decode cX9_travellerTold 95 = .ok (.aload_n 0, 1) := by decide +kernel
theorem dX9_travellerTold_96 : decode cX9_travellerTold 96 = .ok (.iload_n 1, 1) := by decide +kernel
theorem dX9_travellerTold_97 : decode cX9_travellerTold 97 = .ok (.iconst 4, 1) := by decide +kernel
theorem dX9_travellerTold_98 : decode cX9_travellerTold 98 = .ok (.invokevirtual 116, 3) := by decide +kernel
theorem dX9_travellerTold_101 : decode cX9_travellerTold 101 = .ok (.ireturn, 1) := by decide +kernel
theorem dX9_travellerTold_102 : decode cX9_travellerTold 102 = .ok (.aload_n 0, 1) := by decide +kernel
theorem dX9_travellerTold_103 : decode cX9_travellerTold 103 = .ok (.iload_n 1, 1) := by decide +kernel
theorem dX9_travellerTold_104 : decode cX9_travellerTold 104 = .ok (.iload_n 2, 1) := by decide +kernel
theorem dX9_travellerTold_105 : decode cX9_travellerTold 105 = .ok (.invokevirtual 116, 3) := by decide +kernel
theorem dX9_travellerTold_108 : decode cX9_travellerTold 108 = .ok (.ireturn, 1) := by decide +kernel
theorem dX9_traveller_0 : decode cX9_traveller 0 = .ok (.aload_n 0, 1) := by decide +kernel
theorem dX9_traveller_1 : decode cX9_traveller 1 = .ok (.iconst 0, 1) := by decide +kernel
theorem dX9_traveller_2 : decode cX9_traveller 2 = .ok (.putfield 40, 3) := by decide +kernel
theorem dX9_traveller_5 : decode cX9_traveller 5 = .ok (.iload_n 1, 1) := by decide +kernel
theorem dX9_traveller_6 : decode cX9_traveller 6 = .ok (.iconst 0, 1) := by decide +kernel
theorem dX9_traveller_7 : decode cX9_traveller 7 = .ok (.aload_n 0, 1) := by decide +kernel
theorem dX9_traveller_8 : decode cX9_traveller 8 = .ok (.getfield 113, 3) := by decide +kernel
theorem dX9_traveller_11 : decode cX9_traveller 11 = .ok (.iconst 1, 1) := by decide +kernel
theorem dX9_traveller_12 : decode cX9_traveller 12 = .ok (.isub, 1) := by decide +kernel
theorem dX9_traveller_13 : decode cX9_traveller 13 = .ok (.invokestatic 44, 3) := by decide +kernel
theorem dX9_traveller_16 : decode cX9_traveller 16 = .ok (.ifCond .eq 22, 3) := by decide +kernel
theorem dX9_traveller_19 : decode cX9_traveller 19 = .ok (.iload_n 2, 1) := by decide +kernel
theorem dX9_traveller_20 : decode cX9_traveller 20 = .ok (.iconst 0, 1) := by decide +kernel
theorem dX9_traveller_21 : decode cX9_traveller 21 = .ok (.bipush 6, 2) := by decide +kernel
theorem dX9_traveller_23 : decode cX9_traveller 23 = .ok (.invokestatic 44, 3) := by decide +kernel
theorem dX9_traveller_26 : decode cX9_traveller 26 = .ok (.ifCond .eq 12, 3) := by decide +kernel
theorem dX9_traveller_29 : decode cX9_traveller 29 = .ok (.aload_n 0, 1) := by decide +kernel
theorem dX9_traveller_30 : decode cX9_traveller 30 = .ok (.iload_n 1, 1) := by decide +kernel
theorem dX9_traveller_31 : decode cX9_traveller 31 = .ok (.iload_n 2, 1) := by decide +kernel
theorem dX9_traveller_32 : decode cX9_traveller 32 = .ok (.invokevirtual 150, 3) := by decide +kernel
theorem dX9_traveller_35 : decode cX9_traveller 35 = .ok (.goto 8, 3) := by decide +kernel
theorem dX9_traveller_38 : decode cX9_traveller 38 = .ok (.aload_n 0, 1) := by decide +kernel
theorem dX9_traveller_39 : decode cX9_traveller 39 = .ok (.iconst 1, 1) := by decide +kernel
theorem dX9_traveller_40 : decode cX9_traveller 40 = .ok (.invokevirtual 73, 3) := by decide +kernel
theorem dX9_traveller_43 : decode cX9_traveller 43 = .ok (.ireturn, 1) := by decide +kernel
theorem dX9_landingTold_0 : decode cX9_landingTold 0 = .ok (.iload_n 2, 1) := by decide +kernel
theorem dX9_landingTold_1 : decode cX9_landingTold 1 = .ok (.iconst 2, 1) := by decide +kernel
theorem dX9_landingTold_2 : decode cX9_landingTold 2 = .ok (.if_icmp .ge 29, 3) := by decide +kernel
theorem dX9_landingTold_5 : decode cX9_landingTold 5 = .ok (.iload_n 2, 1) := by decide +kernel
theorem dX9_landingTold_6 : decode cX9_landingTold 6 = .ok (.ifCond .ne 15, 3) := by decide +kernel
theorem dX9_landingTold_9 : decode cX9_landingTold 9 = .ok (.aload_n 0, 1) := by decide +kernel
theorem dX9_landingTold_10 : decode cX9_landingTold 10 = .ok (.getfield 19, 3) := by decide +kernel
theorem dX9_landingTold_13 : decode cX9_landingTold 13 = .ok (.iload_n 1, 1) := by decide +kernel
theorem dX9_landingTold_14 : decode cX9_landingTold 14 = .ok (.iaload, 1) := by decide +kernel
theorem dX9_landingTold_15 : decode cX9_landingTold 15 = .ok (.bipush 14, 2) := by decide +kernel
theorem dX9_landingTold_17 : decode cX9_landingTold 17 = .ok (.irem, 1) := by decide +kernel
theorem dX9_landingTold_18 : decode cX9_landingTold 18 = .ok (.goto 12, 3) := by decide +kernel
theorem dX9_landingTold_21 : decode cX9_landingTold 21 = .ok (.aload_n 0, 1) := by decide +kernel
theorem dX9_landingTold_22 : decode cX9_landingTold 22 = .ok (.getfield 19, 3) := by decide +kernel
theorem dX9_landingTold_25 : decode cX9_landingTold 25 = .ok (.iload_n 1, 1) := by decide +kernel
theorem dX9_landingTold_26 : decode cX9_landingTold 26 = .ok (.iaload, 1) := by decide +kernel
theorem dX9_landingTold_27 : decode cX9_landingTold 27 = .ok (.bipush 14, 2) := by decide +kernel
theorem dX9_landingTold_29 : decode cX9_landingTold 29 = .ok (.idiv, 1) := by decide +kernel
theorem dX9_landingTold_30 : decode cX9_landingTold 30 = .ok (.ireturn, 1) := by decide +kernel
theorem dX9_landingTold_31 : decode cX9_landingTold 31 = .ok (.iconst 0, 1) := by decide +kernel
theorem dX9_landingTold_32 : decode cX9_landingTold 32 = .ok (.istore_n 3, 1) := by decide +kernel
theorem dX9_landingTold_33 : decode cX9_landingTold 33 = .ok (.iconst 0, 1) := by decide +kernel
theorem dX9_landingTold_34 : decode cX9_landingTold 34 = .ok (.istore 4, 2) := by decide +kernel
theorem dX9_landingTold_36 : decode cX9_landingTold 36 = .ok (.iload 4, 2) := by decide +kernel
theorem dX9_landingTold_38 : decode cX9_landingTold 38 = .ok (.aload_n 0, 1) := by decide +kernel
theorem dX9_landingTold_39 : decode cX9_landingTold 39 = .ok (.getfield 113, 3) := by decide +kernel
theorem dX9_landingTold_42 : decode cX9_landingTold 42 = .ok (.if_icmp .ge 52, 3) := by decide +kernel
theorem dX9_landingTold_45 : decode cX9_landingTold 45 = .ok (.iload_n 2, 1) := by decide +kernel
theorem dX9_landingTold_46 : decode cX9_landingTold 46 = .ok (.iconst 4, 1) := by decide +kernel
theorem dX9_landingTold_47 : decode cX9_landingTold 47 = .ok (.if_icmp .ge 47, 3) := by decide +kernel
theorem dX9_landingTold_50 : decode cX9_landingTold 50 = .ok (.iload_n 3, 1) := by decide +kernel
theorem dX9_landingTold_51 : decode cX9_landingTold 51 = .ok (.aload_n 0, 1) := by decide +kernel
theorem dX9_landingTold_52 : decode cX9_landingTold 52 = .ok (.iload 4, 2) := by decide +kernel
theorem dX9_landingTold_54 : decode cX9_landingTold 54 = .ok (.iconst 2, 1) := by decide +kernel
theorem dX9_landingTold_55 : decode cX9_landingTold 55 = .ok (.invokevirtual 116, 3) := by decide +kernel
theorem dX9_landingTold_58 : decode cX9_landingTold 58 = .ok (.iload_n 1, 1) := by decide +kernel
theorem dX9_landingTold_59 : decode cX9_landingTold 59 = .ok (.if_icmp .ne 26, 3) := by decide +kernel
theorem dX9_landingTold_62 : decode cX9_landingTold 62 = .ok (.aload_n 0, 1) := by decide +kernel
theorem dX9_landingTold_63 : decode cX9_landingTold 63 = .ok (.iload 4, 2) := by decide +kernel
theorem dX9_landingTold_65 : decode cX9_landingTold 65 = .ok (.invokevirtual 144, 3) := by decide +kernel
theorem dX9_landingTold_68 : decode cX9_landingTold 68 = .ok (.iload_n 2, 1) := by decide +kernel
theorem dX9_landingTold_69 : decode cX9_landingTold 69 = .ok (.iconst 3, 1) := by decide +kernel
theorem dX9_landingTold_70 : decode cX9_landingTold 70 = .ok (.if_icmp .ne 7, 3) := by decide +kernel
theorem dX9_landingTold_73 : decode cX9_landingTold 73 = .ok (.iconst 1, 1) := by decide +kernel
theorem dX9_landingTold_74 : decode cX9_landingTold 74 = .ok (.goto 4, 3) := by decide +kernel
theorem dX9_landingTold_77 : decode cX9_landingTold 77 = .ok (.iconst 0, 1) := by decide +kernel
theorem dX9_landingTold_78 : decode cX9_landingTold 78 = .ok (.if_icmp .ne 7, 3) := by decide +kernel
theorem dX9_landingTold_81 : decode cX9_landingTold 81 = .ok (.iconst 1, 1) := by decide +kernel
theorem dX9_landingTold_82 : decode cX9_landingTold 82 = .ok (.goto 4, 3) := by decide +kernel
theorem dX9_landingTold_85 : decode cX9_landingTold 85 = .ok (.iconst 0, 1) := by decide +kernel
theorem dX9_landingTold_86 : decode cX9_landingTold 86 = .ok (.iadd, 1) := by decide +kernel
theorem dX9_landingTold_87 : decode cX9_landingTold 87 = .ok (.istore_n 3, 1) := by decide +kernel
theorem dX9_landingTold_88 : decode cX9_landingTold 88 = .ok (.iinc 4 1, 3) := by decide +kernel
theorem dX9_landingTold_91 : decode cX9_landingTold 91 = .ok (.goto (-55), 3) := by decide +kernel
theorem dX9_landingTold_94 : decode cX9_landingTold 94 = .ok (.iconst 0, 1) := by decide +kernel
theorem dX9_landingTold_95 : decode cX9_landingTold 95 = .ok (.istore 4, 2) := by decide +kernel
theorem dX9_landingTold_97 : decode cX9_landingTold 97 = .ok (.iload 4, 2) := by decide +kernel
theorem dX9_landingTold_99 : decode cX9_landingTold 99 = .ok (.aload_n 0, 1) := by decide +kernel
theorem dX9_landingTold_100 : decode cX9_landingTold 100 = .ok (.getfield 51, 3) := by decide +kernel
theorem dX9_landingTold_103 : decode cX9_landingTold 103 = .ok (.if_icmp .ge 33, 3) := by decide +kernel
theorem dX9_landingTold_106 : decode cX9_landingTold 106 = .ok (.iload_n 2, 1) := by decide +kernel
theorem dX9_landingTold_107 : decode cX9_landingTold 107 = .ok (.iconst 4, 1) := by decide +kernel
theorem dX9_landingTold_108 : decode cX9_landingTold 108 = .ok (.if_icmp .ne 28, 3) := by decide +kernel
theorem dX9_landingTold_111 : decode cX9_landingTold 111 = .ok (.iload_n 3, 1) := by decide +kernel
theorem dX9_landingTold_112 : decode cX9_landingTold 112 = .ok (.aload_n 0, 1) := by decide +kernel
theorem dX9_landingTold_113 : decode cX9_landingTold 113 = .ok (.iload 4, 2) := by decide +kernel
theorem dX9_landingTold_115 : decode cX9_landingTold 115 = .ok (.iload_n 1, 1) := by decide +kernel
theorem dX9_landingTold_116 : decode cX9_landingTold 116 = .ok (.invokevirtual 134, 3) := by decide +kernel
theorem dX9_landingTold_119 : decode cX9_landingTold 119 = .ok (.iconst (-1), 1) := by decide +kernel
theorem dX9_landingTold_120 : decode cX9_landingTold 120 = .ok (.if_icmp .eq 7, 3) := by decide +kernel
theorem dX9_landingTold_123 : decode cX9_landingTold 123 = .ok (.iconst 1, 1) := by decide +kernel
theorem dX9_landingTold_124 : decode cX9_landingTold 124 = .ok (.goto 4, 3) := by decide +kernel
theorem dX9_landingTold_127 : decode cX9_landingTold 127 = .ok (.iconst 0, 1) := by decide +kernel
theorem dX9_landingTold_128 : decode cX9_landingTold 128 = .ok (.iadd, 1) := by decide +kernel
theorem dX9_landingTold_129 : decode cX9_landingTold 129 = .ok (.istore_n 3, 1) := by decide +kernel
theorem dX9_landingTold_130 : decode cX9_landingTold 130 = .ok (.iinc 4 1, 3) := by decide +kernel
theorem dX9_landingTold_133 : decode cX9_landingTold 133 = .ok (.goto (-36), 3) := by decide +kernel
theorem dX9_landingTold_136 : decode cX9_landingTold 136 = .ok (.iload_n 3, 1) := by decide +kernel
theorem dX9_landingTold_137 : decode cX9_landingTold 137 = .ok (.ireturn, 1) := by decide +kernel
theorem dX9_landing_0 : decode cX9_landing 0 = .ok (.aload_n 0, 1) := by decide +kernel
theorem dX9_landing_1 : decode cX9_landing 1 = .ok (.iconst 0, 1) := by decide +kernel
theorem dX9_landing_2 : decode cX9_landing 2 = .ok (.putfield 40, 3) := by decide +kernel
theorem dX9_landing_5 : decode cX9_landing 5 = .ok (.aload_n 0, 1) := by decide +kernel
theorem dX9_landing_6 : decode cX9_landing 6 = .ok (.iload_n 1, 1) := by decide +kernel
theorem dX9_landing_7 : decode cX9_landing 7 = .ok (.invokevirtual 90, 3) := by decide +kernel
theorem dX9_landing_10 : decode cX9_landing 10 = .ok (.ifCond .eq 21, 3) := by decide +kernel
theorem dX9_landing_13 : decode cX9_landing 13 = .ok (.iload_n 2, 1) := by decide +kernel
theorem dX9_landing_14 : decode cX9_landing 14 = .ok (.iconst 0, 1) := by decide +kernel
theorem dX9_landing_15 : decode cX9_landing 15 = .ok (.iconst 4, 1) := by decide +kernel
theorem dX9_landing_16 : decode cX9_landing 16 = .ok (.invokestatic 44, 3) := by decide +kernel
theorem dX9_landing_19 : decode cX9_landing 19 = .ok (.ifCond .eq 12, 3) := by decide +kernel
theorem dX9_landing_22 : decode cX9_landing 22 = .ok (.aload_n 0, 1) := by decide +kernel
theorem dX9_landing_23 : decode cX9_landing 23 = .ok (.iload_n 1, 1) := by decide +kernel
theorem dX9_landing_24 : decode cX9_landing 24 = .ok (.iload_n 2, 1) := by decide +kernel
theorem dX9_landing_25 : decode cX9_landing 25 = .ok (.invokevirtual 153, 3) := by decide +kernel
theorem dX9_landing_28 : decode cX9_landing 28 = .ok (.goto 8, 3) := by decide +kernel
theorem dX9_landing_31 : decode cX9_landing 31 = .ok (.aload_n 0, 1) := by decide +kernel
theorem dX9_landing_32 : decode cX9_landing 32 = .ok (.iconst 1, 1) := by decide +kernel
theorem dX9_landing_33 : decode cX9_landing 33 = .ok (.invokevirtual 73, 3) := by decide +kernel
theorem dX9_landing_36 : decode cX9_landing 36 = .ok (.ireturn, 1) := by decide +kernel
theorem dX9_land_0 : decode cX9_land 0 = .ok (.aload_n 0, 1) := by decide +kernel
theorem dX9_land_1 : decode cX9_land 1 = .ok (.iload_n 1, 1) := by decide +kernel
theorem dX9_land_2 : decode cX9_land 2 = .ok (.iconst 1, 1) := by decide +kernel
theorem dX9_land_3 : decode cX9_land 3 = .ok (.invokevirtual 77, 3) := by decide +kernel
theorem dX9_land_6 : decode cX9_land 6 = .ok (.istore_n 2, 1) := by decide +kernel
theorem dX9_land_7 : decode cX9_land 7 = .ok (.iconst 0, 1) := by decide +kernel
theorem dX9_land_8 : decode cX9_land 8 = .ok (.istore_n 3, 1) := by decide +kernel
theorem dX9_land_9 : decode cX9_land 9 = .ok (.aload_n 0, 1) := by decide +kernel
theorem dX9_land_10 : decode cX9_land 10 = .ok (.iload_n 1, 1) := by decide +kernel
theorem dX9_land_11 : decode cX9_land 11 = .ok (.iconst 4, 1) := by decide +kernel
theorem dX9_land_12 : decode cX9_land 12 = .ok (.invokevirtual 66, 3) := by decide +kernel
theorem dX9_land_15 : decode cX9_land 15 = .ok (.istore 4, 2) := by decide +kernel
theorem dX9_land_17 : decode cX9_land 17 = .ok (.iconst 0, 1) := by decide +kernel
theorem dX9_land_18 : decode cX9_land 18 = .ok (.istore 5, 2) := by decide +kernel
theorem dX9_land_20 : decode cX9_land 20 = .ok (.iload 5, 2) := by decide +kernel
theorem dX9_land_22 : decode cX9_land 22 = .ok (.aload_n 0, 1) := by decide +kernel
theorem dX9_land_23 : decode cX9_land 23 = .ok (.getfield 113, 3) := by decide +kernel
theorem dX9_land_26 : decode cX9_land 26 = .ok (.if_icmp .ge 67, 3) := by decide +kernel
theorem dX9_land_29 : decode cX9_land 29 = .ok (.aload_n 0, 1) := by decide +kernel
theorem dX9_land_30 : decode cX9_land 30 = .ok (.iload 5, 2) := by decide +kernel
theorem dX9_land_32 : decode cX9_land 32 = .ok (.iconst 3, 1) := by decide +kernel
theorem dX9_land_33 : decode cX9_land 33 = .ok (.invokevirtual 116, 3) := by decide +kernel
theorem dX9_land_36 : decode cX9_land 36 = .ok (.iload_n 1, 1) := by decide +kernel
theorem dX9_land_37 : decode cX9_land 37 = .ok (.if_icmp .eq 6, 3) := by decide +kernel
theorem dX9_land_40 : decode cX9_land 40 = .ok (.goto 47, 3) := by decide +kernel
theorem dX9_land_43 : decode cX9_land 43 = .ok (.aload_n 0, 1) := by decide +kernel
theorem dX9_land_44 : decode cX9_land 44 = .ok (.iload 5, 2) := by decide +kernel
theorem dX9_land_46 : decode cX9_land 46 = .ok (.iconst 3, 1) := by decide +kernel
theorem dX9_land_47 : decode cX9_land 47 = .ok (.iconst (-1), 1) := by decide +kernel
theorem dX9_land_48 : decode cX9_land 48 = .ok (.invokevirtual 156, 3) := by decide +kernel
theorem dX9_land_51 : decode cX9_land 51 = .ok (.aload_n 0, 1) := by decide +kernel
theorem dX9_land_52 : decode cX9_land 52 = .ok (.iload 5, 2) := by decide +kernel
theorem dX9_land_54 : decode cX9_land 54 = .ok (.iconst 2, 1) := by decide +kernel
theorem dX9_land_55 : decode cX9_land 55 = .ok (.iload_n 2, 1) := by decide +kernel
theorem dX9_land_56 : decode cX9_land 56 = .ok (.invokevirtual 156, 3) := by decide +kernel
theorem dX9_land_59 : decode cX9_land 59 = .ok (.aload_n 0, 1) := by decide +kernel
theorem dX9_land_60 : decode cX9_land 60 = .ok (.iload 5, 2) := by decide +kernel
theorem dX9_land_62 : decode cX9_land 62 = .ok (.iconst 0, 1) := by decide +kernel
theorem dX9_land_63 : decode cX9_land 63 = .ok (.invokevirtual 116, 3) := by decide +kernel
theorem dX9_land_66 : decode cX9_land 66 = .ok (.iload_n 2, 1) := by decide +kernel
theorem dX9_land_67 : decode cX9_land 67 = .ok (.if_icmp .eq 6, 3) := by decide +kernel
theorem dX9_land_70 : decode cX9_land 70 = .ok (.goto 17, 3) := by decide +kernel
theorem dX9_land_73 : decode cX9_land 73 = .ok (.aload_n 0, 1) := by decide +kernel
theorem dX9_land_74 : decode cX9_land 74 = .ok (.iload 5, 2) := by decide +kernel
theorem dX9_land_76 : decode cX9_land 76 = .ok (.iconst 4, 1) := by decide +kernel
theorem dX9_land_77 : decode cX9_land 77 = .ok (.aload_n 0, 1) := by decide +kernel
theorem dX9_land_78 : decode cX9_land 78 = .ok (.getfield 54, 3) := by decide +kernel
theorem dX9_land_81 : decode cX9_land 81 = .ok (.invokevirtual 156, 3) := by decide +kernel
theorem dX9_land_84 : decode cX9_land 84 = .ok (.iinc 3 1, 3) := by decide +kernel
theorem dX9_land_87 : decode cX9_land 87 = .ok (.iinc 5 1, 3) := by decide +kernel
theorem dX9_land_90 : decode cX9_land 90 = .ok (.goto (-70), 3) := by decide +kernel
theorem dX9_land_93 : decode cX9_land 93 = .ok (.aload_n 0, 1) := by decide +kernel
theorem dX9_land_94 : decode cX9_land 94 = .ok (.iload_n 1, 1) := by decide +kernel
theorem dX9_land_95 : decode cX9_land 95 = .ok (.iconst 1, 1) := by decide +kernel
theorem dX9_land_96 : decode cX9_land 96 = .ok (.aload_n 0, 1) := by decide +kernel
theorem dX9_land_97 : decode cX9_land 97 = .ok (.iload_n 1, 1) := by decide +kernel
theorem dX9_land_98 : decode cX9_land 98 = .ok (.iload_n 2, 1) := by decide +kernel
theorem dX9_land_99 : decode cX9_land 99 = .ok (.invokevirtual 134, 3) := by decide +kernel
theorem dX9_land_102 : decode cX9_land 102 = .ok (.invokevirtual 100, 3) := by decide +kernel
theorem dX9_land_105 : decode cX9_land 105 = .ok (.iconst 0, 1) := by decide +kernel
theorem dX9_land_106 : decode cX9_land 106 = .ok (.istore 5, 2) := by decide +kernel
theorem dX9_land_108 : decode cX9_land 108 = .ok (.iload 5, 2) := by decide +kernel
theorem dX9_land_110 : decode cX9_land 110 = .ok (.aload_n 0, 1) := by decide +kernel
theorem dX9_land_111 : decode cX9_land 111 = .ok (.getfield 113, 3) := by decide +kernel
theorem dX9_land_114 : decode cX9_land 114 = .ok (.if_icmp .ge 128, 3) := by decide +kernel
theorem dX9_land_117 : decode cX9_land 117 = .ok (.iload 4, 2) := by decide +kernel
theorem dX9_land_119 : decode cX9_land 119 = .ok (.ifCond .eq 117, 3) := by decide +kernel
theorem dX9_land_122 : decode cX9_land 122 = .ok (.aload_n 0, 1) := by decide +kernel
theorem dX9_land_123 : decode cX9_land 123 = .ok (.iload 5, 2) := by decide +kernel
theorem dX9_land_125 : decode cX9_land 125 = .ok (.invokevirtual 144, 3) := by decide +kernel
theorem dX9_land_128 : decode cX9_land 128 = .ok (.ifCond .ne 108, 3) := by decide +kernel
theorem dX9_land_131 : decode cX9_land 131 = .ok (.aload_n 0, 1) := by decide +kernel
theorem dX9_land_132 : decode cX9_land 132 = .ok (.iload 5, 2) := by decide +kernel
theorem dX9_land_134 : decode cX9_land 134 = .ok (.iconst 2, 1) := by decide +kernel
theorem dX9_land_135 : decode cX9_land 135 = .ok (.invokevirtual 116, 3) := by decide +kernel
theorem dX9_land_138 : decode cX9_land 138 = .ok (.iload_n 2, 1) := by decide +kernel
theorem dX9_land_139 : decode cX9_land 139 = .ok (.if_icmp .ne 97, 3) := by decide +kernel
theorem dX9_land_142 : decode cX9_land 142 = .ok (.aload_n 0, 1) := by decide +kernel
theorem dX9_land_143 : decode cX9_land 143 = .ok (.iload 5, 2) := by decide +kernel
theorem dX9_land_145 : decode cX9_land 145 = .ok (.iconst 1, 1) := by decide +kernel
theorem dX9_land_146 : decode cX9_land 146 = .ok (.invokevirtual 116, 3) := by decide +kernel
theorem dX9_land_149 : decode cX9_land 149 = .ok (.aload_n 0, 1) := by decide +kernel
theorem dX9_land_150 : decode cX9_land 150 = .ok (.iload_n 1, 1) := by decide +kernel
theorem dX9_land_151 : decode cX9_land 151 = .ok (.iconst 5, 1) := by decide +kernel
theorem dX9_land_152 : decode cX9_land 152 = .ok (.invokevirtual 66, 3) := by decide +kernel
theorem dX9_land_155 : decode cX9_land 155 = .ok (.if_icmp .lt 81, 3) := by decide +kernel
theorem dX9_land_158 : decode cX9_land 158 = .ok (.aload_n 0, 1) := by decide +kernel
theorem dX9_land_159 : decode cX9_land 159 = .ok (.iload_n 2, 1) := by decide +kernel
theorem dX9_land_160 : decode cX9_land 160 = .ok (.aload_n 0, 1) := by decide +kernel
theorem dX9_land_161 : decode cX9_land 161 = .ok (.iload 5, 2) := by decide +kernel
theorem dX9_land_163 : decode cX9_land 163 = .ok (.iconst 0, 1) := by decide +kernel
theorem dX9_land_164 : decode cX9_land 164 = .ok (.invokevirtual 116, 3) := by decide +kernel
theorem dX9_land_167 : decode cX9_land 167 = .ok (.invokevirtual 159, 3) := by decide +kernel
theorem dX9_land_170 : decode cX9_land 170 = .ok (.iload_n 1, 1) := by decide +kernel
theorem dX9_land_171 : decode cX9_land 171 = .ok (.if_icmp .eq 6, 3) := by decide +kernel
theorem dX9_land_174 : decode cX9_land 174 = .ok (.goto 62, 3) := by decide +kernel
theorem dX9_land_177 : decode cX9_land 177 = .ok (.iinc 4 (-1), 3) := by decide +kernel
theorem dX9_land_180 : decode cX9_land 180 = .ok (.aload_n 0, 1) := by decide +kernel
theorem dX9_land_181 : decode cX9_land 181 = .ok (.iload 5, 2) := by decide +kernel
theorem dX9_land_183 : decode cX9_land 183 = .ok (.iconst 1, 1) := by decide +kernel
theorem dX9_land_184 : decode cX9_land 184 = .ok (.aload_n 0, 1) := by decide +kernel
theorem dX9_land_185 : decode cX9_land 185 = .ok (.iload 5, 2) := by decide +kernel
theorem dX9_land_187 : decode cX9_land 187 = .ok (.iconst 1, 1) := by decide +kernel
theorem dX9_land_188 : decode cX9_land 188 = .ok (.invokevirtual 116, 3) := by decide +kernel
theorem dX9_land_191 : decode cX9_land 191 = .ok (.aload_n 0, 1) := by decide +kernel
theorem dX9_land_192 : decode cX9_land 192 = .ok (.iload_n 1, 1) := by decide +kernel
theorem dX9_land_193 : decode cX9_land 193 = .ok (.iconst 5, 1) := by decide +kernel
theorem dX9_land_194 : decode cX9_land 194 = .ok (.invokevirtual 66, 3) := by decide +kernel
theorem dX9_land_197 : decode cX9_land 197 = .ok (.isub, 1) := by decide +kernel
theorem dX9_land_198 : decode cX9_land 198 = .ok (.invokevirtual 156, 3) := by decide +kernel
theorem dX9_land_201 : decode cX9_land 201 = .ok (.aload_n 0, 1) := by decide +kernel
theorem dX9_land_202 : decode cX9_land 202 = .ok (.iload 5, 2) := by decide +kernel
theorem dX9_land_204 : decode cX9_land 204 = .ok (.iconst 3, 1) := by decide +kernel
theorem dX9_land_205 : decode cX9_land 205 = .ok (.iload_n 1, 1) := by decide +kernel
theorem dX9_land_206 : decode cX9_land 206 = .ok (.invokevirtual 156, 3) := by decide +kernel
theorem dX9_land_209 : decode cX9_land 209 = .ok (.aload_n 0, 1) := by decide +kernel
theorem dX9_land_210 : decode cX9_land 210 = .ok (.iload 5, 2) := by decide +kernel
theorem dX9_land_212 : decode cX9_land 212 = .ok (.iconst 2, 1) := by decide +kernel
theorem dX9_land_213 : decode cX9_land 213 = .ok (.iconst (-1), 1) := by decide +kernel
theorem dX9_land_214 : decode cX9_land 214 = .ok (.invokevirtual 156, 3) := by decide +kernel
theorem dX9_land_217 : decode cX9_land 217 = .ok (.aload_n 0, 1) := by decide +kernel
theorem dX9_land_218 : decode cX9_land 218 = .ok (.iload_n 1, 1) := by decide +kernel
theorem dX9_land_219 : decode cX9_land 219 = .ok (.iconst 2, 1) := by decide +kernel
theorem dX9_land_220 : decode cX9_land 220 = .ok (.aload_n 0, 1) := by decide +kernel
theorem dX9_land_221 : decode cX9_land 221 = .ok (.iload_n 1, 1) := by decide +kernel
theorem dX9_land_222 : decode cX9_land 222 = .ok (.iconst 2, 1) := by decide +kernel
theorem dX9_land_223 : decode cX9_land 223 = .ok (.invokevirtual 77, 3) := by decide +kernel
theorem dX9_land_226 : decode cX9_land 226 = .ok (.aload_n 0, 1) := by decide +kernel
theorem dX9_land_227 : decode cX9_land 227 = .ok (.iload_n 1, 1) := by decide +kernel
theorem dX9_land_228 : decode cX9_land 228 = .ok (.iconst 5, 1) := by decide +kernel
theorem dX9_land_229 : decode cX9_land 229 = .ok (.invokevirtual 66, 3) := by decide +kernel
theorem dX9_land_232 : decode cX9_land 232 = .ok (.iadd, 1) := by decide +kernel
theorem dX9_land_233 : decode cX9_land 233 = .ok (.invokevirtual 100, 3) := by decide +kernel
theorem dX9_land_236 : decode cX9_land 236 = .ok (.iinc 5 1, 3) := by decide +kernel
theorem dX9_land_239 : decode cX9_land 239 = .ok (.goto (-131), 3) := by decide +kernel
theorem dX9_land_242 : decode cX9_land 242 = .ok (.iload_n 3, 1) := by decide +kernel
theorem dX9_land_243 : decode cX9_land 243 = .ok (.ireturn, 1) := by decide +kernel
theorem dX9_step_0 : decode cX9_step 0 = .ok (.aload_n 0, 1) := by decide +kernel
theorem dX9_step_1 : decode cX9_step 1 = .ok (.iload_n 1, 1) := by decide +kernel
theorem dX9_step_2 : decode cX9_step 2 = .ok (.aload_n 0, 1) := by decide +kernel
theorem dX9_step_3 : decode cX9_step 3 = .ok (.iload_n 1, 1) := by decide +kernel
theorem dX9_step_4 : decode cX9_step 4 = .ok (.invokevirtual 125, 3) := by decide +kernel
theorem dX9_step_7 : decode cX9_step 7 = .ok (.aload_n 0, 1) := by decide +kernel
theorem dX9_step_8 : decode cX9_step 8 = .ok (.invokevirtual 80, 3) := by decide +kernel
theorem dX9_step_11 : decode cX9_step 11 = .ok (.invokevirtual 128, 3) := by decide +kernel
theorem dX9_step_14 : decode cX9_step 14 = .ok (.aload_n 0, 1) := by decide +kernel
theorem dX9_step_15 : decode cX9_step 15 = .ok (.getfield 31, 3) := by decide +kernel
theorem dX9_step_18 : decode cX9_step 18 = .ok (.aload_n 0, 1) := by decide +kernel
theorem dX9_step_19 : decode cX9_step 19 = .ok (.iload_n 1, 1) := by decide +kernel
theorem dX9_step_20 : decode cX9_step 20 = .ok (.iconst 0, 1) := by decide +kernel
theorem dX9_step_21 : decode cX9_step 21 = .ok (.invokevirtual 77, 3) := by decide +kernel
theorem dX9_step_24 : decode cX9_step 24 = .ok (.iaload, 1) := by decide +kernel
theorem dX9_step_25 : decode cX9_step 25 = .ok (.istore_n 2, 1) := by decide +kernel
theorem dX9_step_26 : decode cX9_step 26 = .ok (.iload_n 2, 1) := by decide +kernel
theorem dX9_step_27 : decode cX9_step 27 = .ok (.iconst 1, 1) := by decide +kernel
theorem dX9_step_28 : decode cX9_step 28 = .ok (.if_icmp .ge 4, 3) := by decide +kernel
theorem dX9_step_31 : decode cX9_step 31 = .ok (.return_, 1) := by decide +kernel
theorem dX9_step_32 : decode cX9_step 32 = .ok (.iconst 0, 1) := by decide +kernel
theorem dX9_step_33 : decode cX9_step 33 = .ok (.istore_n 3, 1) := by decide +kernel
theorem dX9_step_34 : decode cX9_step 34 = .ok (.iload_n 3, 1) := by decide +kernel
theorem dX9_step_35 : decode cX9_step 35 = .ok (.iconst 4, 1) := by decide +kernel
theorem dX9_step_36 : decode cX9_step 36 = .ok (.if_icmp .ge 66, 3) := by decide +kernel
theorem dX9_step_39 : decode cX9_step 39 = .ok (.aload_n 0, 1) := by decide +kernel
theorem dX9_step_40 : decode cX9_step 40 = .ok (.iload_n 1, 1) := by decide +kernel
theorem dX9_step_41 : decode cX9_step 41 = .ok (.iconst 0, 1) := by decide +kernel
theorem dX9_step_42 : decode cX9_step 42 = .ok (.invokevirtual 77, 3) := by decide +kernel
theorem dX9_step_45 : decode cX9_step 45 = .ok (.iload_n 3, 1) := by decide +kernel
theorem dX9_step_46 : decode cX9_step 46 = .ok (.invokestatic 110, 3) := by decide +kernel
theorem dX9_step_49 : decode cX9_step 49 = .ok (.istore 4, 2) := by decide +kernel
theorem dX9_step_51 : decode cX9_step 51 = .ok (.iload 4, 2) := by decide +kernel
theorem dX9_step_53 : decode cX9_step 53 = .ok (.iconst (-1), 1) := by decide +kernel
theorem dX9_step_54 : decode cX9_step 54 = .ok (.if_icmp .eq 42, 3) := by decide +kernel
theorem dX9_step_57 : decode cX9_step 57 = .ok (.aload_n 0, 1) := by decide +kernel
theorem dX9_step_58 : decode cX9_step 58 = .ok (.getfield 31, 3) := by decide +kernel
theorem dX9_step_61 : decode cX9_step 61 = .ok (.iload 4, 2) := by decide +kernel
theorem dX9_step_63 : decode cX9_step 63 = .ok (.iaload, 1) := by decide +kernel
theorem dX9_step_64 : decode cX9_step 64 = .ok (.iload_n 2, 1) := by decide +kernel
theorem dX9_step_65 : decode cX9_step 65 = .ok (.iconst 1, 1) := by decide +kernel
theorem dX9_step_66 : decode cX9_step 66 = .ok (.isub, 1) := by decide +kernel
theorem dX9_step_67 : decode cX9_step 67 = .ok (.if_icmp .eq 6, 3) := by decide +kernel
theorem dX9_step_70 : decode cX9_step 70 = .ok (.goto 26, 3) := by decide +kernel
theorem dX9_step_73 : decode cX9_step 73 = .ok (.aload_n 0, 1) := by decide +kernel
theorem dX9_step_74 : decode cX9_step 74 = .ok (.iload_n 1, 1) := by decide +kernel
theorem dX9_step_75 : decode cX9_step 75 = .ok (.iconst 0, 1) := by decide +kernel
theorem dX9_step_76 : decode cX9_step 76 = .ok (.iload 4, 2) := by decide +kernel
theorem dX9_step_78 : decode cX9_step 78 = .ok (.invokevirtual 100, 3) := by decide +kernel
theorem dX9_step_81 : decode cX9_step 81 = .ok (.aload_n 0, 1) := by decide +kernel
theorem dX9_step_82 : decode cX9_step 82 = .ok (.iload_n 1, 1) := by decide +kernel
theorem dX9_step_83 : decode cX9_step 83 = .ok (.iconst 3, 1) := by decide +kernel
theorem dX9_step_84 : decode cX9_step 84 = .ok (.aload_n 0, 1) := by decide +kernel
theorem dX9_step_85 : decode cX9_step 85 = .ok (.iload_n 1, 1) := by decide +kernel
theorem dX9_step_86 : decode cX9_step 86 = .ok (.iconst 3, 1) := by decide +kernel
theorem dX9_step_87 : decode cX9_step 87 = .ok (.invokevirtual 77, 3) := by decide +kernel
theorem dX9_step_90 : decode cX9_step 90 = .ok (.iconst 1, 1) := by decide +kernel
theorem dX9_step_91 : decode cX9_step 91 = .ok (.iadd, 1) := by decide +kernel
theorem dX9_step_92 : decode cX9_step 92 = .ok (.invokevirtual 100, 3) := by decide +kernel
theorem dX9_step_95 : decode cX9_step 95 = .ok (.return_, 1) := by decide +kernel
theorem dX9_step_96 : decode cX9_step 96 = .ok (.iinc 3 1, 3) := by decide +kernel
theorem dX9_step_99 : decode cX9_step 99 = .ok (.goto (-65), 3) := by decide +kernel
theorem dX9_step_102 : decode cX9_step 102 = .ok (.return_, 1) := by decide +kernel
theorem dX9_hourOn_0 : decode cX9_hourOn 0 = .ok (.iconst 0, 1) := by decide +kernel
theorem dX9_hourOn_1 : decode cX9_hourOn 1 = .ok (.istore_n 1, 1) := by decide +kernel
theorem dX9_hourOn_2 : decode cX9_hourOn 2 = .ok (.iconst 0, 1) := by decide +kernel
theorem dX9_hourOn_3 : decode cX9_hourOn 3 = .ok (.istore_n 2, 1) := by decide +kernel
theorem dX9_hourOn_4 : decode cX9_hourOn 4 = .ok (.iload_n 2, 1) := by decide +kernel
theorem dX9_hourOn_5 : decode cX9_hourOn 5 = .ok (.aload_n 0, 1) := by decide +kernel
theorem dX9_hourOn_6 : decode cX9_hourOn 6 = .ok (.getfield 51, 3) := by decide +kernel
theorem dX9_hourOn_9 : decode cX9_hourOn 9 = .ok (.if_icmp .ge 31, 3) := by decide +kernel
theorem dX9_hourOn_12 : decode cX9_hourOn 12 = .ok (.aload_n 0, 1) := by decide +kernel
theorem dX9_hourOn_13 : decode cX9_hourOn 13 = .ok (.iload_n 2, 1) := by decide +kernel
theorem dX9_hourOn_14 : decode cX9_hourOn 14 = .ok (.iconst 0, 1) := by decide +kernel
theorem dX9_hourOn_15 : decode cX9_hourOn 15 = .ok (.invokevirtual 77, 3) := by decide +kernel
theorem dX9_hourOn_18 : decode cX9_hourOn 18 = .ok (.aload_n 0, 1) := by decide +kernel
theorem dX9_hourOn_19 : decode cX9_hourOn 19 = .ok (.iload_n 2, 1) := by decide +kernel
theorem dX9_hourOn_20 : decode cX9_hourOn 20 = .ok (.invokevirtual 125, 3) := by decide +kernel
theorem dX9_hourOn_23 : decode cX9_hourOn 23 = .ok (.if_icmp .ne 11, 3) := by decide +kernel
theorem dX9_hourOn_26 : decode cX9_hourOn 26 = .ok (.iload_n 1, 1) := by decide +kernel
theorem dX9_hourOn_27 : decode cX9_hourOn 27 = .ok (.aload_n 0, 1) := by decide +kernel
theorem dX9_hourOn_28 : decode cX9_hourOn 28 = .ok (.iload_n 2, 1) := by decide +kernel
theorem dX9_hourOn_29 : decode cX9_hourOn 29 = .ok (.invokevirtual 162, 3) := by decide +kernel
theorem dX9_hourOn_32 : decode cX9_hourOn 32 = .ok (.iadd, 1) := by decide +kernel
theorem dX9_hourOn_33 : decode cX9_hourOn 33 = .ok (.istore_n 1, 1) := by decide +kernel
theorem dX9_hourOn_34 : decode cX9_hourOn 34 = .ok (.iinc 2 1, 3) := by decide +kernel
theorem dX9_hourOn_37 : decode cX9_hourOn 37 = .ok (.goto (-33), 3) := by decide +kernel
theorem dX9_hourOn_40 : decode cX9_hourOn 40 = .ok (.iconst 0, 1) := by decide +kernel
theorem dX9_hourOn_41 : decode cX9_hourOn 41 = .ok (.istore_n 2, 1) := by decide +kernel
theorem dX9_hourOn_42 : decode cX9_hourOn 42 = .ok (.iload_n 2, 1) := by decide +kernel
theorem dX9_hourOn_43 : decode cX9_hourOn 43 = .ok (.aload_n 0, 1) := by decide +kernel
theorem dX9_hourOn_44 : decode cX9_hourOn 44 = .ok (.getfield 51, 3) := by decide +kernel
theorem dX9_hourOn_47 : decode cX9_hourOn 47 = .ok (.if_icmp .ge 14, 3) := by decide +kernel
theorem dX9_hourOn_50 : decode cX9_hourOn 50 = .ok (.aload_n 0, 1) := by decide +kernel
theorem dX9_hourOn_51 : decode cX9_hourOn 51 = .ok (.iload_n 2, 1) := by decide +kernel
theorem dX9_hourOn_52 : decode cX9_hourOn 52 = .ok (.invokevirtual 165, 3) := by decide +kernel
theorem dX9_hourOn_55 : decode cX9_hourOn 55 = .ok (.iinc 2 1, 3) := by decide +kernel
theorem dX9_hourOn_58 : decode cX9_hourOn 58 = .ok (.goto (-16), 3) := by decide +kernel
theorem dX9_hourOn_61 : decode cX9_hourOn 61 = .ok (.aload_n 0, 1) := by decide +kernel
theorem dX9_hourOn_62 : decode cX9_hourOn 62 = .ok (.dup, 1) := by decide +kernel
theorem dX9_hourOn_63 : decode cX9_hourOn 63 = .ok (.getfield 54, 3) := by decide +kernel
theorem dX9_hourOn_66 : decode cX9_hourOn 66 = .ok (.iconst 1, 1) := by decide +kernel
theorem dX9_hourOn_67 : decode cX9_hourOn 67 = .ok (.iadd, 1) := by decide +kernel
theorem dX9_hourOn_68 : decode cX9_hourOn 68 = .ok (.putfield 54, 3) := by decide +kernel
theorem dX9_hourOn_71 : decode cX9_hourOn 71 = .ok (.iload_n 1, 1) := by decide +kernel
theorem dX9_hourOn_72 : decode cX9_hourOn 72 = .ok (.ireturn, 1) := by decide +kernel
theorem dX9_pass_0 : decode cX9_pass 0 = .ok (.aload_n 0, 1) := by decide +kernel
theorem dX9_pass_1 : decode cX9_pass 1 = .ok (.iconst 0, 1) := by decide +kernel
theorem dX9_pass_2 : decode cX9_pass 2 = .ok (.putfield 40, 3) := by decide +kernel
theorem dX9_pass_5 : decode cX9_pass 5 = .ok (.iload_n 1, 1) := by decide +kernel
theorem dX9_pass_6 : decode cX9_pass 6 = .ok (.iconst 1, 1) := by decide +kernel
theorem dX9_pass_7 : decode cX9_pass 7 = .ok (.bipush 100, 2) := by decide +kernel
theorem dX9_pass_9 : decode cX9_pass 9 = .ok (.invokestatic 44, 3) := by decide +kernel
theorem dX9_pass_12 : decode cX9_pass 12 = .ok (.ifCond .ne 9, 3) := by decide +kernel
theorem dX9_pass_15 : decode cX9_pass 15 = .ok (.aload_n 0, 1) := by decide +kernel
theorem dX9_pass_16 : decode cX9_pass 16 = .ok (.iconst 1, 1) := by decide +kernel
theorem dX9_pass_17 : decode cX9_pass 17 = .ok (.invokevirtual 73, 3) := by decide +kernel
theorem dX9_pass_20 : decode cX9_pass 20 = .ok (.ireturn, 1) := by decide +kernel
theorem dX9_pass_21 : decode cX9_pass 21 = .ok (.iconst 0, 1) := by decide +kernel
theorem dX9_pass_22 : decode cX9_pass 22 = .ok (.istore_n 2, 1) := by decide +kernel
theorem dX9_pass_23 : decode cX9_pass 23 = .ok (.iconst 0, 1) := by decide +kernel
theorem dX9_pass_24 : decode cX9_pass 24 = .ok (.istore_n 3, 1) := by decide +kernel
theorem dX9_pass_25 : decode cX9_pass 25 = .ok (.iload_n 3, 1) := by decide +kernel
theorem dX9_pass_26 : decode cX9_pass 26 = .ok (.iload_n 1, 1) := by decide +kernel
theorem dX9_pass_27 : decode cX9_pass 27 = .ok (.if_icmp .ge 16, 3) := by decide +kernel
theorem dX9_pass_30 : decode cX9_pass 30 = .ok (.iload_n 2, 1) := by decide +kernel
theorem dX9_pass_31 : decode cX9_pass 31 = .ok (.aload_n 0, 1) := by decide +kernel
theorem dX9_pass_32 : decode cX9_pass 32 = .ok (.invokevirtual 168, 3) := by decide +kernel
theorem dX9_pass_35 : decode cX9_pass 35 = .ok (.iadd, 1) := by decide +kernel
theorem dX9_pass_36 : decode cX9_pass 36 = .ok (.istore_n 2, 1) := by decide +kernel
theorem dX9_pass_37 : decode cX9_pass 37 = .ok (.iinc 3 1, 3) := by decide +kernel
theorem dX9_pass_40 : decode cX9_pass 40 = .ok (.goto (-15), 3) := by decide +kernel
theorem dX9_pass_43 : decode cX9_pass 43 = .ok (.iload_n 2, 1) := by decide +kernel
theorem dX9_pass_44 : decode cX9_pass 44 = .ok (.ireturn, 1) := by decide +kernel
theorem dX9_counted_0 : decode cX9_counted 0 = .ok (.iconst 0, 1) := by decide +kernel
theorem dX9_counted_1 : decode cX9_counted 1 = .ok (.istore_n 2, 1) := by decide +kernel
theorem dX9_counted_2 : decode cX9_counted 2 = .ok (.iload_n 1, 1) := by decide +kernel
theorem dX9_counted_3 : decode cX9_counted 3 = .ok (.tableswitch 186 0 10 #[57, 62, 67, 72, 77, 186, 186, 186, 82, 109, 143], 57) := by decide +kernel
theorem dX9_counted_60 : decode cX9_counted 60 = .ok (.aload_n 0, 1) := by decide +kernel
theorem dX9_counted_61 : decode cX9_counted 61 = .ok (.getfield 54, 3) := by decide +kernel
theorem dX9_counted_64 : decode cX9_counted 64 = .ok (.ireturn, 1) := by decide +kernel
theorem dX9_counted_65 : decode cX9_counted 65 = .ok (.aload_n 0, 1) := by decide +kernel
theorem dX9_counted_66 : decode cX9_counted 66 = .ok (.invokevirtual 80, 3) := by decide +kernel
theorem dX9_counted_69 : decode cX9_counted 69 = .ok (.ireturn, 1) := by decide +kernel
theorem dX9_counted_70 : decode cX9_counted 70 = .ok (.aload_n 0, 1) := by decide +kernel
theorem dX9_counted_71 : decode cX9_counted 71 = .ok (.getfield 48, 3) := by decide +kernel
theorem dX9_counted_74 : decode cX9_counted 74 = .ok (.ireturn, 1) := by decide +kernel
theorem dX9_counted_75 : decode cX9_counted 75 = .ok (.aload_n 0, 1) := by decide +kernel
theorem dX9_counted_76 : decode cX9_counted 76 = .ok (.getfield 51, 3) := by decide +kernel
theorem dX9_counted_79 : decode cX9_counted 79 = .ok (.ireturn, 1) := by decide +kernel
theorem dX9_counted_80 : decode cX9_counted 80 = .ok (.aload_n 0, 1) := by decide +kernel
theorem dX9_counted_81 : decode cX9_counted 81 = .ok (.getfield 113, 3) := by decide +kernel
theorem dX9_counted_84 : decode cX9_counted 84 = .ok (.ireturn, 1) := by decide +kernel
theorem dX9_counted_85 : decode cX9_counted 85 = .ok (.iconst 0, 1) := by decide +kernel
theorem dX9_counted_86 : decode cX9_counted 86 = .ok (.istore_n 3, 1) := by decide +kernel
theorem dX9_counted_87 : decode cX9_counted 87 = .ok (.iload_n 3, 1) := by decide +kernel
theorem dX9_counted_88 : decode cX9_counted 88 = .ok (.aload_n 0, 1) := by decide +kernel
theorem dX9_counted_89 : decode cX9_counted 89 = .ok (.getfield 51, 3) := by decide +kernel
theorem dX9_counted_92 : decode cX9_counted 92 = .ok (.if_icmp .ge 18, 3) := by decide +kernel
theorem dX9_counted_95 : decode cX9_counted 95 = .ok (.iload_n 2, 1) := by decide +kernel
theorem dX9_counted_96 : decode cX9_counted 96 = .ok (.aload_n 0, 1) := by decide +kernel
theorem dX9_counted_97 : decode cX9_counted 97 = .ok (.iload_n 3, 1) := by decide +kernel
theorem dX9_counted_98 : decode cX9_counted 98 = .ok (.iconst 2, 1) := by decide +kernel
theorem dX9_counted_99 : decode cX9_counted 99 = .ok (.invokevirtual 77, 3) := by decide +kernel
theorem dX9_counted_102 : decode cX9_counted 102 = .ok (.iadd, 1) := by decide +kernel
theorem dX9_counted_103 : decode cX9_counted 103 = .ok (.istore_n 2, 1) := by decide +kernel
theorem dX9_counted_104 : decode cX9_counted 104 = .ok (.iinc 3 1, 3) := by decide +kernel
theorem dX9_counted_107 : decode cX9_counted 107 = .ok (.goto (-20), 3) := by decide +kernel
theorem dX9_counted_110 : decode cX9_counted 110 = .ok (.iload_n 2, 1) := by decide +kernel
theorem dX9_counted_111 : decode cX9_counted 111 = .ok (.ireturn, 1) := by decide +kernel
theorem dX9_counted_112 : decode cX9_counted 112 = .ok (.iconst 0, 1) := by decide +kernel
theorem dX9_counted_113 : decode cX9_counted 113 = .ok (.istore_n 3, 1) := by decide +kernel
theorem dX9_counted_114 : decode cX9_counted 114 = .ok (.iload_n 3, 1) := by decide +kernel
theorem dX9_counted_115 : decode cX9_counted 115 = .ok (.aload_n 0, 1) := by decide +kernel
theorem dX9_counted_116 : decode cX9_counted 116 = .ok (.getfield 51, 3) := by decide +kernel
theorem dX9_counted_119 : decode cX9_counted 119 = .ok (.if_icmp .ge 25, 3) := by decide +kernel
theorem dX9_counted_122 : decode cX9_counted 122 = .ok (.iload_n 2, 1) := by decide +kernel
theorem dX9_counted_123 : decode cX9_counted 123 = .ok (.aload_n 0, 1) := by decide +kernel
theorem dX9_counted_124 : decode cX9_counted 124 = .ok (.iload_n 3, 1) := by decide +kernel
theorem dX9_counted_125 : decode cX9_counted 125 = .ok (.invokevirtual 122, 3) := by decide +kernel
theorem dX9_counted_128 : decode cX9_counted 128 = .ok (.ifCond .eq 7, 3) := by decide +kernel
theorem dX9_counted_131 : decode cX9_counted 131 = .ok (.iconst 1, 1) := by decide +kernel
theorem dX9_counted_132 : decode cX9_counted 132 = .ok (.goto 4, 3) := by decide +kernel
theorem dX9_counted_135 : decode cX9_counted 135 = .ok (.iconst 0, 1) := by decide +kernel
theorem dX9_counted_136 : decode cX9_counted 136 = .ok (.iadd, 1) := by decide +kernel
theorem dX9_counted_137 : decode cX9_counted 137 = .ok (.istore_n 2, 1) := by decide +kernel
theorem dX9_counted_138 : decode cX9_counted 138 = .ok (.iinc 3 1, 3) := by decide +kernel
theorem dX9_counted_141 : decode cX9_counted 141 = .ok (.goto (-27), 3) := by decide +kernel
theorem dX9_counted_144 : decode cX9_counted 144 = .ok (.iload_n 2, 1) := by decide +kernel
theorem dX9_counted_145 : decode cX9_counted 145 = .ok (.ireturn, 1) := by decide +kernel
theorem dX9_counted_146 : decode cX9_counted 146 = .ok (.iconst 0, 1) := by decide +kernel
theorem dX9_counted_147 : decode cX9_counted 147 = .ok (.istore_n 3, 1) := by decide +kernel
theorem dX9_counted_148 : decode cX9_counted 148 = .ok (.iload_n 3, 1) := by decide +kernel
theorem dX9_counted_149 : decode cX9_counted 149 = .ok (.sipush 196, 3) := by decide +kernel
theorem dX9_counted_152 : decode cX9_counted 152 = .ok (.if_icmp .ge 35, 3) := by decide +kernel
theorem dX9_counted_155 : decode cX9_counted 155 = .ok (.iload_n 2, 1) := by decide +kernel
theorem dX9_counted_156 : decode cX9_counted 156 = .ok (.aload_n 0, 1) := by decide +kernel
theorem dX9_counted_157 : decode cX9_counted 157 = .ok (.iload_n 3, 1) := by decide +kernel
theorem dX9_counted_158 : decode cX9_counted 158 = .ok (.aload_n 0, 1) := by decide +kernel
theorem dX9_counted_159 : decode cX9_counted 159 = .ok (.invokevirtual 80, 3) := by decide +kernel
theorem dX9_counted_162 : decode cX9_counted 162 = .ok (.invokevirtual 63, 3) := by decide +kernel
theorem dX9_counted_165 : decode cX9_counted 165 = .ok (.aload_n 0, 1) := by decide +kernel
theorem dX9_counted_166 : decode cX9_counted 166 = .ok (.getfield 13, 3) := by decide +kernel
theorem dX9_counted_169 : decode cX9_counted 169 = .ok (.iload_n 3, 1) := by decide +kernel
theorem dX9_counted_170 : decode cX9_counted 170 = .ok (.iaload, 1) := by decide +kernel
theorem dX9_counted_171 : decode cX9_counted 171 = .ok (.if_icmp .ge 7, 3) := by decide +kernel
theorem dX9_counted_174 : decode cX9_counted 174 = .ok (.iconst 1, 1) := by decide +kernel
theorem dX9_counted_175 : decode cX9_counted 175 = .ok (.goto 4, 3) := by decide +kernel
theorem dX9_counted_178 : decode cX9_counted 178 = .ok (.iconst 0, 1) := by decide +kernel
theorem dX9_counted_179 : decode cX9_counted 179 = .ok (.iadd, 1) := by decide +kernel
theorem dX9_counted_180 : decode cX9_counted 180 = .ok (.istore_n 2, 1) := by decide +kernel
theorem dX9_counted_181 : decode cX9_counted 181 = .ok (.iinc 3 1, 3) := by decide +kernel
theorem dX9_counted_184 : decode cX9_counted 184 = .ok (.goto (-36), 3) := by decide +kernel
theorem dX9_counted_187 : decode cX9_counted 187 = .ok (.iload_n 2, 1) := by decide +kernel
theorem dX9_counted_188 : decode cX9_counted 188 = .ok (.ireturn, 1) := by decide +kernel
theorem dX9_counted_189 : decode cX9_counted 189 = .ok (.iconst 0, 1) := by decide +kernel
theorem dX9_counted_190 : decode cX9_counted 190 = .ok (.istore_n 3, 1) := by decide +kernel
theorem dX9_counted_191 : decode cX9_counted 191 = .ok (.iload_n 3, 1) := by decide +kernel
theorem dX9_counted_192 : decode cX9_counted 192 = .ok (.aload_n 0, 1) := by decide +kernel
theorem dX9_counted_193 : decode cX9_counted 193 = .ok (.getfield 113, 3) := by decide +kernel
theorem dX9_counted_196 : decode cX9_counted 196 = .ok (.if_icmp .ge 50, 3) := by decide +kernel
theorem dX9_counted_199 : decode cX9_counted 199 = .ok (.iload_n 2, 1) := by decide +kernel
theorem dX9_counted_200 : decode cX9_counted 200 = .ok (.aload_n 0, 1) := by decide +kernel
theorem dX9_counted_201 : decode cX9_counted 201 = .ok (.iload_n 3, 1) := by decide +kernel
theorem dX9_counted_202 : decode cX9_counted 202 = .ok (.invokevirtual 144, 3) := by decide +kernel
theorem dX9_counted_205 : decode cX9_counted 205 = .ok (.ifCond .eq 8, 3) := by decide +kernel
theorem dX9_counted_208 : decode cX9_counted 208 = .ok (.bipush 7, 2) := by decide +kernel
theorem dX9_counted_210 : decode cX9_counted 210 = .ok (.goto 19, 3) := by decide +kernel
theorem dX9_counted_213 : decode cX9_counted 213 = .ok (.aload_n 0, 1) := by decide +kernel
theorem dX9_counted_214 : decode cX9_counted 214 = .ok (.iload_n 3, 1) := by decide +kernel
theorem dX9_counted_215 : decode cX9_counted 215 = .ok (.iconst 3, 1) := by decide +kernel
theorem dX9_counted_216 : decode cX9_counted 216 = .ok (.invokevirtual 116, 3) := by decide +kernel
theorem dX9_counted_219 : decode cX9_counted 219 = .ok (.iconst (-1), 1) := by decide +kernel
theorem dX9_counted_220 : decode cX9_counted 220 = .ok (.if_icmp .eq 8, 3) := by decide +kernel
theorem dX9_counted_223 : decode cX9_counted 223 = .ok (.bipush 6, 2) := by decide +kernel
theorem dX9_counted_225 : decode cX9_counted 225 = .ok (.goto 4, 3) := by decide +kernel
theorem dX9_counted_228 : decode cX9_counted 228 = .ok (.iconst 5, 1) := by decide +kernel
theorem dX9_counted_229 : decode cX9_counted 229 = .ok (.iload_n 1, 1) := by decide +kernel
theorem dX9_counted_230 : decode cX9_counted 230 = .ok (.if_icmp .ne 7, 3) := by decide +kernel
theorem dX9_counted_233 : decode cX9_counted 233 = .ok (.iconst 1, 1) := by decide +kernel
theorem dX9_counted_234 : decode cX9_counted 234 = .ok (.goto 4, 3) := by decide +kernel
theorem dX9_counted_237 : decode cX9_counted 237 = .ok (.iconst 0, 1) := by decide +kernel
theorem dX9_counted_238 : decode cX9_counted 238 = .ok (.iadd, 1) := by decide +kernel
theorem dX9_counted_239 : decode cX9_counted 239 = .ok (.istore_n 2, 1) := by decide +kernel
theorem dX9_counted_240 : decode cX9_counted 240 = .ok (.iinc 3 1, 3) := by decide +kernel
theorem dX9_counted_243 : decode cX9_counted 243 = .ok (.goto (-52), 3) := by decide +kernel
theorem dX9_counted_246 : decode cX9_counted 246 = .ok (.iload_n 2, 1) := by decide +kernel
theorem dX9_counted_247 : decode cX9_counted 247 = .ok (.ireturn, 1) := by decide +kernel
theorem dX9_count_0 : decode cX9_count 0 = .ok (.aload_n 0, 1) := by decide +kernel
theorem dX9_count_1 : decode cX9_count 1 = .ok (.iconst 0, 1) := by decide +kernel
theorem dX9_count_2 : decode cX9_count 2 = .ok (.putfield 40, 3) := by decide +kernel
theorem dX9_count_5 : decode cX9_count 5 = .ok (.iload_n 1, 1) := by decide +kernel
theorem dX9_count_6 : decode cX9_count 6 = .ok (.iconst 0, 1) := by decide +kernel
theorem dX9_count_7 : decode cX9_count 7 = .ok (.bipush 10, 2) := by decide +kernel
theorem dX9_count_9 : decode cX9_count 9 = .ok (.invokestatic 44, 3) := by decide +kernel
theorem dX9_count_12 : decode cX9_count 12 = .ok (.ifCond .eq 11, 3) := by decide +kernel
theorem dX9_count_15 : decode cX9_count 15 = .ok (.aload_n 0, 1) := by decide +kernel
theorem dX9_count_16 : decode cX9_count 16 = .ok (.iload_n 1, 1) := by decide +kernel
theorem dX9_count_17 : decode cX9_count 17 = .ok (.invokevirtual 171, 3) := by decide +kernel
theorem dX9_count_20 : decode cX9_count 20 = .ok (.goto 8, 3) := by decide +kernel
theorem dX9_count_23 : decode cX9_count 23 = .ok (.aload_n 0, 1) := by decide +kernel
theorem dX9_count_24 : decode cX9_count 24 = .ok (.iconst 1, 1) := by decide +kernel
theorem dX9_count_25 : decode cX9_count 25 = .ok (.invokevirtual 73, 3) := by decide +kernel
theorem dX9_count_28 : decode cX9_count 28 = .ok (.ireturn, 1) := by decide +kernel
theorem dX9_crossingAt_0 : decode cX9_crossingAt 0 = .ok (.aload_n 0, 1) := by decide +kernel
theorem dX9_crossingAt_1 : decode cX9_crossingAt 1 = .ok (.iload_n 1, 1) := by decide +kernel
theorem dX9_crossingAt_2 : decode cX9_crossingAt 2 = .ok (.aload_n 0, 1) := by decide +kernel
theorem dX9_crossingAt_3 : decode cX9_crossingAt 3 = .ok (.getfield 19, 3) := by decide +kernel
theorem dX9_crossingAt_6 : decode cX9_crossingAt 6 = .ok (.aload_n 0, 1) := by decide +kernel
theorem dX9_crossingAt_7 : decode cX9_crossingAt 7 = .ok (.iload_n 1, 1) := by decide +kernel
theorem dX9_crossingAt_8 : decode cX9_crossingAt 8 = .ok (.iconst 1, 1) := by decide +kernel
theorem dX9_crossingAt_9 : decode cX9_crossingAt 9 = .ok (.invokevirtual 66, 3) := by decide +kernel
theorem dX9_crossingAt_12 : decode cX9_crossingAt 12 = .ok (.iaload, 1) := by decide +kernel
theorem dX9_crossingAt_13 : decode cX9_crossingAt 13 = .ok (.iload_n 2, 1) := by decide +kernel
theorem dX9_crossingAt_14 : decode cX9_crossingAt 14 = .ok (.invokevirtual 128, 3) := by decide +kernel
theorem dX9_crossingAt_17 : decode cX9_crossingAt 17 = .ok (.aload_n 0, 1) := by decide +kernel
theorem dX9_crossingAt_18 : decode cX9_crossingAt 18 = .ok (.getfield 31, 3) := by decide +kernel
theorem dX9_crossingAt_21 : decode cX9_crossingAt 21 = .ok (.aload_n 0, 1) := by decide +kernel
theorem dX9_crossingAt_22 : decode cX9_crossingAt 22 = .ok (.getfield 19, 3) := by decide +kernel
theorem dX9_crossingAt_25 : decode cX9_crossingAt 25 = .ok (.aload_n 0, 1) := by decide +kernel
theorem dX9_crossingAt_26 : decode cX9_crossingAt 26 = .ok (.iload_n 1, 1) := by decide +kernel
theorem dX9_crossingAt_27 : decode cX9_crossingAt 27 = .ok (.iconst 0, 1) := by decide +kernel
theorem dX9_crossingAt_28 : decode cX9_crossingAt 28 = .ok (.invokevirtual 66, 3) := by decide +kernel
theorem dX9_crossingAt_31 : decode cX9_crossingAt 31 = .ok (.iaload, 1) := by decide +kernel
theorem dX9_crossingAt_32 : decode cX9_crossingAt 32 = .ok (.iaload, 1) := by decide +kernel
theorem dX9_crossingAt_33 : decode cX9_crossingAt 33 = .ok (.ireturn, 1) := by decide +kernel
theorem dX9_crossing_0 : decode cX9_crossing 0 = .ok (.aload_n 0, 1) := by decide +kernel
theorem dX9_crossing_1 : decode cX9_crossing 1 = .ok (.iconst 0, 1) := by decide +kernel
theorem dX9_crossing_2 : decode cX9_crossing 2 = .ok (.putfield 40, 3) := by decide +kernel
theorem dX9_crossing_5 : decode cX9_crossing 5 = .ok (.aload_n 0, 1) := by decide +kernel
theorem dX9_crossing_6 : decode cX9_crossing 6 = .ok (.iload_n 1, 1) := by decide +kernel
theorem dX9_crossing_7 : decode cX9_crossing 7 = .ok (.invokevirtual 104, 3) := by decide +kernel
theorem dX9_crossing_10 : decode cX9_crossing 10 = .ok (.ifCond .ne 9, 3) := by decide +kernel
theorem dX9_crossing_13 : decode cX9_crossing 13 = .ok (.aload_n 0, 1) := by decide +kernel
theorem dX9_crossing_14 : decode cX9_crossing 14 = .ok (.iconst 1, 1) := by decide +kernel
theorem dX9_crossing_15 : decode cX9_crossing 15 = .ok (.invokevirtual 73, 3) := by decide +kernel
theorem dX9_crossing_18 : decode cX9_crossing 18 = .ok (.ireturn, 1) := by decide +kernel
theorem dX9_crossing_19 : decode cX9_crossing 19 = .ok (.iload_n 2, 1) := by decide +kernel
theorem dX9_crossing_20 : decode cX9_crossing 20 = .ok (.iconst 0, 1) := by decide +kernel
theorem dX9_crossing_21 : decode cX9_crossing 21 = .ok (.bipush 24, 2) := by decide +kernel
theorem dX9_crossing_23 : decode cX9_crossing 23 = .ok (.invokestatic 44, 3) := by decide +kernel
theorem dX9_crossing_26 : decode cX9_crossing 26 = .ok (.ifCond .eq 12, 3) := by decide +kernel
theorem dX9_crossing_29 : decode cX9_crossing 29 = .ok (.aload_n 0, 1) := by decide +kernel
theorem dX9_crossing_30 : decode cX9_crossing 30 = .ok (.iload_n 1, 1) := by decide +kernel
theorem dX9_crossing_31 : decode cX9_crossing 31 = .ok (.iload_n 2, 1) := by decide +kernel
theorem dX9_crossing_32 : decode cX9_crossing 32 = .ok (.invokevirtual 174, 3) := by decide +kernel
theorem dX9_crossing_35 : decode cX9_crossing 35 = .ok (.goto 8, 3) := by decide +kernel
theorem dX9_crossing_38 : decode cX9_crossing 38 = .ok (.aload_n 0, 1) := by decide +kernel
theorem dX9_crossing_39 : decode cX9_crossing 39 = .ok (.iconst 2, 1) := by decide +kernel
theorem dX9_crossing_40 : decode cX9_crossing 40 = .ok (.invokevirtual 73, 3) := by decide +kernel
theorem dX9_crossing_43 : decode cX9_crossing 43 = .ok (.ireturn, 1) := by decide +kernel
theorem dX9_opens_0 : decode cX9_opens 0 = .ok (.aload_n 0, 1) := by decide +kernel
theorem dX9_opens_1 : decode cX9_opens 1 = .ok (.iconst 0, 1) := by decide +kernel
theorem dX9_opens_2 : decode cX9_opens 2 = .ok (.putfield 40, 3) := by decide +kernel
theorem dX9_opens_5 : decode cX9_opens 5 = .ok (.aload_n 0, 1) := by decide +kernel
theorem dX9_opens_6 : decode cX9_opens 6 = .ok (.iload_n 1, 1) := by decide +kernel
theorem dX9_opens_7 : decode cX9_opens 7 = .ok (.invokevirtual 104, 3) := by decide +kernel
theorem dX9_opens_10 : decode cX9_opens 10 = .ok (.ifCond .ne 9, 3) := by decide +kernel
theorem dX9_opens_13 : decode cX9_opens 13 = .ok (.aload_n 0, 1) := by decide +kernel
theorem dX9_opens_14 : decode cX9_opens 14 = .ok (.iconst 1, 1) := by decide +kernel
theorem dX9_opens_15 : decode cX9_opens 15 = .ok (.invokevirtual 73, 3) := by decide +kernel
theorem dX9_opens_18 : decode cX9_opens 18 = .ok (.ireturn, 1) := by decide +kernel
theorem dX9_opens_19 : decode cX9_opens 19 = .ok (.iconst 0, 1) := by decide +kernel
theorem dX9_opens_20 : decode cX9_opens 20 = .ok (.istore_n 2, 1) := by decide +kernel
theorem dX9_opens_21 : decode cX9_opens 21 = .ok (.iload_n 2, 1) := by decide +kernel
theorem dX9_opens_22 : decode cX9_opens 22 = .ok (.bipush 24, 2) := by decide +kernel
theorem dX9_opens_24 : decode cX9_opens 24 = .ok (.if_icmp .gt 21, 3) := by decide +kernel
theorem dX9_opens_27 : decode cX9_opens 27 = .ok (.aload_n 0, 1) := by decide +kernel
theorem dX9_opens_28 : decode cX9_opens 28 = .ok (.iload_n 1, 1) := by decide +kernel
theorem dX9_opens_29 : decode cX9_opens 29 = .ok (.iload_n 2, 1) := by decide +kernel
theorem dX9_opens_30 : decode cX9_opens 30 = .ok (.invokevirtual 174, 3) := by decide +kernel
theorem dX9_opens_33 : decode cX9_opens 33 = .ok (.iconst (-1), 1) := by decide +kernel
theorem dX9_opens_34 : decode cX9_opens 34 = .ok (.if_icmp .eq 5, 3) := by decide +kernel
theorem dX9_opens_37 : decode cX9_opens 37 = .ok (.iload_n 2, 1) := by decide +kernel
theorem dX9_opens_38 : decode cX9_opens 38 = .ok (.ireturn, 1) := by decide +kernel
theorem dX9_opens_39 : decode cX9_opens 39 = .ok (.iinc 2 1, 3) := by decide +kernel
theorem dX9_opens_42 : decode cX9_opens 42 = .ok (.goto (-21), 3) := by decide +kernel
theorem dX9_opens_45 : decode cX9_opens 45 = .ok (.iconst (-1), 1) := by decide +kernel
theorem dX9_opens_46 : decode cX9_opens 46 = .ok (.ireturn, 1) := by decide +kernel
theorem dX9_chain_0 : decode cX9_chain 0 = .ok (.aload_n 0, 1) := by decide +kernel
theorem dX9_chain_1 : decode cX9_chain 1 = .ok (.iconst 0, 1) := by decide +kernel
theorem dX9_chain_2 : decode cX9_chain 2 = .ok (.putfield 40, 3) := by decide +kernel
theorem dX9_chain_5 : decode cX9_chain 5 = .ok (.aload_n 0, 1) := by decide +kernel
theorem dX9_chain_6 : decode cX9_chain 6 = .ok (.iload_n 1, 1) := by decide +kernel
theorem dX9_chain_7 : decode cX9_chain 7 = .ok (.invokevirtual 90, 3) := by decide +kernel
theorem dX9_chain_10 : decode cX9_chain 10 = .ok (.ifCond .eq 20, 3) := by decide +kernel
theorem dX9_chain_13 : decode cX9_chain 13 = .ok (.aload_n 0, 1) := by decide +kernel
theorem dX9_chain_14 : decode cX9_chain 14 = .ok (.iload_n 2, 1) := by decide +kernel
theorem dX9_chain_15 : decode cX9_chain 15 = .ok (.invokevirtual 90, 3) := by decide +kernel
theorem dX9_chain_18 : decode cX9_chain 18 = .ok (.ifCond .eq 12, 3) := by decide +kernel
theorem dX9_chain_21 : decode cX9_chain 21 = .ok (.iload_n 3, 1) := by decide +kernel
theorem dX9_chain_22 : decode cX9_chain 22 = .ok (.iconst 0, 1) := by decide +kernel
theorem dX9_chain_23 : decode cX9_chain 23 = .ok (.iconst 2, 1) := by decide +kernel
theorem dX9_chain_24 : decode cX9_chain 24 = .ok (.invokestatic 44, 3) := by decide +kernel
theorem dX9_chain_27 : decode cX9_chain 27 = .ok (.ifCond .ne 9, 3) := by decide +kernel
theorem dX9_chain_30 : decode cX9_chain 30 = .ok (.aload_n 0, 1) := by decide +kernel
theorem dX9_chain_31 : decode cX9_chain 31 = .ok (.iconst 1, 1) := by decide +kernel
theorem dX9_chain_32 : decode cX9_chain 32 = .ok (.invokevirtual 73, 3) := by decide +kernel
theorem dX9_chain_35 : decode cX9_chain 35 = .ok (.ireturn, 1) := by decide +kernel
theorem dX9_chain_36 : decode cX9_chain 36 = .ok (.iload_n 3, 1) := by decide +kernel
theorem dX9_chain_37 : decode cX9_chain 37 = .ok (.iconst 1, 1) := by decide +kernel
theorem dX9_chain_38 : decode cX9_chain 38 = .ok (.if_icmp .ne 10, 3) := by decide +kernel
theorem dX9_chain_41 : decode cX9_chain 41 = .ok (.aload_n 0, 1) := by decide +kernel
theorem dX9_chain_42 : decode cX9_chain 42 = .ok (.iload_n 1, 1) := by decide +kernel
theorem dX9_chain_43 : decode cX9_chain 43 = .ok (.iload_n 2, 1) := by decide +kernel
theorem dX9_chain_44 : decode cX9_chain 44 = .ok (.invokevirtual 159, 3) := by decide +kernel
theorem dX9_chain_47 : decode cX9_chain 47 = .ok (.ireturn, 1) := by decide +kernel
theorem dX9_chain_48 : decode cX9_chain 48 = .ok (.aload_n 0, 1) := by decide +kernel
theorem dX9_chain_49 : decode cX9_chain 49 = .ok (.iload_n 2, 1) := by decide +kernel
theorem dX9_chain_50 : decode cX9_chain 50 = .ok (.invokevirtual 140, 3) := by decide +kernel
theorem dX9_chain_53 : decode cX9_chain 53 = .ok (.iload_n 3, 1) := by decide +kernel
theorem dX9_chain_54 : decode cX9_chain 54 = .ok (.ifCond .eq 13, 3) := by decide +kernel
theorem dX9_chain_57 : decode cX9_chain 57 = .ok (.aload_n 0, 1) := by decide +kernel
theorem dX9_chain_58 : decode cX9_chain 58 = .ok (.getfield 34, 3) := by decide +kernel
theorem dX9_chain_61 : decode cX9_chain 61 = .ok (.iload_n 1, 1) := by decide +kernel
theorem dX9_chain_62 : decode cX9_chain 62 = .ok (.iaload, 1) := by decide +kernel
theorem dX9_chain_63 : decode cX9_chain 63 = .ok (.iconst (-1), 1) := by decide +kernel
theorem dX9_chain_64 : decode cX9_chain 64 = .ok (.if_icmp .ne 12, 3) := by decide +kernel
theorem dX9_chain_67 : decode cX9_chain 67 = .ok (.aload_n 0, 1) := by decide +kernel
theorem dX9_chain_68 : decode cX9_chain 68 = .ok (.getfield 34, 3) := by decide +kernel
theorem dX9_chain_71 : decode cX9_chain 71 = .ok (.iload_n 1, 1) := by decide +kernel
theorem dX9_chain_72 : decode cX9_chain 72 = .ok (.iaload, 1) := by decide +kernel
theorem dX9_chain_73 : decode cX9_chain 73 = .ok (.goto 9, 3) := by decide +kernel
theorem dX9_chain_76 : decode cX9_chain 76 = .ok (.aload_n 0, 1) := by decide +kernel
theorem dX9_chain_77 : decode cX9_chain 77 = .ok (.getfield 37, 3) := by decide +kernel
theorem dX9_chain_80 : decode cX9_chain 80 = .ok (.iload_n 1, 1) := by decide +kernel
theorem dX9_chain_81 : decode cX9_chain 81 = .ok (.iaload, 1) := by decide +kernel
theorem dX9_chain_82 : decode cX9_chain 82 = .ok (.ireturn, 1) := by decide +kernel
theorem dX9_kept_0 : decode cX9_kept 0 = .ok (.iconst 3, 1) := by decide +kernel
theorem dX9_kept_1 : decode cX9_kept 1 = .ok (.anewarray 177, 3) := by decide +kernel
theorem dX9_kept_4 : decode cX9_kept 4 = .ok (.dup, 1) := by decide +kernel
theorem dX9_kept_5 : decode cX9_kept 5 = .ok (.iconst 0, 1) := by decide +kernel
theorem dX9_kept_6 : decode cX9_kept 6 = .ok (.aload_n 0, 1) := by decide +kernel
theorem dX9_kept_7 : decode cX9_kept 7 = .ok (.getfield 25, 3) := by decide +kernel
theorem dX9_kept_10 : decode cX9_kept 10 = .ok (.invokevirtual 178, 3) := by decide +kernel
theorem dX9_kept_13 : decode cX9_kept 13 = .ok (.checkcast 177, 3) := by decide +kernel
theorem dX9_kept_16 : decode cX9_kept 16 = .ok (.aastore, 1) := by decide +kernel
theorem dX9_kept_17 : decode cX9_kept 17 = .ok (.dup, 1) := by decide +kernel
theorem dX9_kept_18 : decode cX9_kept 18 = .ok (.iconst 1, 1) := by decide +kernel
theorem dX9_kept_19 : decode cX9_kept 19 = .ok (.aload_n 0, 1) := by decide +kernel
theorem dX9_kept_20 : decode cX9_kept 20 = .ok (.getfield 28, 3) := by decide +kernel
theorem dX9_kept_23 : decode cX9_kept 23 = .ok (.invokevirtual 178, 3) := by decide +kernel
theorem dX9_kept_26 : decode cX9_kept 26 = .ok (.checkcast 177, 3) := by decide +kernel
theorem dX9_kept_29 : decode cX9_kept 29 = .ok (.aastore, 1) := by decide +kernel
theorem dX9_kept_30 : decode cX9_kept 30 = .ok (.dup, 1) := by decide +kernel
theorem dX9_kept_31 : decode cX9_kept 31 = .ok (.iconst 2, 1) := by decide +kernel
theorem dX9_kept_32 : decode cX9_kept 32 = .ok (.iconst 1, 1) := by decide +kernel
theorem dX9_kept_33 : decode cX9_kept 33 = .ok (.newarray .int, 2) := by decide +kernel
theorem dX9_kept_35 : decode cX9_kept 35 = .ok (.dup, 1) := by decide +kernel
theorem dX9_kept_36 : decode cX9_kept 36 = .ok (.iconst 0, 1) := by decide +kernel
theorem dX9_kept_37 : decode cX9_kept 37 = .ok (.aload_n 0, 1) := by decide +kernel
theorem dX9_kept_38 : decode cX9_kept 38 = .ok (.getfield 54, 3) := by decide +kernel
theorem dX9_kept_41 : decode cX9_kept 41 = .ok (.iastore, 1) := by decide +kernel
theorem dX9_kept_42 : decode cX9_kept 42 = .ok (.aastore, 1) := by decide +kernel
theorem dX9_kept_43 : decode cX9_kept 43 = .ok (.areturn, 1) := by decide +kernel
theorem dX9_bringBack_0 : decode cX9_bringBack 0 = .ok (.aload_n 0, 1) := by decide +kernel
theorem dX9_bringBack_1 : decode cX9_bringBack 1 = .ok (.aload_n 1, 1) := by decide +kernel
theorem dX9_bringBack_2 : decode cX9_bringBack 2 = .ok (.iconst 0, 1) := by decide +kernel
theorem dX9_bringBack_3 : decode cX9_bringBack 3 = .ok (.aaload, 1) := by decide +kernel
theorem dX9_bringBack_4 : decode cX9_bringBack 4 = .ok (.putfield 25, 3) := by decide +kernel
theorem dX9_bringBack_7 : decode cX9_bringBack 7 = .ok (.aload_n 0, 1) := by decide +kernel
theorem dX9_bringBack_8 : decode cX9_bringBack 8 = .ok (.aload_n 1, 1) := by decide +kernel
theorem dX9_bringBack_9 : decode cX9_bringBack 9 = .ok (.iconst 1, 1) := by decide +kernel
theorem dX9_bringBack_10 : decode cX9_bringBack 10 = .ok (.aaload, 1) := by decide +kernel
theorem dX9_bringBack_11 : decode cX9_bringBack 11 = .ok (.putfield 28, 3) := by decide +kernel
theorem dX9_bringBack_14 : decode cX9_bringBack 14 = .ok (.aload_n 0, 1) := by decide +kernel
theorem dX9_bringBack_15 : decode cX9_bringBack 15 = .ok (.aload_n 1, 1) := by decide +kernel
theorem dX9_bringBack_16 : decode cX9_bringBack 16 = .ok (.iconst 2, 1) := by decide +kernel
theorem dX9_bringBack_17 : decode cX9_bringBack 17 = .ok (.aaload, 1) := by decide +kernel
theorem dX9_bringBack_18 : decode cX9_bringBack 18 = .ok (.iconst 0, 1) := by decide +kernel
theorem dX9_bringBack_19 : decode cX9_bringBack 19 = .ok (.iaload, 1) := by decide +kernel
theorem dX9_bringBack_20 : decode cX9_bringBack 20 = .ok (.putfield 54, 3) := by decide +kernel
theorem dX9_bringBack_23 : decode cX9_bringBack 23 = .ok (.return_, 1) := by decide +kernel
theorem dX9_aground_0 : decode cX9_aground 0 = .ok (.aload_n 0, 1) := by decide +kernel
theorem dX9_aground_1 : decode cX9_aground 1 = .ok (.iconst 0, 1) := by decide +kernel
theorem dX9_aground_2 : decode cX9_aground 2 = .ok (.putfield 40, 3) := by decide +kernel
theorem dX9_aground_5 : decode cX9_aground 5 = .ok (.aload_n 0, 1) := by decide +kernel
theorem dX9_aground_6 : decode cX9_aground 6 = .ok (.iload_n 1, 1) := by decide +kernel
theorem dX9_aground_7 : decode cX9_aground 7 = .ok (.invokevirtual 104, 3) := by decide +kernel
theorem dX9_aground_10 : decode cX9_aground 10 = .ok (.ifCond .ne 9, 3) := by decide +kernel
theorem dX9_aground_13 : decode cX9_aground 13 = .ok (.aload_n 0, 1) := by decide +kernel
theorem dX9_aground_14 : decode cX9_aground 14 = .ok (.iconst 1, 1) := by decide +kernel
theorem dX9_aground_15 : decode cX9_aground 15 = .ok (.invokevirtual 73, 3) := by decide +kernel
theorem dX9_aground_18 : decode cX9_aground 18 = .ok (.ireturn, 1) := by decide +kernel
theorem dX9_aground_19 : decode cX9_aground 19 = .ok (.iload_n 2, 1) := by decide +kernel
theorem dX9_aground_20 : decode cX9_aground 20 = .ok (.iconst 1, 1) := by decide +kernel
theorem dX9_aground_21 : decode cX9_aground 21 = .ok (.bipush 100, 2) := by decide +kernel
theorem dX9_aground_23 : decode cX9_aground 23 = .ok (.invokestatic 44, 3) := by decide +kernel
theorem dX9_aground_26 : decode cX9_aground 26 = .ok (.ifCond .ne 9, 3) := by decide +kernel
theorem dX9_aground_29 : decode cX9_aground 29 = .ok (.aload_n 0, 1) := by decide +kernel
theorem dX9_aground_30 : decode cX9_aground 30 = .ok (.iconst 2, 1) := by decide +kernel
theorem dX9_aground_31 : decode cX9_aground 31 = .ok (.invokevirtual 73, 3) := by decide +kernel
theorem dX9_aground_34 : decode cX9_aground 34 = .ok (.ireturn, 1) := by decide +kernel
theorem dX9_aground_35 : decode cX9_aground 35 = .ok (.aload_n 0, 1) := by decide +kernel
theorem dX9_aground_36 : decode cX9_aground 36 = .ok (.invokevirtual 182, 3) := by decide +kernel
theorem dX9_aground_39 : decode cX9_aground 39 = .ok (.astore_n 3, 1) := by decide +kernel
theorem dX9_aground_40 : decode cX9_aground 40 = .ok (.iconst 0, 1) := by decide +kernel
theorem dX9_aground_41 : decode cX9_aground 41 = .ok (.istore 4, 2) := by decide +kernel
theorem dX9_aground_43 : decode cX9_aground 43 = .ok (.iload 4, 2) := by decide +kernel
theorem dX9_aground_45 : decode cX9_aground 45 = .ok (.iload_n 2, 1) := by decide +kernel
theorem dX9_aground_46 : decode cX9_aground 46 = .ok (.if_icmp .ge 22, 3) := by decide +kernel
theorem dX9_aground_49 : decode cX9_aground 49 = .ok (.aload_n 0, 1) := by decide +kernel
theorem dX9_aground_50 : decode cX9_aground 50 = .ok (.iload_n 1, 1) := by decide +kernel
theorem dX9_aground_51 : decode cX9_aground 51 = .ok (.invokevirtual 122, 3) := by decide +kernel
theorem dX9_aground_54 : decode cX9_aground 54 = .ok (.ifCond .ne 14, 3) := by decide +kernel
theorem dX9_aground_57 : decode cX9_aground 57 = .ok (.aload_n 0, 1) := by decide +kernel
theorem dX9_aground_58 : decode cX9_aground 58 = .ok (.invokevirtual 168, 3) := by decide +kernel
theorem dX9_aground_61 : decode cX9_aground 61 = .ok (.pop, 1) := by decide +kernel
theorem dX9_aground_62 : decode cX9_aground 62 = .ok (.iinc 4 1, 3) := by decide +kernel
theorem dX9_aground_65 : decode cX9_aground 65 = .ok (.goto (-22), 3) := by decide +kernel
theorem dX9_aground_68 : decode cX9_aground 68 = .ok (.aload_n 0, 1) := by decide +kernel
theorem dX9_aground_69 : decode cX9_aground 69 = .ok (.iload_n 1, 1) := by decide +kernel
theorem dX9_aground_70 : decode cX9_aground 70 = .ok (.invokevirtual 122, 3) := by decide +kernel
theorem dX9_aground_73 : decode cX9_aground 73 = .ok (.ifCond .eq 8, 3) := by decide +kernel
theorem dX9_aground_76 : decode cX9_aground 76 = .ok (.iload 4, 2) := by decide +kernel
theorem dX9_aground_78 : decode cX9_aground 78 = .ok (.goto 4, 3) := by decide +kernel
theorem dX9_aground_81 : decode cX9_aground 81 = .ok (.iconst (-1), 1) := by decide +kernel
theorem dX9_aground_82 : decode cX9_aground 82 = .ok (.istore 5, 2) := by decide +kernel
theorem dX9_aground_84 : decode cX9_aground 84 = .ok (.aload_n 0, 1) := by decide +kernel
theorem dX9_aground_85 : decode cX9_aground 85 = .ok (.aload_n 3, 1) := by decide +kernel
theorem dX9_aground_86 : decode cX9_aground 86 = .ok (.invokevirtual 186, 3) := by decide +kernel
theorem dX9_aground_89 : decode cX9_aground 89 = .ok (.iload 5, 2) := by decide +kernel
theorem dX9_aground_91 : decode cX9_aground 91 = .ok (.ireturn, 1) := by decide +kernel
theorem dX9_arrives_0 : decode cX9_arrives 0 = .ok (.aload_n 0, 1) := by decide +kernel
theorem dX9_arrives_1 : decode cX9_arrives 1 = .ok (.iconst 0, 1) := by decide +kernel
theorem dX9_arrives_2 : decode cX9_arrives 2 = .ok (.putfield 40, 3) := by decide +kernel
theorem dX9_arrives_5 : decode cX9_arrives 5 = .ok (.iload_n 1, 1) := by decide +kernel
theorem dX9_arrives_6 : decode cX9_arrives 6 = .ok (.iconst 0, 1) := by decide +kernel
theorem dX9_arrives_7 : decode cX9_arrives 7 = .ok (.aload_n 0, 1) := by decide +kernel
theorem dX9_arrives_8 : decode cX9_arrives 8 = .ok (.getfield 113, 3) := by decide +kernel
theorem dX9_arrives_11 : decode cX9_arrives 11 = .ok (.iconst 1, 1) := by decide +kernel
theorem dX9_arrives_12 : decode cX9_arrives 12 = .ok (.isub, 1) := by decide +kernel
theorem dX9_arrives_13 : decode cX9_arrives 13 = .ok (.invokestatic 44, 3) := by decide +kernel
theorem dX9_arrives_16 : decode cX9_arrives 16 = .ok (.ifCond .ne 9, 3) := by decide +kernel
theorem dX9_arrives_19 : decode cX9_arrives 19 = .ok (.aload_n 0, 1) := by decide +kernel
theorem dX9_arrives_20 : decode cX9_arrives 20 = .ok (.iconst 1, 1) := by decide +kernel
theorem dX9_arrives_21 : decode cX9_arrives 21 = .ok (.invokevirtual 73, 3) := by decide +kernel
theorem dX9_arrives_24 : decode cX9_arrives 24 = .ok (.ireturn, 1) := by decide +kernel
theorem dX9_arrives_25 : decode cX9_arrives 25 = .ok (.aload_n 0, 1) := by decide +kernel
theorem dX9_arrives_26 : decode cX9_arrives 26 = .ok (.invokevirtual 182, 3) := by decide +kernel
theorem dX9_arrives_29 : decode cX9_arrives 29 = .ok (.astore_n 2, 1) := by decide +kernel
theorem dX9_arrives_30 : decode cX9_arrives 30 = .ok (.iconst 0, 1) := by decide +kernel
theorem dX9_arrives_31 : decode cX9_arrives 31 = .ok (.istore_n 3, 1) := by decide +kernel
theorem dX9_arrives_32 : decode cX9_arrives 32 = .ok (.iload_n 3, 1) := by decide +kernel
theorem dX9_arrives_33 : decode cX9_arrives 33 = .ok (.sipush 400, 3) := by decide +kernel
theorem dX9_arrives_36 : decode cX9_arrives 36 = .ok (.if_icmp .ge 22, 3) := by decide +kernel
theorem dX9_arrives_39 : decode cX9_arrives 39 = .ok (.aload_n 0, 1) := by decide +kernel
theorem dX9_arrives_40 : decode cX9_arrives 40 = .ok (.iload_n 1, 1) := by decide +kernel
theorem dX9_arrives_41 : decode cX9_arrives 41 = .ok (.invokevirtual 144, 3) := by decide +kernel
theorem dX9_arrives_44 : decode cX9_arrives 44 = .ok (.ifCond .ne 14, 3) := by decide +kernel
theorem dX9_arrives_47 : decode cX9_arrives 47 = .ok (.aload_n 0, 1) := by decide +kernel
theorem dX9_arrives_48 : decode cX9_arrives 48 = .ok (.invokevirtual 168, 3) := by decide +kernel
theorem dX9_arrives_51 : decode cX9_arrives 51 = .ok (.pop, 1) := by decide +kernel
theorem dX9_arrives_52 : decode cX9_arrives 52 = .ok (.iinc 3 1, 3) := by decide +kernel
theorem dX9_arrives_55 : decode cX9_arrives 55 = .ok (.goto (-23), 3) := by decide +kernel
theorem dX9_arrives_58 : decode cX9_arrives 58 = .ok (.aload_n 0, 1) := by decide +kernel
theorem dX9_arrives_59 : decode cX9_arrives 59 = .ok (.iload_n 1, 1) := by decide +kernel
theorem dX9_arrives_60 : decode cX9_arrives 60 = .ok (.iconst 4, 1) := by decide +kernel
theorem dX9_arrives_61 : decode cX9_arrives 61 = .ok (.invokevirtual 116, 3) := by decide +kernel
theorem dX9_arrives_64 : decode cX9_arrives 64 = .ok (.istore_n 3, 1) := by decide +kernel
theorem dX9_arrives_65 : decode cX9_arrives 65 = .ok (.aload_n 0, 1) := by decide +kernel
theorem dX9_arrives_66 : decode cX9_arrives 66 = .ok (.aload_n 2, 1) := by decide +kernel
theorem dX9_arrives_67 : decode cX9_arrives 67 = .ok (.invokevirtual 186, 3) := by decide +kernel
theorem dX9_arrives_70 : decode cX9_arrives 70 = .ok (.iload_n 3, 1) := by decide +kernel
theorem dX9_arrives_71 : decode cX9_arrives 71 = .ok (.ireturn, 1) := by decide +kernel
theorem dX9_mean_0 : decode cX9_mean 0 = .ok (.aload_n 0, 1) := by decide +kernel
theorem dX9_mean_1 : decode cX9_mean 1 = .ok (.iconst 0, 1) := by decide +kernel
theorem dX9_mean_2 : decode cX9_mean 2 = .ok (.putfield 40, 3) := by decide +kernel
theorem dX9_mean_5 : decode cX9_mean 5 = .ok (.iconst 0, 1) := by decide +kernel
theorem dX9_mean_6 : decode cX9_mean 6 = .ok (.istore_n 1, 1) := by decide +kernel
theorem dX9_mean_7 : decode cX9_mean 7 = .ok (.iconst 0, 1) := by decide +kernel
theorem dX9_mean_8 : decode cX9_mean 8 = .ok (.istore_n 2, 1) := by decide +kernel
theorem dX9_mean_9 : decode cX9_mean 9 = .ok (.iload_n 2, 1) := by decide +kernel
theorem dX9_mean_10 : decode cX9_mean 10 = .ok (.sipush 196, 3) := by decide +kernel
theorem dX9_mean_13 : decode cX9_mean 13 = .ok (.if_icmp .ge 21, 3) := by decide +kernel
theorem dX9_mean_16 : decode cX9_mean 16 = .ok (.iload_n 1, 1) := by decide +kernel
theorem dX9_mean_17 : decode cX9_mean 17 = .ok (.aload_n 0, 1) := by decide +kernel
theorem dX9_mean_18 : decode cX9_mean 18 = .ok (.iload_n 2, 1) := by decide +kernel
theorem dX9_mean_19 : decode cX9_mean 19 = .ok (.aload_n 0, 1) := by decide +kernel
theorem dX9_mean_20 : decode cX9_mean 20 = .ok (.invokevirtual 80, 3) := by decide +kernel
theorem dX9_mean_23 : decode cX9_mean 23 = .ok (.invokevirtual 63, 3) := by decide +kernel
theorem dX9_mean_26 : decode cX9_mean 26 = .ok (.iadd, 1) := by decide +kernel
theorem dX9_mean_27 : decode cX9_mean 27 = .ok (.istore_n 1, 1) := by decide +kernel
theorem dX9_mean_28 : decode cX9_mean 28 = .ok (.iinc 2 1, 3) := by decide +kernel
theorem dX9_mean_31 : decode cX9_mean 31 = .ok (.goto (-22), 3) := by decide +kernel
theorem dX9_mean_34 : decode cX9_mean 34 = .ok (.iload_n 1, 1) := by decide +kernel
theorem dX9_mean_35 : decode cX9_mean 35 = .ok (.i2d, 1) := by decide +kernel
theorem dX9_mean_36 : decode cX9_mean 36 = .ok (.ldc2_w 190, 3) := by decide +kernel
theorem dX9_mean_39 : decode cX9_mean 39 = .ok (.ddiv, 1) := by decide +kernel
theorem dX9_mean_40 : decode cX9_mean 40 = .ok (.dreturn, 1) := by decide +kernel
theorem dX9_digest_0 : decode cX9_digest 0 = .ok (.aload_n 0, 1) := by decide +kernel
theorem dX9_digest_1 : decode cX9_digest 1 = .ok (.iconst 0, 1) := by decide +kernel
theorem dX9_digest_2 : decode cX9_digest 2 = .ok (.putfield 40, 3) := by decide +kernel
theorem dX9_digest_5 : decode cX9_digest 5 = .ok (.ldc2_w 192, 3) := by decide +kernel
theorem dX9_digest_8 : decode cX9_digest 8 = .ok (.lstore_n 1, 1) := by decide +kernel
theorem dX9_digest_9 : decode cX9_digest 9 = .ok (.iconst 0, 1) := by decide +kernel
theorem dX9_digest_10 : decode cX9_digest 10 = .ok (.istore_n 3, 1) := by decide +kernel
theorem dX9_digest_11 : decode cX9_digest 11 = .ok (.iload_n 3, 1) := by decide +kernel
theorem dX9_digest_12 : decode cX9_digest 12 = .ok (.bipush 11, 2) := by decide +kernel
theorem dX9_digest_14 : decode cX9_digest 14 = .ok (.if_icmp .ge 22, 3) := by decide +kernel
theorem dX9_digest_17 : decode cX9_digest 17 = .ok (.lload_n 1, 1) := by decide +kernel
theorem dX9_digest_18 : decode cX9_digest 18 = .ok (.ldc2_w 194, 3) := by decide +kernel
theorem dX9_digest_21 : decode cX9_digest 21 = .ok (.lmul, 1) := by decide +kernel
theorem dX9_digest_22 : decode cX9_digest 22 = .ok (.aload_n 0, 1) := by decide +kernel
theorem dX9_digest_23 : decode cX9_digest 23 = .ok (.iload_n 3, 1) := by decide +kernel
theorem dX9_digest_24 : decode cX9_digest 24 = .ok (.invokevirtual 171, 3) := by decide +kernel
theorem dX9_digest_27 : decode cX9_digest 27 = .ok (.i2l, 1) := by decide +kernel
theorem dX9_digest_28 : decode cX9_digest 28 = .ok (.ladd, 1) := by decide +kernel
theorem dX9_digest_29 : decode cX9_digest 29 = .ok (.lstore_n 1, 1) := by decide +kernel
theorem dX9_digest_30 : decode cX9_digest 30 = .ok (.iinc 3 1, 3) := by decide +kernel
theorem dX9_digest_33 : decode cX9_digest 33 = .ok (.goto (-22), 3) := by decide +kernel
theorem dX9_digest_36 : decode cX9_digest 36 = .ok (.iconst 0, 1) := by decide +kernel
theorem dX9_digest_37 : decode cX9_digest 37 = .ok (.istore_n 3, 1) := by decide +kernel
theorem dX9_digest_38 : decode cX9_digest 38 = .ok (.iload_n 3, 1) := by decide +kernel
theorem dX9_digest_39 : decode cX9_digest 39 = .ok (.bipush 12, 2) := by decide +kernel
theorem dX9_digest_41 : decode cX9_digest 41 = .ok (.if_icmp .ge 23, 3) := by decide +kernel
theorem dX9_digest_44 : decode cX9_digest 44 = .ok (.lload_n 1, 1) := by decide +kernel
theorem dX9_digest_45 : decode cX9_digest 45 = .ok (.ldc2_w 194, 3) := by decide +kernel
theorem dX9_digest_48 : decode cX9_digest 48 = .ok (.lmul, 1) := by decide +kernel
theorem dX9_digest_49 : decode cX9_digest 49 = .ok (.aload_n 0, 1) := by decide +kernel
theorem dX9_digest_50 : decode cX9_digest 50 = .ok (.getfield 16, 3) := by decide +kernel
theorem dX9_digest_53 : decode cX9_digest 53 = .ok (.iload_n 3, 1) := by decide +kernel
theorem dX9_digest_54 : decode cX9_digest 54 = .ok (.iaload, 1) := by decide +kernel
theorem dX9_digest_55 : decode cX9_digest 55 = .ok (.i2l, 1) := by decide +kernel
theorem dX9_digest_56 : decode cX9_digest 56 = .ok (.ladd, 1) := by decide +kernel
theorem dX9_digest_57 : decode cX9_digest 57 = .ok (.lstore_n 1, 1) := by decide +kernel
theorem dX9_digest_58 : decode cX9_digest 58 = .ok (.iinc 3 1, 3) := by decide +kernel
theorem dX9_digest_61 : decode cX9_digest 61 = .ok (.goto (-23), 3) := by decide +kernel
theorem dX9_digest_64 : decode cX9_digest 64 = .ok (.iconst 0, 1) := by decide +kernel
theorem dX9_digest_65 : decode cX9_digest 65 = .ok (.istore_n 3, 1) := by decide +kernel
theorem dX9_digest_66 : decode cX9_digest 66 = .ok (.iload_n 3, 1) := by decide +kernel
theorem dX9_digest_67 : decode cX9_digest 67 = .ok (.sipush 196, 3) := by decide +kernel
theorem dX9_digest_70 : decode cX9_digest 70 = .ok (.if_icmp .ge 35, 3) := by decide +kernel
theorem dX9_digest_73 : decode cX9_digest 73 = .ok (.lload_n 1, 1) := by decide +kernel
theorem dX9_digest_74 : decode cX9_digest 74 = .ok (.ldc2_w 194, 3) := by decide +kernel
theorem dX9_digest_77 : decode cX9_digest 77 = .ok (.lmul, 1) := by decide +kernel
theorem dX9_digest_78 : decode cX9_digest 78 = .ok (.aload_n 0, 1) := by decide +kernel
theorem dX9_digest_79 : decode cX9_digest 79 = .ok (.getfield 9, 3) := by decide +kernel
theorem dX9_digest_82 : decode cX9_digest 82 = .ok (.iload_n 3, 1) := by decide +kernel
theorem dX9_digest_83 : decode cX9_digest 83 = .ok (.iaload, 1) := by decide +kernel
theorem dX9_digest_84 : decode cX9_digest 84 = .ok (.i2l, 1) := by decide +kernel
theorem dX9_digest_85 : decode cX9_digest 85 = .ok (.ladd, 1) := by decide +kernel
theorem dX9_digest_86 : decode cX9_digest 86 = .ok (.ldc2_w 194, 3) := by decide +kernel
theorem dX9_digest_89 : decode cX9_digest 89 = .ok (.lmul, 1) := by decide +kernel
theorem dX9_digest_90 : decode cX9_digest 90 = .ok (.aload_n 0, 1) := by decide +kernel
theorem dX9_digest_91 : decode cX9_digest 91 = .ok (.getfield 13, 3) := by decide +kernel
theorem dX9_digest_94 : decode cX9_digest 94 = .ok (.iload_n 3, 1) := by decide +kernel
theorem dX9_digest_95 : decode cX9_digest 95 = .ok (.iaload, 1) := by decide +kernel
theorem dX9_digest_96 : decode cX9_digest 96 = .ok (.i2l, 1) := by decide +kernel
theorem dX9_digest_97 : decode cX9_digest 97 = .ok (.ladd, 1) := by decide +kernel
theorem dX9_digest_98 : decode cX9_digest 98 = .ok (.lstore_n 1, 1) := by decide +kernel
theorem dX9_digest_99 : decode cX9_digest 99 = .ok (.iinc 3 1, 3) := by decide +kernel
theorem dX9_digest_102 : decode cX9_digest 102 = .ok (.goto (-36), 3) := by decide +kernel
theorem dX9_digest_105 : decode cX9_digest 105 = .ok (.iconst 0, 1) := by decide +kernel
theorem dX9_digest_106 : decode cX9_digest 106 = .ok (.istore_n 3, 1) := by decide +kernel
theorem dX9_digest_107 : decode cX9_digest 107 = .ok (.iload_n 3, 1) := by decide +kernel
theorem dX9_digest_108 : decode cX9_digest 108 = .ok (.aload_n 0, 1) := by decide +kernel
theorem dX9_digest_109 : decode cX9_digest 109 = .ok (.getfield 48, 3) := by decide +kernel
theorem dX9_digest_112 : decode cX9_digest 112 = .ok (.if_icmp .ge 39, 3) := by decide +kernel
theorem dX9_digest_115 : decode cX9_digest 115 = .ok (.iconst 0, 1) := by decide +kernel
theorem dX9_digest_116 : decode cX9_digest 116 = .ok (.istore 4, 2) := by decide +kernel
theorem dX9_digest_118 : decode cX9_digest 118 = .ok (.iload 4, 2) := by decide +kernel
theorem dX9_digest_120 : decode cX9_digest 120 = .ok (.iconst 5, 1) := by decide +kernel
theorem dX9_digest_121 : decode cX9_digest 121 = .ok (.if_icmp .ge 24, 3) := by decide +kernel
theorem dX9_digest_124 : decode cX9_digest 124 = .ok (.lload_n 1, 1) := by decide +kernel
theorem dX9_digest_125 : decode cX9_digest 125 = .ok (.ldc2_w 194, 3) := by decide +kernel
theorem dX9_digest_128 : decode cX9_digest 128 = .ok (.lmul, 1) := by decide +kernel
theorem dX9_digest_129 : decode cX9_digest 129 = .ok (.aload_n 0, 1) := by decide +kernel
theorem dX9_digest_130 : decode cX9_digest 130 = .ok (.iload_n 3, 1) := by decide +kernel
theorem dX9_digest_131 : decode cX9_digest 131 = .ok (.iload 4, 2) := by decide +kernel
theorem dX9_digest_133 : decode cX9_digest 133 = .ok (.invokevirtual 153, 3) := by decide +kernel
theorem dX9_digest_136 : decode cX9_digest 136 = .ok (.i2l, 1) := by decide +kernel
theorem dX9_digest_137 : decode cX9_digest 137 = .ok (.ladd, 1) := by decide +kernel
theorem dX9_digest_138 : decode cX9_digest 138 = .ok (.lstore_n 1, 1) := by decide +kernel
theorem dX9_digest_139 : decode cX9_digest 139 = .ok (.iinc 4 1, 3) := by decide +kernel
theorem dX9_digest_142 : decode cX9_digest 142 = .ok (.goto (-24), 3) := by decide +kernel
theorem dX9_digest_145 : decode cX9_digest 145 = .ok (.iinc 3 1, 3) := by decide +kernel
theorem dX9_digest_148 : decode cX9_digest 148 = .ok (.goto (-41), 3) := by decide +kernel
theorem dX9_digest_151 : decode cX9_digest 151 = .ok (.iconst 0, 1) := by decide +kernel
theorem dX9_digest_152 : decode cX9_digest 152 = .ok (.istore_n 3, 1) := by decide +kernel
theorem dX9_digest_153 : decode cX9_digest 153 = .ok (.iload_n 3, 1) := by decide +kernel
theorem dX9_digest_154 : decode cX9_digest 154 = .ok (.aload_n 0, 1) := by decide +kernel
theorem dX9_digest_155 : decode cX9_digest 155 = .ok (.getfield 51, 3) := by decide +kernel
theorem dX9_digest_158 : decode cX9_digest 158 = .ok (.if_icmp .ge 40, 3) := by decide +kernel
theorem dX9_digest_161 : decode cX9_digest 161 = .ok (.iconst 0, 1) := by decide +kernel
theorem dX9_digest_162 : decode cX9_digest 162 = .ok (.istore 4, 2) := by decide +kernel
theorem dX9_digest_164 : decode cX9_digest 164 = .ok (.iload 4, 2) := by decide +kernel
theorem dX9_digest_166 : decode cX9_digest 166 = .ok (.bipush 9, 2) := by decide +kernel
theorem dX9_digest_168 : decode cX9_digest 168 = .ok (.if_icmp .ge 24, 3) := by decide +kernel
theorem dX9_digest_171 : decode cX9_digest 171 = .ok (.lload_n 1, 1) := by decide +kernel
theorem dX9_digest_172 : decode cX9_digest 172 = .ok (.ldc2_w 194, 3) := by decide +kernel
theorem dX9_digest_175 : decode cX9_digest 175 = .ok (.lmul, 1) := by decide +kernel
theorem dX9_digest_176 : decode cX9_digest 176 = .ok (.aload_n 0, 1) := by decide +kernel
theorem dX9_digest_177 : decode cX9_digest 177 = .ok (.iload_n 3, 1) := by decide +kernel
theorem dX9_digest_178 : decode cX9_digest 178 = .ok (.iload 4, 2) := by decide +kernel
theorem dX9_digest_180 : decode cX9_digest 180 = .ok (.invokevirtual 131, 3) := by decide +kernel
theorem dX9_digest_183 : decode cX9_digest 183 = .ok (.i2l, 1) := by decide +kernel
theorem dX9_digest_184 : decode cX9_digest 184 = .ok (.ladd, 1) := by decide +kernel
theorem dX9_digest_185 : decode cX9_digest 185 = .ok (.lstore_n 1, 1) := by decide +kernel
theorem dX9_digest_186 : decode cX9_digest 186 = .ok (.iinc 4 1, 3) := by decide +kernel
theorem dX9_digest_189 : decode cX9_digest 189 = .ok (.goto (-25), 3) := by decide +kernel
theorem dX9_digest_192 : decode cX9_digest 192 = .ok (.iinc 3 1, 3) := by decide +kernel
theorem dX9_digest_195 : decode cX9_digest 195 = .ok (.goto (-42), 3) := by decide +kernel
theorem dX9_digest_198 : decode cX9_digest 198 = .ok (.iconst 0, 1) := by decide +kernel
theorem dX9_digest_199 : decode cX9_digest 199 = .ok (.istore_n 3, 1) := by decide +kernel
theorem dX9_digest_200 : decode cX9_digest 200 = .ok (.iload_n 3, 1) := by decide +kernel
theorem dX9_digest_201 : decode cX9_digest 201 = .ok (.aload_n 0, 1) := by decide +kernel
theorem dX9_digest_202 : decode cX9_digest 202 = .ok (.getfield 113, 3) := by decide +kernel
theorem dX9_digest_205 : decode cX9_digest 205 = .ok (.if_icmp .ge 40, 3) := by decide +kernel
theorem dX9_digest_208 : decode cX9_digest 208 = .ok (.iconst 0, 1) := by decide +kernel
theorem dX9_digest_209 : decode cX9_digest 209 = .ok (.istore 4, 2) := by decide +kernel
theorem dX9_digest_211 : decode cX9_digest 211 = .ok (.iload 4, 2) := by decide +kernel
theorem dX9_digest_213 : decode cX9_digest 213 = .ok (.bipush 7, 2) := by decide +kernel
theorem dX9_digest_215 : decode cX9_digest 215 = .ok (.if_icmp .ge 24, 3) := by decide +kernel
theorem dX9_digest_218 : decode cX9_digest 218 = .ok (.lload_n 1, 1) := by decide +kernel
theorem dX9_digest_219 : decode cX9_digest 219 = .ok (.ldc2_w 194, 3) := by decide +kernel
theorem dX9_digest_222 : decode cX9_digest 222 = .ok (.lmul, 1) := by decide +kernel
theorem dX9_digest_223 : decode cX9_digest 223 = .ok (.aload_n 0, 1) := by decide +kernel
theorem dX9_digest_224 : decode cX9_digest 224 = .ok (.iload_n 3, 1) := by decide +kernel
theorem dX9_digest_225 : decode cX9_digest 225 = .ok (.iload 4, 2) := by decide +kernel
theorem dX9_digest_227 : decode cX9_digest 227 = .ok (.invokevirtual 150, 3) := by decide +kernel
theorem dX9_digest_230 : decode cX9_digest 230 = .ok (.i2l, 1) := by decide +kernel
theorem dX9_digest_231 : decode cX9_digest 231 = .ok (.ladd, 1) := by decide +kernel
theorem dX9_digest_232 : decode cX9_digest 232 = .ok (.lstore_n 1, 1) := by decide +kernel
theorem dX9_digest_233 : decode cX9_digest 233 = .ok (.iinc 4 1, 3) := by decide +kernel
theorem dX9_digest_236 : decode cX9_digest 236 = .ok (.goto (-25), 3) := by decide +kernel
theorem dX9_digest_239 : decode cX9_digest 239 = .ok (.iinc 3 1, 3) := by decide +kernel
theorem dX9_digest_242 : decode cX9_digest 242 = .ok (.goto (-42), 3) := by decide +kernel
theorem dX9_digest_245 : decode cX9_digest 245 = .ok (.lload_n 1, 1) := by decide +kernel
theorem dX9_digest_246 : decode cX9_digest 246 = .ok (.lreturn, 1) := by decide +kernel
theorem dJ9_max_7cf53_0 : decode cJ9_max_7cf53 0 = .ok (.iload_n 0, 1) := by decide +kernel
theorem dJ9_max_7cf53_1 : decode cJ9_max_7cf53 1 = .ok (.iload_n 1, 1) := by decide +kernel
theorem dJ9_max_7cf53_2 : decode cJ9_max_7cf53 2 = .ok (.if_icmp .lt 7, 3) := by decide +kernel
theorem dJ9_max_7cf53_5 : decode cJ9_max_7cf53 5 = .ok (.iload_n 0, 1) := by decide +kernel
theorem dJ9_max_7cf53_6 : decode cJ9_max_7cf53 6 = .ok (.goto 4, 3) := by decide +kernel
theorem dJ9_max_7cf53_9 : decode cJ9_max_7cf53 9 = .ok (.iload_n 1, 1) := by decide +kernel
theorem dJ9_max_7cf53_10 : decode cJ9_max_7cf53 10 = .ok (.ireturn, 1) := by decide +kernel
theorem dJ9_min_7cf53_0 : decode cJ9_min_7cf53 0 = .ok (.iload_n 0, 1) := by decide +kernel
theorem dJ9_min_7cf53_1 : decode cJ9_min_7cf53 1 = .ok (.iload_n 1, 1) := by decide +kernel
theorem dJ9_min_7cf53_2 : decode cJ9_min_7cf53 2 = .ok (.if_icmp .gt 7, 3) := by decide +kernel
theorem dJ9_min_7cf53_5 : decode cJ9_min_7cf53 5 = .ok (.iload_n 0, 1) := by decide +kernel
theorem dJ9_min_7cf53_6 : decode cJ9_min_7cf53 6 = .ok (.goto 4, 3) := by decide +kernel
theorem dJ9_min_7cf53_9 : decode cJ9_min_7cf53 9 = .ok (.iload_n 1, 1) := by decide +kernel
