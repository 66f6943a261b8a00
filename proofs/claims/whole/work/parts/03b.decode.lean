theorem dX8_init_61 : decode cX8_init 61 = .ok (.aload_n 0, 1) := by decide +kernel
theorem dX8_init_62 : decode cX8_init 62 = .ok (.getfield 19, 3) := by decide +kernel
theorem dX8_init_65 : decode cX8_init 65 = .ok (.aload_n 0, 1) := by decide +kernel
theorem dX8_init_66 : decode cX8_init 66 = .ok (.getfield 26, 3) := by decide +kernel
theorem dX8_init_69 : decode cX8_init 69 = .ok (.invokespecial 41, 3) := by decide +kernel
theorem dX8_init_72 : decode cX8_init 72 = .ok (.putfield 44, 3) := by decide +kernel
theorem dX8_init_75 : decode cX8_init 75 = .ok (.aload_n 0, 1) := by decide +kernel
theorem dX8_init_76 : decode cX8_init 76 = .ok (.new 48, 3) := by decide +kernel
theorem dX8_init_79 : decode cX8_init 79 = .ok (.dup, 1) := by decide +kernel
theorem dX8_init_80 : decode cX8_init 80 = .ok (.aload_n 0, 1) := by decide +kernel
theorem dX8_init_81 : decode cX8_init 81 = .ok (.getfield 12, 3) := by decide +kernel
theorem dX8_init_84 : decode cX8_init 84 = .ok (.aload_n 0, 1) := by decide +kernel
theorem dX8_init_85 : decode cX8_init 85 = .ok (.getfield 19, 3) := by decide +kernel
theorem dX8_init_88 : decode cX8_init 88 = .ok (.aload_n 0, 1) := by decide +kernel
theorem dX8_init_89 : decode cX8_init 89 = .ok (.getfield 26, 3) := by decide +kernel
theorem dX8_init_92 : decode cX8_init 92 = .ok (.aload_n 0, 1) := by decide +kernel
theorem dX8_init_93 : decode cX8_init 93 = .ok (.getfield 35, 3) := by decide +kernel
theorem dX8_init_96 : decode cX8_init 96 = .ok (.aload_n 0, 1) := by decide +kernel
theorem dX8_init_97 : decode cX8_init 97 = .ok (.getfield 44, 3) := by decide +kernel
theorem dX8_init_100 : decode cX8_init 100 = .ok (.invokespecial 50, 3) := by decide +kernel
theorem dX8_init_103 : decode cX8_init 103 = .ok (.putfield 53, 3) := by decide +kernel
theorem dX8_init_106 : decode cX8_init 106 = .ok (.aload_n 0, 1) := by decide +kernel
theorem dX8_init_107 : decode cX8_init 107 = .ok (.new 48, 3) := by decide +kernel
theorem dX8_init_110 : decode cX8_init 110 = .ok (.dup, 1) := by decide +kernel
theorem dX8_init_111 : decode cX8_init 111 = .ok (.aload_n 0, 1) := by decide +kernel
theorem dX8_init_112 : decode cX8_init 112 = .ok (.getfield 12, 3) := by decide +kernel
theorem dX8_init_115 : decode cX8_init 115 = .ok (.aload_n 0, 1) := by decide +kernel
theorem dX8_init_116 : decode cX8_init 116 = .ok (.getfield 19, 3) := by decide +kernel
theorem dX8_init_119 : decode cX8_init 119 = .ok (.aload_n 0, 1) := by decide +kernel
theorem dX8_init_120 : decode cX8_init 120 = .ok (.getfield 26, 3) := by decide +kernel
theorem dX8_init_123 : decode cX8_init 123 = .ok (.aload_n 0, 1) := by decide +kernel
theorem dX8_init_124 : decode cX8_init 124 = .ok (.getfield 35, 3) := by decide +kernel
theorem dX8_init_127 : decode cX8_init 127 = .ok (.aload_n 0, 1) := by decide +kernel
theorem dX8_init_128 : decode cX8_init 128 = .ok (.getfield 44, 3) := by decide +kernel
theorem dX8_init_131 : decode cX8_init 131 = .ok (.invokespecial 50, 3) := by decide +kernel
theorem dX8_init_134 : decode cX8_init 134 = .ok (.putfield 57, 3) := by decide +kernel
theorem dX8_init_137 : decode cX8_init 137 = .ok (.return_, 1) := by decide +kernel
theorem dX8_setGround_0 : decode cX8_setGround 0 = .ok (.iload_n 1, 1) := by decide +kernel
theorem dX8_setGround_1 : decode cX8_setGround 1 = .ok (.iload_n 2, 1) := by decide +kernel
theorem dX8_setGround_2 : decode cX8_setGround 2 = .ok (.invokestatic 60, 3) := by decide +kernel
theorem dX8_setGround_5 : decode cX8_setGround 5 = .ok (.invokestatic 64, 3) := by decide +kernel
theorem dX8_setGround_8 : decode cX8_setGround 8 = .ok (.iload_n 3, 1) := by decide +kernel
theorem dX8_setGround_9 : decode cX8_setGround 9 = .ok (.iconst 0, 1) := by decide +kernel
theorem dX8_setGround_10 : decode cX8_setGround 10 = .ok (.bipush 20, 2) := by decide +kernel
theorem dX8_setGround_12 : decode cX8_setGround 12 = .ok (.invokestatic 68, 3) := by decide +kernel
theorem dX8_setGround_15 : decode cX8_setGround 15 = .ok (.invokestatic 72, 3) := by decide +kernel
theorem dX8_setGround_18 : decode cX8_setGround 18 = .ok (.aload_n 0, 1) := by decide +kernel
theorem dX8_setGround_19 : decode cX8_setGround 19 = .ok (.getfield 12, 3) := by decide +kernel
theorem dX8_setGround_22 : decode cX8_setGround 22 = .ok (.getfield 75, 3) := by decide +kernel
theorem dX8_setGround_25 : decode cX8_setGround 25 = .ok (.iload_n 1, 1) := by decide +kernel
theorem dX8_setGround_26 : decode cX8_setGround 26 = .ok (.iload_n 2, 1) := by decide +kernel
theorem dX8_setGround_27 : decode cX8_setGround 27 = .ok (.invokestatic 79, 3) := by decide +kernel
theorem dX8_setGround_30 : decode cX8_setGround 30 = .ok (.iload_n 3, 1) := by decide +kernel
theorem dX8_setGround_31 : decode cX8_setGround 31 = .ok (.invokevirtual 83, 3) := by decide +kernel
theorem dX8_setGround_34 : decode cX8_setGround 34 = .ok (.istore 4, 2) := by decide +kernel
theorem dX8_setGround_36 : decode cX8_setGround 36 = .ok (.aload_n 0, 1) := by decide +kernel
theorem dX8_setGround_37 : decode cX8_setGround 37 = .ok (.getfield 44, 3) := by decide +kernel
theorem dX8_setGround_40 : decode cX8_setGround 40 = .ok (.invokevirtual 88, 3) := by decide +kernel
theorem dX8_setGround_43 : decode cX8_setGround 43 = .ok (.iload 4, 2) := by decide +kernel
theorem dX8_setGround_45 : decode cX8_setGround 45 = .ok (.ireturn, 1) := by decide +kernel
theorem dX8_setWater_0 : decode cX8_setWater 0 = .ok (.iload_n 1, 1) := by decide +kernel
theorem dX8_setWater_1 : decode cX8_setWater 1 = .ok (.bipush 12, 2) := by decide +kernel
theorem dX8_setWater_3 : decode cX8_setWater 3 = .ok (.invokestatic 91, 3) := by decide +kernel
theorem dX8_setWater_6 : decode cX8_setWater 6 = .ok (.invokestatic 64, 3) := by decide +kernel
theorem dX8_setWater_9 : decode cX8_setWater 9 = .ok (.iload_n 2, 1) := by decide +kernel
theorem dX8_setWater_10 : decode cX8_setWater 10 = .ok (.iconst 0, 1) := by decide +kernel
theorem dX8_setWater_11 : decode cX8_setWater 11 = .ok (.bipush 24, 2) := by decide +kernel
theorem dX8_setWater_13 : decode cX8_setWater 13 = .ok (.invokestatic 68, 3) := by decide +kernel
theorem dX8_setWater_16 : decode cX8_setWater 16 = .ok (.invokestatic 72, 3) := by decide +kernel
theorem dX8_setWater_19 : decode cX8_setWater 19 = .ok (.aload_n 0, 1) := by decide +kernel
theorem dX8_setWater_20 : decode cX8_setWater 20 = .ok (.getfield 12, 3) := by decide +kernel
theorem dX8_setWater_23 : decode cX8_setWater 23 = .ok (.getfield 94, 3) := by decide +kernel
theorem dX8_setWater_26 : decode cX8_setWater 26 = .ok (.iload_n 1, 1) := by decide +kernel
theorem dX8_setWater_27 : decode cX8_setWater 27 = .ok (.iload_n 2, 1) := by decide +kernel
theorem dX8_setWater_28 : decode cX8_setWater 28 = .ok (.invokevirtual 83, 3) := by decide +kernel
theorem dX8_setWater_31 : decode cX8_setWater 31 = .ok (.ireturn, 1) := by decide +kernel
theorem dX8_setStake_0 : decode cX8_setStake 0 = .ok (.iload_n 1, 1) := by decide +kernel
theorem dX8_setStake_1 : decode cX8_setStake 1 = .ok (.iload_n 2, 1) := by decide +kernel
theorem dX8_setStake_2 : decode cX8_setStake 2 = .ok (.invokestatic 60, 3) := by decide +kernel
theorem dX8_setStake_5 : decode cX8_setStake 5 = .ok (.invokestatic 64, 3) := by decide +kernel
theorem dX8_setStake_8 : decode cX8_setStake 8 = .ok (.iload_n 3, 1) := by decide +kernel
theorem dX8_setStake_9 : decode cX8_setStake 9 = .ok (.iconst 0, 1) := by decide +kernel
theorem dX8_setStake_10 : decode cX8_setStake 10 = .ok (.bipush 9, 2) := by decide +kernel
theorem dX8_setStake_12 : decode cX8_setStake 12 = .ok (.invokestatic 68, 3) := by decide +kernel
theorem dX8_setStake_15 : decode cX8_setStake 15 = .ok (.invokestatic 72, 3) := by decide +kernel
theorem dX8_setStake_18 : decode cX8_setStake 18 = .ok (.aload_n 0, 1) := by decide +kernel
theorem dX8_setStake_19 : decode cX8_setStake 19 = .ok (.getfield 12, 3) := by decide +kernel
theorem dX8_setStake_22 : decode cX8_setStake 22 = .ok (.getfield 97, 3) := by decide +kernel
theorem dX8_setStake_25 : decode cX8_setStake 25 = .ok (.iload_n 1, 1) := by decide +kernel
theorem dX8_setStake_26 : decode cX8_setStake 26 = .ok (.iload_n 2, 1) := by decide +kernel
theorem dX8_setStake_27 : decode cX8_setStake 27 = .ok (.invokestatic 79, 3) := by decide +kernel
theorem dX8_setStake_30 : decode cX8_setStake 30 = .ok (.iload_n 3, 1) := by decide +kernel
theorem dX8_setStake_31 : decode cX8_setStake 31 = .ok (.invokevirtual 83, 3) := by decide +kernel
theorem dX8_setStake_34 : decode cX8_setStake 34 = .ok (.ireturn, 1) := by decide +kernel
theorem dX8_cell_0 : decode cX8_cell 0 = .ok (.iload_n 1, 1) := by decide +kernel
theorem dX8_cell_1 : decode cX8_cell 1 = .ok (.iload_n 2, 1) := by decide +kernel
theorem dX8_cell_2 : decode cX8_cell 2 = .ok (.invokestatic 60, 3) := by decide +kernel
theorem dX8_cell_5 : decode cX8_cell 5 = .ok (.ifCond .eq 16, 3) := by decide +kernel
theorem dX8_cell_8 : decode cX8_cell 8 = .ok (.iload_n 3, 1) := by decide +kernel
theorem dX8_cell_9 : decode cX8_cell 9 = .ok (.bipush 6, 2) := by decide +kernel
theorem dX8_cell_11 : decode cX8_cell 11 = .ok (.invokestatic 91, 3) := by decide +kernel
theorem dX8_cell_14 : decode cX8_cell 14 = .ok (.ifCond .eq 7, 3) := by decide +kernel
theorem dX8_cell_17 : decode cX8_cell 17 = .ok (.iconst 1, 1) := by decide +kernel
theorem dX8_cell_18 : decode cX8_cell 18 = .ok (.goto 4, 3) := by decide +kernel
theorem dX8_cell_21 : decode cX8_cell 21 = .ok (.iconst 0, 1) := by decide +kernel
theorem dX8_cell_22 : decode cX8_cell 22 = .ok (.invokestatic 64, 3) := by decide +kernel
theorem dX8_cell_25 : decode cX8_cell 25 = .ok (.iload_n 1, 1) := by decide +kernel
theorem dX8_cell_26 : decode cX8_cell 26 = .ok (.iload_n 2, 1) := by decide +kernel
theorem dX8_cell_27 : decode cX8_cell 27 = .ok (.invokestatic 79, 3) := by decide +kernel
theorem dX8_cell_30 : decode cX8_cell 30 = .ok (.istore 4, 2) := by decide +kernel
theorem dX8_cell_32 : decode cX8_cell 32 = .ok (.aload_n 0, 1) := by decide +kernel
theorem dX8_cell_33 : decode cX8_cell 33 = .ok (.getfield 53, 3) := by decide +kernel
theorem dX8_cell_36 : decode cX8_cell 36 = .ok (.invokevirtual 100, 3) := by decide +kernel
theorem dX8_cell_39 : decode cX8_cell 39 = .ok (.istore 5, 2) := by decide +kernel
theorem dX8_cell_41 : decode cX8_cell 41 = .ok (.iload_n 3, 1) := by decide +kernel
theorem dX8_cell_42 : decode cX8_cell 42 = .ok (.tableswitch 102 0 4 #[34, 47, 59, 72, 92], 34) := by decide +kernel
theorem dX8_cell_76 : decode cX8_cell 76 = .ok (.aload_n 0, 1) := by decide +kernel
theorem dX8_cell_77 : decode cX8_cell 77 = .ok (.getfield 12, 3) := by decide +kernel
theorem dX8_cell_80 : decode cX8_cell 80 = .ok (.getfield 75, 3) := by decide +kernel
theorem dX8_cell_83 : decode cX8_cell 83 = .ok (.iload 4, 2) := by decide +kernel
theorem dX8_cell_85 : decode cX8_cell 85 = .ok (.invokevirtual 104, 3) := by decide +kernel
theorem dX8_cell_88 : decode cX8_cell 88 = .ok (.ireturn, 1) := by decide +kernel
theorem dX8_cell_89 : decode cX8_cell 89 = .ok (.aload_n 0, 1) := by decide +kernel
theorem dX8_cell_90 : decode cX8_cell 90 = .ok (.getfield 12, 3) := by decide +kernel
theorem dX8_cell_93 : decode cX8_cell 93 = .ok (.iload 4, 2) := by decide +kernel
theorem dX8_cell_95 : decode cX8_cell 95 = .ok (.iload 5, 2) := by decide +kernel
theorem dX8_cell_97 : decode cX8_cell 97 = .ok (.invokevirtual 108, 3) := by decide +kernel
theorem dX8_cell_100 : decode cX8_cell 100 = .ok (.ireturn, 1) := by decide +kernel
theorem dX8_cell_101 : decode cX8_cell 101 = .ok (.aload_n 0, 1) := by decide +kernel
theorem dX8_cell_102 : decode cX8_cell 102 = .ok (.getfield 12, 3) := by decide +kernel
theorem dX8_cell_105 : decode cX8_cell 105 = .ok (.getfield 97, 3) := by decide +kernel
theorem dX8_cell_108 : decode cX8_cell 108 = .ok (.iload 4, 2) := by decide +kernel
theorem dX8_cell_110 : decode cX8_cell 110 = .ok (.invokevirtual 104, 3) := by decide +kernel
theorem dX8_cell_113 : decode cX8_cell 113 = .ok (.ireturn, 1) := by decide +kernel
theorem dX8_cell_114 : decode cX8_cell 114 = .ok (.aload_n 0, 1) := by decide +kernel
theorem dX8_cell_115 : decode cX8_cell 115 = .ok (.getfield 12, 3) := by decide +kernel
theorem dX8_cell_118 : decode cX8_cell 118 = .ok (.iload 4, 2) := by decide +kernel
theorem dX8_cell_120 : decode cX8_cell 120 = .ok (.iload 5, 2) := by decide +kernel
theorem dX8_cell_122 : decode cX8_cell 122 = .ok (.invokevirtual 111, 3) := by decide +kernel
theorem dX8_cell_125 : decode cX8_cell 125 = .ok (.ifCond .eq 7, 3) := by decide +kernel
theorem dX8_cell_128 : decode cX8_cell 128 = .ok (.iconst 1, 1) := by decide +kernel
theorem dX8_cell_129 : decode cX8_cell 129 = .ok (.goto 4, 3) := by decide +kernel
theorem dX8_cell_132 : decode cX8_cell 132 = .ok (.iconst 0, 1) := by decide +kernel
theorem dX8_cell_133 : decode cX8_cell 133 = .ok (.ireturn, 1) := by decide +kernel
theorem dX8_cell_134 : decode cX8_cell 134 = .ok (.aload_n 0, 1) := by decide +kernel
theorem dX8_cell_135 : decode cX8_cell 135 = .ok (.getfield 19, 3) := by decide +kernel
theorem dX8_cell_138 : decode cX8_cell 138 = .ok (.iload 4, 2) := by decide +kernel
theorem dX8_cell_140 : decode cX8_cell 140 = .ok (.invokevirtual 114, 3) := by decide +kernel
theorem dX8_cell_143 : decode cX8_cell 143 = .ok (.ireturn, 1) := by decide +kernel
theorem dX8_cell_144 : decode cX8_cell 144 = .ok (.aload_n 0, 1) := by decide +kernel
theorem dX8_cell_145 : decode cX8_cell 145 = .ok (.getfield 53, 3) := by decide +kernel
theorem dX8_cell_148 : decode cX8_cell 148 = .ok (.getfield 117, 3) := by decide +kernel
theorem dX8_cell_151 : decode cX8_cell 151 = .ok (.iload 4, 2) := by decide +kernel
theorem dX8_cell_153 : decode cX8_cell 153 = .ok (.aload_n 0, 1) := by decide +kernel
theorem dX8_cell_154 : decode cX8_cell 154 = .ok (.getfield 26, 3) := by decide +kernel
theorem dX8_cell_157 : decode cX8_cell 157 = .ok (.getfield 120, 3) := by decide +kernel
theorem dX8_cell_160 : decode cX8_cell 160 = .ok (.invokevirtual 124, 3) := by decide +kernel
theorem dX8_cell_163 : decode cX8_cell 163 = .ok (.ireturn, 1) := by decide +kernel
theorem dX8_addLanding_0 : decode cX8_addLanding 0 = .ok (.iload_n 1, 1) := by decide +kernel
theorem dX8_addLanding_1 : decode cX8_addLanding 1 = .ok (.iload_n 2, 1) := by decide +kernel
theorem dX8_addLanding_2 : decode cX8_addLanding 2 = .ok (.invokestatic 60, 3) := by decide +kernel
theorem dX8_addLanding_5 : decode cX8_addLanding 5 = .ok (.invokestatic 64, 3) := by decide +kernel
theorem dX8_addLanding_8 : decode cX8_addLanding 8 = .ok (.iload_n 1, 1) := by decide +kernel
theorem dX8_addLanding_9 : decode cX8_addLanding 9 = .ok (.iload_n 2, 1) := by decide +kernel
theorem dX8_addLanding_10 : decode cX8_addLanding 10 = .ok (.invokestatic 79, 3) := by decide +kernel
theorem dX8_addLanding_13 : decode cX8_addLanding 13 = .ok (.istore_n 3, 1) := by decide +kernel
theorem dX8_addLanding_14 : decode cX8_addLanding 14 = .ok (.aload_n 0, 1) := by decide +kernel
theorem dX8_addLanding_15 : decode cX8_addLanding 15 = .ok (.getfield 19, 3) := by decide +kernel
theorem dX8_addLanding_18 : decode cX8_addLanding 18 = .ok (.iload_n 3, 1) := by decide +kernel
theorem dX8_addLanding_19 : decode cX8_addLanding 19 = .ok (.invokevirtual 114, 3) := by decide +kernel
theorem dX8_addLanding_22 : decode cX8_addLanding 22 = .ok (.iconst (-1), 1) := by decide +kernel
theorem dX8_addLanding_23 : decode cX8_addLanding 23 = .ok (.if_icmp .ne 19, 3) := by decide +kernel
theorem dX8_addLanding_26 : decode cX8_addLanding 26 = .ok (.aload_n 0, 1) := by decide +kernel
theorem dX8_addLanding_27 : decode cX8_addLanding 27 = .ok (.getfield 19, 3) := by decide +kernel
theorem dX8_addLanding_30 : decode cX8_addLanding 30 = .ok (.getfield 127, 3) := by decide +kernel
theorem dX8_addLanding_33 : decode cX8_addLanding 33 = .ok (.bipush 8, 2) := by decide +kernel
theorem dX8_addLanding_35 : decode cX8_addLanding 35 = .ok (.if_icmp .ge 7, 3) := by decide +kernel
theorem dX8_addLanding_38 : decode cX8_addLanding 38 = .ok (.iconst 1, 1) := by decide +kernel
theorem dX8_addLanding_39 : decode cX8_addLanding 39 = .ok (.goto 4, 3) := by decide +kernel
theorem dX8_addLanding_42 : decode cX8_addLanding 42 = .ok (.iconst 0, 1) := by decide +kernel
theorem dX8_addLanding_43 : decode cX8_addLanding 43 = .ok (.invokestatic 128, 3) := by decide +kernel
theorem dX8_addLanding_46 : decode cX8_addLanding 46 = .ok (.aload_n 0, 1) := by decide +kernel
theorem dX8_addLanding_47 : decode cX8_addLanding 47 = .ok (.getfield 19, 3) := by decide +kernel
theorem dX8_addLanding_50 : decode cX8_addLanding 50 = .ok (.iload_n 3, 1) := by decide +kernel
theorem dX8_addLanding_51 : decode cX8_addLanding 51 = .ok (.invokevirtual 131, 3) := by decide +kernel
theorem dX8_addLanding_54 : decode cX8_addLanding 54 = .ok (.ireturn, 1) := by decide +kernel
theorem dX8_launch_0 : decode cX8_launch 0 = .ok (.iload_n 1, 1) := by decide +kernel
theorem dX8_launch_1 : decode cX8_launch 1 = .ok (.aload_n 0, 1) := by decide +kernel
theorem dX8_launch_2 : decode cX8_launch 2 = .ok (.getfield 19, 3) := by decide +kernel
theorem dX8_launch_5 : decode cX8_launch 5 = .ok (.getfield 127, 3) := by decide +kernel
theorem dX8_launch_8 : decode cX8_launch 8 = .ok (.invokestatic 91, 3) := by decide +kernel
theorem dX8_launch_11 : decode cX8_launch 11 = .ok (.ifCond .eq 21, 3) := by decide +kernel
theorem dX8_launch_14 : decode cX8_launch 14 = .ok (.iload_n 2, 1) := by decide +kernel
theorem dX8_launch_15 : decode cX8_launch 15 = .ok (.aload_n 0, 1) := by decide +kernel
theorem dX8_launch_16 : decode cX8_launch 16 = .ok (.getfield 19, 3) := by decide +kernel
theorem dX8_launch_19 : decode cX8_launch 19 = .ok (.getfield 127, 3) := by decide +kernel
theorem dX8_launch_22 : decode cX8_launch 22 = .ok (.invokestatic 91, 3) := by decide +kernel
theorem dX8_launch_25 : decode cX8_launch 25 = .ok (.ifCond .eq 7, 3) := by decide +kernel
theorem dX8_launch_28 : decode cX8_launch 28 = .ok (.iconst 1, 1) := by decide +kernel
theorem dX8_launch_29 : decode cX8_launch 29 = .ok (.goto 4, 3) := by decide +kernel
theorem dX8_launch_32 : decode cX8_launch 32 = .ok (.iconst 0, 1) := by decide +kernel
theorem dX8_launch_33 : decode cX8_launch 33 = .ok (.invokestatic 64, 3) := by decide +kernel
theorem dX8_launch_36 : decode cX8_launch 36 = .ok (.iload_n 1, 1) := by decide +kernel
theorem dX8_launch_37 : decode cX8_launch 37 = .ok (.iload_n 2, 1) := by decide +kernel
theorem dX8_launch_38 : decode cX8_launch 38 = .ok (.if_icmp .eq 7, 3) := by decide +kernel
theorem dX8_launch_41 : decode cX8_launch 41 = .ok (.iconst 1, 1) := by decide +kernel
theorem dX8_launch_42 : decode cX8_launch 42 = .ok (.goto 4, 3) := by decide +kernel
theorem dX8_launch_45 : decode cX8_launch 45 = .ok (.iconst 0, 1) := by decide +kernel
theorem dX8_launch_46 : decode cX8_launch 46 = .ok (.invokestatic 72, 3) := by decide +kernel
theorem dX8_launch_49 : decode cX8_launch 49 = .ok (.iload_n 3, 1) := by decide +kernel
theorem dX8_launch_50 : decode cX8_launch 50 = .ok (.iconst 1, 1) := by decide +kernel
theorem dX8_launch_51 : decode cX8_launch 51 = .ok (.iconst 4, 1) := by decide +kernel
theorem dX8_launch_52 : decode cX8_launch 52 = .ok (.invokestatic 68, 3) := by decide +kernel
theorem dX8_launch_55 : decode cX8_launch 55 = .ok (.invokestatic 72, 3) := by decide +kernel
theorem dX8_launch_58 : decode cX8_launch 58 = .ok (.iload 4, 2) := by decide +kernel
theorem dX8_launch_60 : decode cX8_launch 60 = .ok (.iconst 2, 1) := by decide +kernel
theorem dX8_launch_61 : decode cX8_launch 61 = .ok (.bipush 12, 2) := by decide +kernel
theorem dX8_launch_63 : decode cX8_launch 63 = .ok (.invokestatic 68, 3) := by decide +kernel
theorem dX8_launch_66 : decode cX8_launch 66 = .ok (.invokestatic 72, 3) := by decide +kernel
theorem dX8_launch_69 : decode cX8_launch 69 = .ok (.iload 5, 2) := by decide +kernel
theorem dX8_launch_71 : decode cX8_launch 71 = .ok (.iconst 1, 1) := by decide +kernel
theorem dX8_launch_72 : decode cX8_launch 72 = .ok (.bipush 6, 2) := by decide +kernel
theorem dX8_launch_74 : decode cX8_launch 74 = .ok (.invokestatic 68, 3) := by decide +kernel
theorem dX8_launch_77 : decode cX8_launch 77 = .ok (.invokestatic 72, 3) := by decide +kernel
theorem dX8_launch_80 : decode cX8_launch 80 = .ok (.iload 6, 2) := by decide +kernel
theorem dX8_launch_82 : decode cX8_launch 82 = .ok (.iconst 0, 1) := by decide +kernel
theorem dX8_launch_83 : decode cX8_launch 83 = .ok (.bipush 50, 2) := by decide +kernel
theorem dX8_launch_85 : decode cX8_launch 85 = .ok (.invokestatic 68, 3) := by decide +kernel
theorem dX8_launch_88 : decode cX8_launch 88 = .ok (.invokestatic 72, 3) := by decide +kernel
theorem dX8_launch_91 : decode cX8_launch 91 = .ok (.aload_n 0, 1) := by decide +kernel
theorem dX8_launch_92 : decode cX8_launch 92 = .ok (.getfield 26, 3) := by decide +kernel
theorem dX8_launch_95 : decode cX8_launch 95 = .ok (.getfield 120, 3) := by decide +kernel
theorem dX8_launch_98 : decode cX8_launch 98 = .ok (.bipush 6, 2) := by decide +kernel
theorem dX8_launch_100 : decode cX8_launch 100 = .ok (.if_icmp .ge 7, 3) := by decide +kernel
theorem dX8_launch_103 : decode cX8_launch 103 = .ok (.iconst 1, 1) := by decide +kernel
theorem dX8_launch_104 : decode cX8_launch 104 = .ok (.goto 4, 3) := by decide +kernel
theorem dX8_launch_107 : decode cX8_launch 107 = .ok (.iconst 0, 1) := by decide +kernel
theorem dX8_launch_108 : decode cX8_launch 108 = .ok (.invokestatic 128, 3) := by decide +kernel
theorem dX8_launch_111 : decode cX8_launch 111 = .ok (.aload_n 0, 1) := by decide +kernel
theorem dX8_launch_112 : decode cX8_launch 112 = .ok (.getfield 26, 3) := by decide +kernel
theorem dX8_launch_115 : decode cX8_launch 115 = .ok (.iload_n 1, 1) := by decide +kernel
theorem dX8_launch_116 : decode cX8_launch 116 = .ok (.iload_n 2, 1) := by decide +kernel
theorem dX8_launch_117 : decode cX8_launch 117 = .ok (.invokevirtual 134, 3) := by decide +kernel
theorem dX8_launch_120 : decode cX8_launch 120 = .ok (.istore 7, 2) := by decide +kernel
theorem dX8_launch_122 : decode cX8_launch 122 = .ok (.aload_n 0, 1) := by decide +kernel
theorem dX8_launch_123 : decode cX8_launch 123 = .ok (.getfield 26, 3) := by decide +kernel
theorem dX8_launch_126 : decode cX8_launch 126 = .ok (.iload 7, 2) := by decide +kernel
theorem dX8_launch_128 : decode cX8_launch 128 = .ok (.iload_n 3, 1) := by decide +kernel
theorem dX8_launch_129 : decode cX8_launch 129 = .ok (.iload 4, 2) := by decide +kernel
theorem dX8_launch_131 : decode cX8_launch 131 = .ok (.iload 5, 2) := by decide +kernel
theorem dX8_launch_133 : decode cX8_launch 133 = .ok (.iload 6, 2) := by decide +kernel
theorem dX8_launch_135 : decode cX8_launch 135 = .ok (.invokevirtual 136, 3) := by decide +kernel
theorem dX8_launch_138 : decode cX8_launch 138 = .ok (.aload_n 0, 1) := by decide +kernel
theorem dX8_launch_139 : decode cX8_launch 139 = .ok (.getfield 53, 3) := by decide +kernel
theorem dX8_launch_142 : decode cX8_launch 142 = .ok (.iload 7, 2) := by decide +kernel
theorem dX8_launch_144 : decode cX8_launch 144 = .ok (.aload_n 0, 1) := by decide +kernel
theorem dX8_launch_145 : decode cX8_launch 145 = .ok (.getfield 19, 3) := by decide +kernel
theorem dX8_launch_148 : decode cX8_launch 148 = .ok (.getfield 140, 3) := by decide +kernel
theorem dX8_launch_151 : decode cX8_launch 151 = .ok (.iload_n 1, 1) := by decide +kernel
theorem dX8_launch_152 : decode cX8_launch 152 = .ok (.invokevirtual 104, 3) := by decide +kernel
theorem dX8_launch_155 : decode cX8_launch 155 = .ok (.iload_n 2, 1) := by decide +kernel
theorem dX8_launch_156 : decode cX8_launch 156 = .ok (.invokevirtual 141, 3) := by decide +kernel
theorem dX8_launch_159 : decode cX8_launch 159 = .ok (.aload_n 0, 1) := by decide +kernel
theorem dX8_launch_160 : decode cX8_launch 160 = .ok (.getfield 35, 3) := by decide +kernel
theorem dX8_launch_163 : decode cX8_launch 163 = .ok (.invokevirtual 145, 3) := by decide +kernel
theorem dX8_launch_166 : decode cX8_launch 166 = .ok (.iload 7, 2) := by decide +kernel
theorem dX8_launch_168 : decode cX8_launch 168 = .ok (.ireturn, 1) := by decide +kernel
theorem dX8_setToll_0 : decode cX8_setToll 0 = .ok (.iload_n 1, 1) := by decide +kernel
theorem dX8_setToll_1 : decode cX8_setToll 1 = .ok (.aload_n 0, 1) := by decide +kernel
theorem dX8_setToll_2 : decode cX8_setToll 2 = .ok (.getfield 26, 3) := by decide +kernel
theorem dX8_setToll_5 : decode cX8_setToll 5 = .ok (.getfield 120, 3) := by decide +kernel
theorem dX8_setToll_8 : decode cX8_setToll 8 = .ok (.invokestatic 91, 3) := by decide +kernel
theorem dX8_setToll_11 : decode cX8_setToll 11 = .ok (.invokestatic 64, 3) := by decide +kernel
theorem dX8_setToll_14 : decode cX8_setToll 14 = .ok (.iload_n 2, 1) := by decide +kernel
theorem dX8_setToll_15 : decode cX8_setToll 15 = .ok (.iconst 0, 1) := by decide +kernel
theorem dX8_setToll_16 : decode cX8_setToll 16 = .ok (.bipush 50, 2) := by decide +kernel
theorem dX8_setToll_18 : decode cX8_setToll 18 = .ok (.invokestatic 68, 3) := by decide +kernel
theorem dX8_setToll_21 : decode cX8_setToll 21 = .ok (.invokestatic 72, 3) := by decide +kernel
theorem dX8_setToll_24 : decode cX8_setToll 24 = .ok (.aload_n 0, 1) := by decide +kernel
theorem dX8_setToll_25 : decode cX8_setToll 25 = .ok (.getfield 26, 3) := by decide +kernel
theorem dX8_setToll_28 : decode cX8_setToll 28 = .ok (.getfield 148, 3) := by decide +kernel
theorem dX8_setToll_31 : decode cX8_setToll 31 = .ok (.iload_n 1, 1) := by decide +kernel
theorem dX8_setToll_32 : decode cX8_setToll 32 = .ok (.iload_n 2, 1) := by decide +kernel
theorem dX8_setToll_33 : decode cX8_setToll 33 = .ok (.invokevirtual 83, 3) := by decide +kernel
theorem dX8_setToll_36 : decode cX8_setToll 36 = .ok (.ireturn, 1) := by decide +kernel
theorem dX8_punt_0 : decode cX8_punt 0 = .ok (.iload_n 1, 1) := by decide +kernel
theorem dX8_punt_1 : decode cX8_punt 1 = .ok (.aload_n 0, 1) := by decide +kernel
theorem dX8_punt_2 : decode cX8_punt 2 = .ok (.getfield 26, 3) := by decide +kernel
theorem dX8_punt_5 : decode cX8_punt 5 = .ok (.getfield 120, 3) := by decide +kernel
theorem dX8_punt_8 : decode cX8_punt 8 = .ok (.invokestatic 91, 3) := by decide +kernel
theorem dX8_punt_11 : decode cX8_punt 11 = .ok (.ifCond .eq 16, 3) := by decide +kernel
theorem dX8_punt_14 : decode cX8_punt 14 = .ok (.iload_n 2, 1) := by decide +kernel
theorem dX8_punt_15 : decode cX8_punt 15 = .ok (.bipush 9, 2) := by decide +kernel
theorem dX8_punt_17 : decode cX8_punt 17 = .ok (.invokestatic 91, 3) := by decide +kernel
theorem dX8_punt_20 : decode cX8_punt 20 = .ok (.ifCond .eq 7, 3) := by decide +kernel
theorem dX8_punt_23 : decode cX8_punt 23 = .ok (.iconst 1, 1) := by decide +kernel
theorem dX8_punt_24 : decode cX8_punt 24 = .ok (.goto 4, 3) := by decide +kernel
theorem dX8_punt_27 : decode cX8_punt 27 = .ok (.iconst 0, 1) := by decide +kernel
theorem dX8_punt_28 : decode cX8_punt 28 = .ok (.invokestatic 64, 3) := by decide +kernel
theorem dX8_punt_31 : decode cX8_punt 31 = .ok (.aload_n 0, 1) := by decide +kernel
theorem dX8_punt_32 : decode cX8_punt 32 = .ok (.iload_n 1, 1) := by decide +kernel
theorem dX8_punt_33 : decode cX8_punt 33 = .ok (.iload_n 2, 1) := by decide +kernel
theorem dX8_punt_34 : decode cX8_punt 34 = .ok (.invokevirtual 151, 3) := by decide +kernel
theorem dX8_punt_37 : decode cX8_punt 37 = .ok (.ireturn, 1) := by decide +kernel
theorem dX8_tellPunt_0 : decode cX8_tellPunt 0 = .ok (.iload_n 2, 1) := by decide +kernel
theorem dX8_tellPunt_1 : decode cX8_tellPunt 1 = .ok (.tableswitch 164 0 7 #[47, 62, 77, 89, 114, 126, 143, 152], 47) := by decide +kernel
theorem dX8_tellPunt_48 : decode cX8_tellPunt 48 = .ok (.aload_n 0, 1) := by decide +kernel
theorem dX8_tellPunt_49 : decode cX8_tellPunt 49 = .ok (.getfield 53, 3) := by decide +kernel
theorem dX8_tellPunt_52 : decode cX8_tellPunt 52 = .ok (.getfield 117, 3) := by decide +kernel
theorem dX8_tellPunt_55 : decode cX8_tellPunt 55 = .ok (.iload_n 1, 1) := by decide +kernel
theorem dX8_tellPunt_56 : decode cX8_tellPunt 56 = .ok (.invokevirtual 104, 3) := by decide +kernel
theorem dX8_tellPunt_59 : decode cX8_tellPunt 59 = .ok (.invokestatic 154, 3) := by decide +kernel
theorem dX8_tellPunt_62 : decode cX8_tellPunt 62 = .ok (.ireturn, 1) := by decide +kernel
theorem dX8_tellPunt_63 : decode cX8_tellPunt 63 = .ok (.aload_n 0, 1) := by decide +kernel
theorem dX8_tellPunt_64 : decode cX8_tellPunt 64 = .ok (.getfield 53, 3) := by decide +kernel
theorem dX8_tellPunt_67 : decode cX8_tellPunt 67 = .ok (.getfield 117, 3) := by decide +kernel
theorem dX8_tellPunt_70 : decode cX8_tellPunt 70 = .ok (.iload_n 1, 1) := by decide +kernel
theorem dX8_tellPunt_71 : decode cX8_tellPunt 71 = .ok (.invokevirtual 104, 3) := by decide +kernel
theorem dX8_tellPunt_74 : decode cX8_tellPunt 74 = .ok (.invokestatic 157, 3) := by decide +kernel
theorem dX8_tellPunt_77 : decode cX8_tellPunt 77 = .ok (.ireturn, 1) := by decide +kernel
theorem dX8_tellPunt_78 : decode cX8_tellPunt 78 = .ok (.aload_n 0, 1) := by decide +kernel
theorem dX8_tellPunt_79 : decode cX8_tellPunt 79 = .ok (.getfield 53, 3) := by decide +kernel
theorem dX8_tellPunt_82 : decode cX8_tellPunt 82 = .ok (.getfield 160, 3) := by decide +kernel
theorem dX8_tellPunt_85 : decode cX8_tellPunt 85 = .ok (.iload_n 1, 1) := by decide +kernel
theorem dX8_tellPunt_86 : decode cX8_tellPunt 86 = .ok (.invokevirtual 104, 3) := by decide +kernel
theorem dX8_tellPunt_89 : decode cX8_tellPunt 89 = .ok (.ireturn, 1) := by decide +kernel
theorem dX8_tellPunt_90 : decode cX8_tellPunt 90 = .ok (.aload_n 0, 1) := by decide +kernel
theorem dX8_tellPunt_91 : decode cX8_tellPunt 91 = .ok (.getfield 53, 3) := by decide +kernel
theorem dX8_tellPunt_94 : decode cX8_tellPunt 94 = .ok (.getfield 163, 3) := by decide +kernel
theorem dX8_tellPunt_97 : decode cX8_tellPunt 97 = .ok (.getfield 167, 3) := by decide +kernel
theorem dX8_tellPunt_100 : decode cX8_tellPunt 100 = .ok (.iload_n 1, 1) := by decide +kernel
theorem dX8_tellPunt_101 : decode cX8_tellPunt 101 = .ok (.aload_n 0, 1) := by decide +kernel
theorem dX8_tellPunt_102 : decode cX8_tellPunt 102 = .ok (.getfield 53, 3) := by decide +kernel
theorem dX8_tellPunt_105 : decode cX8_tellPunt 105 = .ok (.getfield 163, 3) := by decide +kernel
theorem dX8_tellPunt_108 : decode cX8_tellPunt 108 = .ok (.getfield 172, 3) := by decide +kernel
theorem dX8_tellPunt_111 : decode cX8_tellPunt 111 = .ok (.invokevirtual 124, 3) := by decide +kernel
theorem dX8_tellPunt_114 : decode cX8_tellPunt 114 = .ok (.ireturn, 1) := by decide +kernel
theorem dX8_tellPunt_115 : decode cX8_tellPunt 115 = .ok (.aload_n 0, 1) := by decide +kernel
theorem dX8_tellPunt_116 : decode cX8_tellPunt 116 = .ok (.getfield 26, 3) := by decide +kernel
theorem dX8_tellPunt_119 : decode cX8_tellPunt 119 = .ok (.getfield 148, 3) := by decide +kernel
theorem dX8_tellPunt_122 : decode cX8_tellPunt 122 = .ok (.iload_n 1, 1) := by decide +kernel
theorem dX8_tellPunt_123 : decode cX8_tellPunt 123 = .ok (.invokevirtual 104, 3) := by decide +kernel
theorem dX8_tellPunt_126 : decode cX8_tellPunt 126 = .ok (.ireturn, 1) := by decide +kernel
theorem dX8_tellPunt_127 : decode cX8_tellPunt 127 = .ok (.aload_n 0, 1) := by decide +kernel
theorem dX8_tellPunt_128 : decode cX8_tellPunt 128 = .ok (.getfield 53, 3) := by decide +kernel
theorem dX8_tellPunt_131 : decode cX8_tellPunt 131 = .ok (.iload_n 1, 1) := by decide +kernel
theorem dX8_tellPunt_132 : decode cX8_tellPunt 132 = .ok (.invokevirtual 173, 3) := by decide +kernel
theorem dX8_tellPunt_135 : decode cX8_tellPunt 135 = .ok (.ifCond .eq 7, 3) := by decide +kernel
theorem dX8_tellPunt_138 : decode cX8_tellPunt 138 = .ok (.iconst 1, 1) := by decide +kernel
theorem dX8_tellPunt_139 : decode cX8_tellPunt 139 = .ok (.goto 4, 3) := by decide +kernel
theorem dX8_tellPunt_142 : decode cX8_tellPunt 142 = .ok (.iconst 0, 1) := by decide +kernel
theorem dX8_tellPunt_143 : decode cX8_tellPunt 143 = .ok (.ireturn, 1) := by decide +kernel
theorem dX8_tellPunt_144 : decode cX8_tellPunt 144 = .ok (.aload_n 0, 1) := by decide +kernel
theorem dX8_tellPunt_145 : decode cX8_tellPunt 145 = .ok (.getfield 53, 3) := by decide +kernel
theorem dX8_tellPunt_148 : decode cX8_tellPunt 148 = .ok (.iload_n 1, 1) := by decide +kernel
theorem dX8_tellPunt_149 : decode cX8_tellPunt 149 = .ok (.invokevirtual 177, 3) := by decide +kernel
theorem dX8_tellPunt_152 : decode cX8_tellPunt 152 = .ok (.ireturn, 1) := by decide +kernel
theorem dX8_tellPunt_153 : decode cX8_tellPunt 153 = .ok (.aload_n 0, 1) := by decide +kernel
theorem dX8_tellPunt_154 : decode cX8_tellPunt 154 = .ok (.getfield 53, 3) := by decide +kernel
theorem dX8_tellPunt_157 : decode cX8_tellPunt 157 = .ok (.getfield 180, 3) := by decide +kernel
theorem dX8_tellPunt_160 : decode cX8_tellPunt 160 = .ok (.iload_n 1, 1) := by decide +kernel
theorem dX8_tellPunt_161 : decode cX8_tellPunt 161 = .ok (.invokevirtual 104, 3) := by decide +kernel
theorem dX8_tellPunt_164 : decode cX8_tellPunt 164 = .ok (.ireturn, 1) := by decide +kernel
theorem dX8_tellPunt_165 : decode cX8_tellPunt 165 = .ok (.aload_n 0, 1) := by decide +kernel
theorem dX8_tellPunt_166 : decode cX8_tellPunt 166 = .ok (.getfield 53, 3) := by decide +kernel
theorem dX8_tellPunt_169 : decode cX8_tellPunt 169 = .ok (.getfield 183, 3) := by decide +kernel
theorem dX8_tellPunt_172 : decode cX8_tellPunt 172 = .ok (.iload_n 1, 1) := by decide +kernel
theorem dX8_tellPunt_173 : decode cX8_tellPunt 173 = .ok (.invokevirtual 104, 3) := by decide +kernel
theorem dX8_tellPunt_176 : decode cX8_tellPunt 176 = .ok (.ireturn, 1) := by decide +kernel
theorem dX8_addTraveller_0 : decode cX8_addTraveller 0 = .ok (.iload_n 1, 1) := by decide +kernel
theorem dX8_addTraveller_1 : decode cX8_addTraveller 1 = .ok (.aload_n 0, 1) := by decide +kernel
theorem dX8_addTraveller_2 : decode cX8_addTraveller 2 = .ok (.getfield 19, 3) := by decide +kernel
theorem dX8_addTraveller_5 : decode cX8_addTraveller 5 = .ok (.getfield 127, 3) := by decide +kernel
theorem dX8_addTraveller_8 : decode cX8_addTraveller 8 = .ok (.invokestatic 91, 3) := by decide +kernel
theorem dX8_addTraveller_11 : decode cX8_addTraveller 11 = .ok (.ifCond .eq 21, 3) := by decide +kernel
theorem dX8_addTraveller_14 : decode cX8_addTraveller 14 = .ok (.iload_n 2, 1) := by decide +kernel
theorem dX8_addTraveller_15 : decode cX8_addTraveller 15 = .ok (.aload_n 0, 1) := by decide +kernel
theorem dX8_addTraveller_16 : decode cX8_addTraveller 16 = .ok (.getfield 19, 3) := by decide +kernel
theorem dX8_addTraveller_19 : decode cX8_addTraveller 19 = .ok (.getfield 127, 3) := by decide +kernel
theorem dX8_addTraveller_22 : decode cX8_addTraveller 22 = .ok (.invokestatic 91, 3) := by decide +kernel
theorem dX8_addTraveller_25 : decode cX8_addTraveller 25 = .ok (.ifCond .eq 7, 3) := by decide +kernel
theorem dX8_addTraveller_28 : decode cX8_addTraveller 28 = .ok (.iconst 1, 1) := by decide +kernel
theorem dX8_addTraveller_29 : decode cX8_addTraveller 29 = .ok (.goto 4, 3) := by decide +kernel
theorem dX8_addTraveller_32 : decode cX8_addTraveller 32 = .ok (.iconst 0, 1) := by decide +kernel
theorem dX8_addTraveller_33 : decode cX8_addTraveller 33 = .ok (.invokestatic 64, 3) := by decide +kernel
theorem dX8_addTraveller_36 : decode cX8_addTraveller 36 = .ok (.iload_n 1, 1) := by decide +kernel
theorem dX8_addTraveller_37 : decode cX8_addTraveller 37 = .ok (.iload_n 2, 1) := by decide +kernel
theorem dX8_addTraveller_38 : decode cX8_addTraveller 38 = .ok (.if_icmp .eq 7, 3) := by decide +kernel
theorem dX8_addTraveller_41 : decode cX8_addTraveller 41 = .ok (.iconst 1, 1) := by decide +kernel
theorem dX8_addTraveller_42 : decode cX8_addTraveller 42 = .ok (.goto 4, 3) := by decide +kernel
theorem dX8_addTraveller_45 : decode cX8_addTraveller 45 = .ok (.iconst 0, 1) := by decide +kernel
theorem dX8_addTraveller_46 : decode cX8_addTraveller 46 = .ok (.invokestatic 72, 3) := by decide +kernel
theorem dX8_addTraveller_49 : decode cX8_addTraveller 49 = .ok (.iload_n 3, 1) := by decide +kernel
theorem dX8_addTraveller_50 : decode cX8_addTraveller 50 = .ok (.iconst 0, 1) := by decide +kernel
theorem dX8_addTraveller_51 : decode cX8_addTraveller 51 = .ok (.sipush 1000, 3) := by decide +kernel
theorem dX8_addTraveller_54 : decode cX8_addTraveller 54 = .ok (.invokestatic 68, 3) := by decide +kernel
theorem dX8_addTraveller_57 : decode cX8_addTraveller 57 = .ok (.invokestatic 72, 3) := by decide +kernel
theorem dX8_addTraveller_60 : decode cX8_addTraveller 60 = .ok (.aload_n 0, 1) := by decide +kernel
theorem dX8_addTraveller_61 : decode cX8_addTraveller 61 = .ok (.getfield 53, 3) := by decide +kernel
theorem dX8_addTraveller_64 : decode cX8_addTraveller 64 = .ok (.getfield 163, 3) := by decide +kernel
theorem dX8_addTraveller_67 : decode cX8_addTraveller 67 = .ok (.getfield 172, 3) := by decide +kernel
theorem dX8_addTraveller_70 : decode cX8_addTraveller 70 = .ok (.bipush 30, 2) := by decide +kernel
theorem dX8_addTraveller_72 : decode cX8_addTraveller 72 = .ok (.if_icmp .ge 7, 3) := by decide +kernel
theorem dX8_addTraveller_75 : decode cX8_addTraveller 75 = .ok (.iconst 1, 1) := by decide +kernel
theorem dX8_addTraveller_76 : decode cX8_addTraveller 76 = .ok (.goto 4, 3) := by decide +kernel
theorem dX8_addTraveller_79 : decode cX8_addTraveller 79 = .ok (.iconst 0, 1) := by decide +kernel
theorem dX8_addTraveller_80 : decode cX8_addTraveller 80 = .ok (.invokestatic 128, 3) := by decide +kernel
theorem dX8_addTraveller_83 : decode cX8_addTraveller 83 = .ok (.aload_n 0, 1) := by decide +kernel
theorem dX8_addTraveller_84 : decode cX8_addTraveller 84 = .ok (.getfield 53, 3) := by decide +kernel
theorem dX8_addTraveller_87 : decode cX8_addTraveller 87 = .ok (.getfield 163, 3) := by decide +kernel
theorem dX8_addTraveller_90 : decode cX8_addTraveller 90 = .ok (.iload_n 1, 1) := by decide +kernel
theorem dX8_addTraveller_91 : decode cX8_addTraveller 91 = .ok (.iload_n 2, 1) := by decide +kernel
theorem dX8_addTraveller_92 : decode cX8_addTraveller 92 = .ok (.iload_n 3, 1) := by decide +kernel
theorem dX8_addTraveller_93 : decode cX8_addTraveller 93 = .ok (.invokevirtual 186, 3) := by decide +kernel
theorem dX8_addTraveller_96 : decode cX8_addTraveller 96 = .ok (.ireturn, 1) := by decide +kernel
theorem dX8_traveller_0 : decode cX8_traveller 0 = .ok (.iload_n 1, 1) := by decide +kernel
theorem dX8_traveller_1 : decode cX8_traveller 1 = .ok (.aload_n 0, 1) := by decide +kernel
theorem dX8_traveller_2 : decode cX8_traveller 2 = .ok (.getfield 53, 3) := by decide +kernel
theorem dX8_traveller_5 : decode cX8_traveller 5 = .ok (.getfield 163, 3) := by decide +kernel
theorem dX8_traveller_8 : decode cX8_traveller 8 = .ok (.getfield 172, 3) := by decide +kernel
theorem dX8_traveller_11 : decode cX8_traveller 11 = .ok (.invokestatic 91, 3) := by decide +kernel
theorem dX8_traveller_14 : decode cX8_traveller 14 = .ok (.ifCond .eq 16, 3) := by decide +kernel
theorem dX8_traveller_17 : decode cX8_traveller 17 = .ok (.iload_n 2, 1) := by decide +kernel
theorem dX8_traveller_18 : decode cX8_traveller 18 = .ok (.bipush 7, 2) := by decide +kernel
theorem dX8_traveller_20 : decode cX8_traveller 20 = .ok (.invokestatic 91, 3) := by decide +kernel
theorem dX8_traveller_23 : decode cX8_traveller 23 = .ok (.ifCond .eq 7, 3) := by decide +kernel
theorem dX8_traveller_26 : decode cX8_traveller 26 = .ok (.iconst 1, 1) := by decide +kernel
theorem dX8_traveller_27 : decode cX8_traveller 27 = .ok (.goto 4, 3) := by decide +kernel
theorem dX8_traveller_30 : decode cX8_traveller 30 = .ok (.iconst 0, 1) := by decide +kernel
theorem dX8_traveller_31 : decode cX8_traveller 31 = .ok (.invokestatic 64, 3) := by decide +kernel
theorem dX8_traveller_34 : decode cX8_traveller 34 = .ok (.aload_n 0, 1) := by decide +kernel
theorem dX8_traveller_35 : decode cX8_traveller 35 = .ok (.iload_n 1, 1) := by decide +kernel
theorem dX8_traveller_36 : decode cX8_traveller 36 = .ok (.iload_n 2, 1) := by decide +kernel
theorem dX8_traveller_37 : decode cX8_traveller 37 = .ok (.invokevirtual 189, 3) := by decide +kernel
theorem dX8_traveller_40 : decode cX8_traveller 40 = .ok (.ireturn, 1) := by decide +kernel
theorem dX8_tellTraveller_0 : decode cX8_tellTraveller 0 = .ok (.aload_n 0, 1) := by decide +kernel
theorem dX8_tellTraveller_1 : decode cX8_tellTraveller 1 = .ok (.getfield 53, 3) := by decide +kernel
theorem dX8_tellTraveller_4 : decode cX8_tellTraveller 4 = .ok (.getfield 163, 3) := by decide +kernel
theorem dX8_tellTraveller_7 : decode cX8_tellTraveller 7 = .ok (.astore_n 3, 1) := by decide +kernel
theorem dX8_tellTraveller_8 : decode cX8_tellTraveller 8 = .ok (.iload_n 2, 1) := by decide +kernel
theorem dX8_tellTraveller_9 : decode cX8_tellTraveller 9 = .ok (.tableswitch 98 0 5 #[39, 48, 57, 66, 75, 89], 39) := by decide +kernel
theorem dX8_tellTraveller_48 : decode cX8_tellTraveller 48 = .ok (.aload_n 3, 1) := by decide +kernel
theorem dX8_tellTraveller_49 : decode cX8_tellTraveller 49 = .ok (.getfield 192, 3) := by decide +kernel
theorem dX8_tellTraveller_52 : decode cX8_tellTraveller 52 = .ok (.iload_n 1, 1) := by decide +kernel
theorem dX8_tellTraveller_53 : decode cX8_tellTraveller 53 = .ok (.invokevirtual 104, 3) := by decide +kernel
theorem dX8_tellTraveller_56 : decode cX8_tellTraveller 56 = .ok (.ireturn, 1) := by decide +kernel
theorem dX8_tellTraveller_57 : decode cX8_tellTraveller 57 = .ok (.aload_n 3, 1) := by decide +kernel
theorem dX8_tellTraveller_58 : decode cX8_tellTraveller 58 = .ok (.getfield 195, 3) := by decide +kernel
theorem dX8_tellTraveller_61 : decode cX8_tellTraveller 61 = .ok (.iload_n 1, 1) := by decide +kernel
theorem dX8_tellTraveller_62 : decode cX8_tellTraveller 62 = .ok (.invokevirtual 104, 3) := by decide +kernel
theorem dX8_tellTraveller_65 : decode cX8_tellTraveller 65 = .ok (.ireturn, 1) := by decide +kernel
theorem dX8_tellTraveller_66 : decode cX8_tellTraveller 66 = .ok (.aload_n 3, 1) := by decide +kernel
theorem dX8_tellTraveller_67 : decode cX8_tellTraveller 67 = .ok (.getfield 198, 3) := by decide +kernel
theorem dX8_tellTraveller_70 : decode cX8_tellTraveller 70 = .ok (.iload_n 1, 1) := by decide +kernel
theorem dX8_tellTraveller_71 : decode cX8_tellTraveller 71 = .ok (.invokevirtual 104, 3) := by decide +kernel
theorem dX8_tellTraveller_74 : decode cX8_tellTraveller 74 = .ok (.ireturn, 1) := by decide +kernel
theorem dX8_tellTraveller_75 : decode cX8_tellTraveller 75 = .ok (.aload_n 3, 1) := by decide +kernel
theorem dX8_tellTraveller_76 : decode cX8_tellTraveller 76 = .ok (.getfield 167, 3) := by decide +kernel
theorem dX8_tellTraveller_79 : decode cX8_tellTraveller 79 = .ok (.iload_n 1, 1) := by decide +kernel
theorem dX8_tellTraveller_80 : decode cX8_tellTraveller 80 = .ok (.invokevirtual 104, 3) := by decide +kernel
theorem dX8_tellTraveller_83 : decode cX8_tellTraveller 83 = .ok (.ireturn, 1) := by decide +kernel
theorem dX8_tellTraveller_84 : decode cX8_tellTraveller 84 = .ok (.aload_n 3, 1) := by decide +kernel
theorem dX8_tellTraveller_85 : decode cX8_tellTraveller 85 = .ok (.iload_n 1, 1) := by decide +kernel
theorem dX8_tellTraveller_86 : decode cX8_tellTraveller 86 = .ok (.invokevirtual 201, 3) := by decide +kernel
theorem dX8_tellTraveller_89 : decode cX8_tellTraveller 89 = .ok (.ifCond .eq 7, 3) := by decide +kernel
theorem dX8_tellTraveller_92 : decode cX8_tellTraveller 92 = .ok (.iconst 1, 1) := by decide +kernel
theorem dX8_tellTraveller_93 : decode cX8_tellTraveller 93 = .ok (.goto 4, 3) := by decide +kernel
theorem dX8_tellTraveller_96 : decode cX8_tellTraveller 96 = .ok (.iconst 0, 1) := by decide +kernel
theorem dX8_tellTraveller_97 : decode cX8_tellTraveller 97 = .ok (.ireturn, 1) := by decide +kernel
theorem dX8_tellTraveller_98 : decode cX8_tellTraveller 98 = .ok (.aload_n 0, 1) := by decide +kernel
theorem dX8_tellTraveller_99 : decode cX8_tellTraveller 99 = .ok (.getfield 53, 3) := by decide +kernel
theorem dX8_tellTraveller_102 : decode cX8_tellTraveller 102 = .ok (.iload_n 1, 1) := by decide +kernel
theorem dX8_tellTraveller_103 : decode cX8_tellTraveller 103 = .ok (.invokevirtual 204, 3) := by decide +kernel
theorem dX8_tellTraveller_106 : decode cX8_tellTraveller 106 = .ok (.ireturn, 1) := by decide +kernel
theorem dX8_tellTraveller_107 : decode cX8_tellTraveller 107 = .ok (.aload_n 3, 1) := by decide +kernel
theorem dX8_tellTraveller_108 : decode cX8_tellTraveller 108 = .ok (.getfield 207, 3) := by decide +kernel
theorem dX8_tellTraveller_111 : decode cX8_tellTraveller 111 = .ok (.iload_n 1, 1) := by decide +kernel
theorem dX8_tellTraveller_112 : decode cX8_tellTraveller 112 = .ok (.invokevirtual 104, 3) := by decide +kernel
theorem dX8_tellTraveller_115 : decode cX8_tellTraveller 115 = .ok (.ireturn, 1) := by decide +kernel
theorem dX8_landing_0 : decode cX8_landing 0 = .ok (.iload_n 1, 1) := by decide +kernel
theorem dX8_landing_1 : decode cX8_landing 1 = .ok (.aload_n 0, 1) := by decide +kernel
theorem dX8_landing_2 : decode cX8_landing 2 = .ok (.getfield 19, 3) := by decide +kernel
theorem dX8_landing_5 : decode cX8_landing 5 = .ok (.getfield 127, 3) := by decide +kernel
theorem dX8_landing_8 : decode cX8_landing 8 = .ok (.invokestatic 91, 3) := by decide +kernel
theorem dX8_landing_11 : decode cX8_landing 11 = .ok (.ifCond .eq 15, 3) := by decide +kernel
theorem dX8_landing_14 : decode cX8_landing 14 = .ok (.iload_n 2, 1) := by decide +kernel
theorem dX8_landing_15 : decode cX8_landing 15 = .ok (.iconst 5, 1) := by decide +kernel
theorem dX8_landing_16 : decode cX8_landing 16 = .ok (.invokestatic 91, 3) := by decide +kernel
theorem dX8_landing_19 : decode cX8_landing 19 = .ok (.ifCond .eq 7, 3) := by decide +kernel
theorem dX8_landing_22 : decode cX8_landing 22 = .ok (.iconst 1, 1) := by decide +kernel
theorem dX8_landing_23 : decode cX8_landing 23 = .ok (.goto 4, 3) := by decide +kernel
theorem dX8_landing_26 : decode cX8_landing 26 = .ok (.iconst 0, 1) := by decide +kernel
theorem dX8_landing_27 : decode cX8_landing 27 = .ok (.invokestatic 64, 3) := by decide +kernel
theorem dX8_landing_30 : decode cX8_landing 30 = .ok (.aload_n 0, 1) := by decide +kernel
theorem dX8_landing_31 : decode cX8_landing 31 = .ok (.iload_n 1, 1) := by decide +kernel
theorem dX8_landing_32 : decode cX8_landing 32 = .ok (.iload_n 2, 1) := by decide +kernel
theorem dX8_landing_33 : decode cX8_landing 33 = .ok (.invokevirtual 210, 3) := by decide +kernel
theorem dX8_landing_36 : decode cX8_landing 36 = .ok (.ireturn, 1) := by decide +kernel
theorem dX8_tellLanding_0 : decode cX8_tellLanding 0 = .ok (.iload_n 2, 1) := by decide +kernel
theorem dX8_tellLanding_1 : decode cX8_tellLanding 1 = .ok (.tableswitch 85 0 3 #[31, 46, 61, 73], 31) := by decide +kernel
theorem dX8_tellLanding_32 : decode cX8_tellLanding 32 = .ok (.aload_n 0, 1) := by decide +kernel
theorem dX8_tellLanding_33 : decode cX8_tellLanding 33 = .ok (.getfield 19, 3) := by decide +kernel
theorem dX8_tellLanding_36 : decode cX8_tellLanding 36 = .ok (.getfield 140, 3) := by decide +kernel
theorem dX8_tellLanding_39 : decode cX8_tellLanding 39 = .ok (.iload_n 1, 1) := by decide +kernel
theorem dX8_tellLanding_40 : decode cX8_tellLanding 40 = .ok (.invokevirtual 104, 3) := by decide +kernel
theorem dX8_tellLanding_43 : decode cX8_tellLanding 43 = .ok (.invokestatic 154, 3) := by decide +kernel
theorem dX8_tellLanding_46 : decode cX8_tellLanding 46 = .ok (.ireturn, 1) := by decide +kernel
theorem dX8_tellLanding_47 : decode cX8_tellLanding 47 = .ok (.aload_n 0, 1) := by decide +kernel
theorem dX8_tellLanding_48 : decode cX8_tellLanding 48 = .ok (.getfield 19, 3) := by decide +kernel
theorem dX8_tellLanding_51 : decode cX8_tellLanding 51 = .ok (.getfield 140, 3) := by decide +kernel
theorem dX8_tellLanding_54 : decode cX8_tellLanding 54 = .ok (.iload_n 1, 1) := by decide +kernel
theorem dX8_tellLanding_55 : decode cX8_tellLanding 55 = .ok (.invokevirtual 104, 3) := by decide +kernel
theorem dX8_tellLanding_58 : decode cX8_tellLanding 58 = .ok (.invokestatic 157, 3) := by decide +kernel
theorem dX8_tellLanding_61 : decode cX8_tellLanding 61 = .ok (.ireturn, 1) := by decide +kernel
theorem dX8_tellLanding_62 : decode cX8_tellLanding 62 = .ok (.aload_n 0, 1) := by decide +kernel
theorem dX8_tellLanding_63 : decode cX8_tellLanding 63 = .ok (.getfield 53, 3) := by decide +kernel
theorem dX8_tellLanding_66 : decode cX8_tellLanding 66 = .ok (.getfield 163, 3) := by decide +kernel
theorem dX8_tellLanding_69 : decode cX8_tellLanding 69 = .ok (.iload_n 1, 1) := by decide +kernel
theorem dX8_tellLanding_70 : decode cX8_tellLanding 70 = .ok (.invokevirtual 213, 3) := by decide +kernel
theorem dX8_tellLanding_73 : decode cX8_tellLanding 73 = .ok (.ireturn, 1) := by decide +kernel
theorem dX8_tellLanding_74 : decode cX8_tellLanding 74 = .ok (.aload_n 0, 1) := by decide +kernel
theorem dX8_tellLanding_75 : decode cX8_tellLanding 75 = .ok (.getfield 53, 3) := by decide +kernel
theorem dX8_tellLanding_78 : decode cX8_tellLanding 78 = .ok (.getfield 163, 3) := by decide +kernel
theorem dX8_tellLanding_81 : decode cX8_tellLanding 81 = .ok (.iload_n 1, 1) := by decide +kernel
theorem dX8_tellLanding_82 : decode cX8_tellLanding 82 = .ok (.invokevirtual 216, 3) := by decide +kernel
theorem dX8_tellLanding_85 : decode cX8_tellLanding 85 = .ok (.ireturn, 1) := by decide +kernel
theorem dX8_tellLanding_86 : decode cX8_tellLanding 86 = .ok (.aload_n 0, 1) := by decide +kernel
theorem dX8_tellLanding_87 : decode cX8_tellLanding 87 = .ok (.getfield 26, 3) := by decide +kernel
theorem dX8_tellLanding_90 : decode cX8_tellLanding 90 = .ok (.iload_n 1, 1) := by decide +kernel
theorem dX8_tellLanding_91 : decode cX8_tellLanding 91 = .ok (.invokevirtual 219, 3) := by decide +kernel
theorem dX8_tellLanding_94 : decode cX8_tellLanding 94 = .ok (.ireturn, 1) := by decide +kernel
theorem dX8_pass_0 : decode cX8_pass 0 = .ok (.iload_n 1, 1) := by decide +kernel
theorem dX8_pass_1 : decode cX8_pass 1 = .ok (.iconst 1, 1) := by decide +kernel
theorem dX8_pass_2 : decode cX8_pass 2 = .ok (.bipush 100, 2) := by decide +kernel
theorem dX8_pass_4 : decode cX8_pass 4 = .ok (.invokestatic 68, 3) := by decide +kernel
theorem dX8_pass_7 : decode cX8_pass 7 = .ok (.invokestatic 72, 3) := by decide +kernel
theorem dX8_pass_10 : decode cX8_pass 10 = .ok (.iconst 0, 1) := by decide +kernel
theorem dX8_pass_11 : decode cX8_pass 11 = .ok (.istore_n 2, 1) := by decide +kernel
theorem dX8_pass_12 : decode cX8_pass 12 = .ok (.iconst 0, 1) := by decide +kernel
theorem dX8_pass_13 : decode cX8_pass 13 = .ok (.istore_n 3, 1) := by decide +kernel
theorem dX8_pass_14 : decode cX8_pass 14 = .ok (.iload_n 3, 1) := by decide +kernel
theorem dX8_pass_15 : decode cX8_pass 15 = .ok (.iload_n 1, 1) := by decide +kernel
theorem dX8_pass_16 : decode cX8_pass 16 = .ok (.if_icmp .ge 19, 3) := by decide +kernel
theorem dX8_pass_19 : decode cX8_pass 19 = .ok (.iload_n 2, 1) := by decide +kernel
theorem dX8_pass_20 : decode cX8_pass 20 = .ok (.aload_n 0, 1) := by decide +kernel
theorem dX8_pass_21 : decode cX8_pass 21 = .ok (.getfield 53, 3) := by decide +kernel
theorem dX8_pass_24 : decode cX8_pass 24 = .ok (.invokevirtual 222, 3) := by decide +kernel
theorem dX8_pass_27 : decode cX8_pass 27 = .ok (.iadd, 1) := by decide +kernel
theorem dX8_pass_28 : decode cX8_pass 28 = .ok (.istore_n 2, 1) := by decide +kernel
theorem dX8_pass_29 : decode cX8_pass 29 = .ok (.iinc 3 1, 3) := by decide +kernel
theorem dX8_pass_32 : decode cX8_pass 32 = .ok (.goto (-18), 3) := by decide +kernel
theorem dX8_pass_35 : decode cX8_pass 35 = .ok (.iload_n 2, 1) := by decide +kernel
theorem dX8_pass_36 : decode cX8_pass 36 = .ok (.ireturn, 1) := by decide +kernel
theorem dX8_count_0 : decode cX8_count 0 = .ok (.iload_n 1, 1) := by decide +kernel
theorem dX8_count_1 : decode cX8_count 1 = .ok (.bipush 11, 2) := by decide +kernel
theorem dX8_count_3 : decode cX8_count 3 = .ok (.invokestatic 91, 3) := by decide +kernel
theorem dX8_count_6 : decode cX8_count 6 = .ok (.invokestatic 64, 3) := by decide +kernel
theorem dX8_count_9 : decode cX8_count 9 = .ok (.aload_n 0, 1) := by decide +kernel
theorem dX8_count_10 : decode cX8_count 10 = .ok (.iload_n 1, 1) := by decide +kernel
theorem dX8_count_11 : decode cX8_count 11 = .ok (.invokevirtual 225, 3) := by decide +kernel
theorem dX8_count_14 : decode cX8_count 14 = .ok (.ireturn, 1) := by decide +kernel
theorem dX8_tellCount_0 : decode cX8_tellCount 0 = .ok (.iload_n 1, 1) := by decide +kernel
theorem dX8_tellCount_1 : decode cX8_tellCount 1 = .ok (.tableswitch 147 0 9 #[55, 63, 71, 79, 87, 98, 109, 120, 131, 139], 55) := by decide +kernel
theorem dX8_tellCount_56 : decode cX8_tellCount 56 = .ok (.aload_n 0, 1) := by decide +kernel
theorem dX8_tellCount_57 : decode cX8_tellCount 57 = .ok (.getfield 53, 3) := by decide +kernel
theorem dX8_tellCount_60 : decode cX8_tellCount 60 = .ok (.getfield 228, 3) := by decide +kernel
theorem dX8_tellCount_63 : decode cX8_tellCount 63 = .ok (.ireturn, 1) := by decide +kernel
theorem dX8_tellCount_64 : decode cX8_tellCount 64 = .ok (.aload_n 0, 1) := by decide +kernel
theorem dX8_tellCount_65 : decode cX8_tellCount 65 = .ok (.getfield 53, 3) := by decide +kernel
theorem dX8_tellCount_68 : decode cX8_tellCount 68 = .ok (.invokevirtual 100, 3) := by decide +kernel
theorem dX8_tellCount_71 : decode cX8_tellCount 71 = .ok (.ireturn, 1) := by decide +kernel
theorem dX8_tellCount_72 : decode cX8_tellCount 72 = .ok (.aload_n 0, 1) := by decide +kernel
theorem dX8_tellCount_73 : decode cX8_tellCount 73 = .ok (.getfield 19, 3) := by decide +kernel
theorem dX8_tellCount_76 : decode cX8_tellCount 76 = .ok (.getfield 127, 3) := by decide +kernel
theorem dX8_tellCount_79 : decode cX8_tellCount 79 = .ok (.ireturn, 1) := by decide +kernel
theorem dX8_tellCount_80 : decode cX8_tellCount 80 = .ok (.aload_n 0, 1) := by decide +kernel
theorem dX8_tellCount_81 : decode cX8_tellCount 81 = .ok (.getfield 26, 3) := by decide +kernel
theorem dX8_tellCount_84 : decode cX8_tellCount 84 = .ok (.getfield 120, 3) := by decide +kernel
theorem dX8_tellCount_87 : decode cX8_tellCount 87 = .ok (.ireturn, 1) := by decide +kernel
theorem dX8_tellCount_88 : decode cX8_tellCount 88 = .ok (.aload_n 0, 1) := by decide +kernel
theorem dX8_tellCount_89 : decode cX8_tellCount 89 = .ok (.getfield 53, 3) := by decide +kernel
theorem dX8_tellCount_92 : decode cX8_tellCount 92 = .ok (.getfield 163, 3) := by decide +kernel
theorem dX8_tellCount_95 : decode cX8_tellCount 95 = .ok (.getfield 172, 3) := by decide +kernel
theorem dX8_tellCount_98 : decode cX8_tellCount 98 = .ok (.ireturn, 1) := by decide +kernel
theorem dX8_tellCount_99 : decode cX8_tellCount 99 = .ok (.aload_n 0, 1) := by decide +kernel
theorem dX8_tellCount_100 : decode cX8_tellCount 100 = .ok (.getfield 53, 3) := by decide +kernel
theorem dX8_tellCount_103 : decode cX8_tellCount 103 = .ok (.getfield 163, 3) := by decide +kernel
theorem dX8_tellCount_106 : decode cX8_tellCount 106 = .ok (.invokevirtual 231, 3) := by decide +kernel
theorem dX8_tellCount_109 : decode cX8_tellCount 109 = .ok (.ireturn, 1) := by decide +kernel
theorem dX8_tellCount_110 : decode cX8_tellCount 110 = .ok (.aload_n 0, 1) := by decide +kernel
theorem dX8_tellCount_111 : decode cX8_tellCount 111 = .ok (.getfield 53, 3) := by decide +kernel
theorem dX8_tellCount_114 : decode cX8_tellCount 114 = .ok (.getfield 163, 3) := by decide +kernel
theorem dX8_tellCount_117 : decode cX8_tellCount 117 = .ok (.invokevirtual 234, 3) := by decide +kernel
theorem dX8_tellCount_120 : decode cX8_tellCount 120 = .ok (.ireturn, 1) := by decide +kernel
theorem dX8_tellCount_121 : decode cX8_tellCount 121 = .ok (.aload_n 0, 1) := by decide +kernel
theorem dX8_tellCount_122 : decode cX8_tellCount 122 = .ok (.getfield 53, 3) := by decide +kernel
theorem dX8_tellCount_125 : decode cX8_tellCount 125 = .ok (.getfield 163, 3) := by decide +kernel
theorem dX8_tellCount_128 : decode cX8_tellCount 128 = .ok (.invokevirtual 237, 3) := by decide +kernel
theorem dX8_tellCount_131 : decode cX8_tellCount 131 = .ok (.ireturn, 1) := by decide +kernel
theorem dX8_tellCount_132 : decode cX8_tellCount 132 = .ok (.aload_n 0, 1) := by decide +kernel
theorem dX8_tellCount_133 : decode cX8_tellCount 133 = .ok (.getfield 53, 3) := by decide +kernel
theorem dX8_tellCount_136 : decode cX8_tellCount 136 = .ok (.invokevirtual 240, 3) := by decide +kernel
theorem dX8_tellCount_139 : decode cX8_tellCount 139 = .ok (.ireturn, 1) := by decide +kernel
theorem dX8_tellCount_140 : decode cX8_tellCount 140 = .ok (.aload_n 0, 1) := by decide +kernel
theorem dX8_tellCount_141 : decode cX8_tellCount 141 = .ok (.getfield 53, 3) := by decide +kernel
theorem dX8_tellCount_144 : decode cX8_tellCount 144 = .ok (.invokevirtual 243, 3) := by decide +kernel
theorem dX8_tellCount_147 : decode cX8_tellCount 147 = .ok (.ireturn, 1) := by decide +kernel
theorem dX8_tellCount_148 : decode cX8_tellCount 148 = .ok (.aload_n 0, 1) := by decide +kernel
theorem dX8_tellCount_149 : decode cX8_tellCount 149 = .ok (.getfield 12, 3) := by decide +kernel
theorem dX8_tellCount_152 : decode cX8_tellCount 152 = .ok (.aload_n 0, 1) := by decide +kernel
theorem dX8_tellCount_153 : decode cX8_tellCount 153 = .ok (.getfield 53, 3) := by decide +kernel
theorem dX8_tellCount_156 : decode cX8_tellCount 156 = .ok (.invokevirtual 100, 3) := by decide +kernel
theorem dX8_tellCount_159 : decode cX8_tellCount 159 = .ok (.invokevirtual 246, 3) := by decide +kernel
theorem dX8_tellCount_162 : decode cX8_tellCount 162 = .ok (.ireturn, 1) := by decide +kernel
theorem dX8_crossing_0 : decode cX8_crossing 0 = .ok (.iload_n 1, 1) := by decide +kernel
theorem dX8_crossing_1 : decode cX8_crossing 1 = .ok (.aload_n 0, 1) := by decide +kernel
theorem dX8_crossing_2 : decode cX8_crossing 2 = .ok (.getfield 26, 3) := by decide +kernel
theorem dX8_crossing_5 : decode cX8_crossing 5 = .ok (.getfield 120, 3) := by decide +kernel
theorem dX8_crossing_8 : decode cX8_crossing 8 = .ok (.invokestatic 91, 3) := by decide +kernel
theorem dX8_crossing_11 : decode cX8_crossing 11 = .ok (.invokestatic 64, 3) := by decide +kernel
theorem dX8_crossing_14 : decode cX8_crossing 14 = .ok (.iload_n 2, 1) := by decide +kernel
theorem dX8_crossing_15 : decode cX8_crossing 15 = .ok (.iconst 0, 1) := by decide +kernel
theorem dX8_crossing_16 : decode cX8_crossing 16 = .ok (.bipush 24, 2) := by decide +kernel
theorem dX8_crossing_18 : decode cX8_crossing 18 = .ok (.invokestatic 68, 3) := by decide +kernel
theorem dX8_crossing_21 : decode cX8_crossing 21 = .ok (.invokestatic 72, 3) := by decide +kernel
theorem dX8_crossing_24 : decode cX8_crossing 24 = .ok (.aload_n 0, 1) := by decide +kernel
theorem dX8_crossing_25 : decode cX8_crossing 25 = .ok (.iload_n 1, 1) := by decide +kernel
theorem dX8_crossing_26 : decode cX8_crossing 26 = .ok (.iload_n 2, 1) := by decide +kernel
theorem dX8_crossing_27 : decode cX8_crossing 27 = .ok (.invokevirtual 249, 3) := by decide +kernel
theorem dX8_crossing_30 : decode cX8_crossing 30 = .ok (.ireturn, 1) := by decide +kernel
theorem dX8_crossingAt_0 : decode cX8_crossingAt 0 = .ok (.aload_n 0, 1) := by decide +kernel
theorem dX8_crossingAt_1 : decode cX8_crossingAt 1 = .ok (.getfield 44, 3) := by decide +kernel
theorem dX8_crossingAt_4 : decode cX8_crossingAt 4 = .ok (.iload_n 1, 1) := by decide +kernel
theorem dX8_crossingAt_5 : decode cX8_crossingAt 5 = .ok (.aload_n 0, 1) := by decide +kernel
theorem dX8_crossingAt_6 : decode cX8_crossingAt 6 = .ok (.getfield 26, 3) := by decide +kernel
theorem dX8_crossingAt_9 : decode cX8_crossingAt 9 = .ok (.getfield 252, 3) := by decide +kernel
theorem dX8_crossingAt_12 : decode cX8_crossingAt 12 = .ok (.iload_n 1, 1) := by decide +kernel
theorem dX8_crossingAt_13 : decode cX8_crossingAt 13 = .ok (.invokevirtual 104, 3) := by decide +kernel
theorem dX8_crossingAt_16 : decode cX8_crossingAt 16 = .ok (.iload_n 2, 1) := by decide +kernel
theorem dX8_crossingAt_17 : decode cX8_crossingAt 17 = .ok (.invokevirtual 255, 3) := by decide +kernel
theorem dX8_crossingAt_20 : decode cX8_crossingAt 20 = .ok (.istore_n 3, 1) := by decide +kernel
theorem dX8_crossingAt_21 : decode cX8_crossingAt 21 = .ok (.aload_n 0, 1) := by decide +kernel
theorem dX8_crossingAt_22 : decode cX8_crossingAt 22 = .ok (.getfield 44, 3) := by decide +kernel
theorem dX8_crossingAt_25 : decode cX8_crossingAt 25 = .ok (.iload_n 3, 1) := by decide +kernel
theorem dX8_crossingAt_26 : decode cX8_crossingAt 26 = .ok (.aload_n 0, 1) := by decide +kernel
theorem dX8_crossingAt_27 : decode cX8_crossingAt 27 = .ok (.getfield 19, 3) := by decide +kernel
theorem dX8_crossingAt_30 : decode cX8_crossingAt 30 = .ok (.getfield 140, 3) := by decide +kernel
theorem dX8_crossingAt_33 : decode cX8_crossingAt 33 = .ok (.aload_n 0, 1) := by decide +kernel
theorem dX8_crossingAt_34 : decode cX8_crossingAt 34 = .ok (.getfield 26, 3) := by decide +kernel
theorem dX8_crossingAt_37 : decode cX8_crossingAt 37 = .ok (.getfield 258, 3) := by decide +kernel
theorem dX8_crossingAt_40 : decode cX8_crossingAt 40 = .ok (.iload_n 1, 1) := by decide +kernel
theorem dX8_crossingAt_41 : decode cX8_crossingAt 41 = .ok (.invokevirtual 104, 3) := by decide +kernel
theorem dX8_crossingAt_44 : decode cX8_crossingAt 44 = .ok (.invokevirtual 104, 3) := by decide +kernel
theorem dX8_crossingAt_47 : decode cX8_crossingAt 47 = .ok (.invokevirtual 261, 3) := by decide +kernel
theorem dX8_crossingAt_50 : decode cX8_crossingAt 50 = .ok (.ireturn, 1) := by decide +kernel
theorem dX8_opens_0 : decode cX8_opens 0 = .ok (.iload_n 1, 1) := by decide +kernel
theorem dX8_opens_1 : decode cX8_opens 1 = .ok (.aload_n 0, 1) := by decide +kernel
theorem dX8_opens_2 : decode cX8_opens 2 = .ok (.getfield 26, 3) := by decide +kernel
theorem dX8_opens_5 : decode cX8_opens 5 = .ok (.getfield 120, 3) := by decide +kernel
theorem dX8_opens_8 : decode cX8_opens 8 = .ok (.invokestatic 91, 3) := by decide +kernel
theorem dX8_opens_11 : decode cX8_opens 11 = .ok (.invokestatic 64, 3) := by decide +kernel
theorem dX8_opens_14 : decode cX8_opens 14 = .ok (.iconst 0, 1) := by decide +kernel
theorem dX8_opens_15 : decode cX8_opens 15 = .ok (.istore_n 2, 1) := by decide +kernel
theorem dX8_opens_16 : decode cX8_opens 16 = .ok (.iload_n 2, 1) := by decide +kernel
theorem dX8_opens_17 : decode cX8_opens 17 = .ok (.bipush 24, 2) := by decide +kernel
theorem dX8_opens_19 : decode cX8_opens 19 = .ok (.if_icmp .gt 21, 3) := by decide +kernel
theorem dX8_opens_22 : decode cX8_opens 22 = .ok (.aload_n 0, 1) := by decide +kernel
theorem dX8_opens_23 : decode cX8_opens 23 = .ok (.iload_n 1, 1) := by decide +kernel
theorem dX8_opens_24 : decode cX8_opens 24 = .ok (.iload_n 2, 1) := by decide +kernel
theorem dX8_opens_25 : decode cX8_opens 25 = .ok (.invokevirtual 249, 3) := by decide +kernel
theorem dX8_opens_28 : decode cX8_opens 28 = .ok (.iconst (-1), 1) := by decide +kernel
theorem dX8_opens_29 : decode cX8_opens 29 = .ok (.if_icmp .eq 5, 3) := by decide +kernel
theorem dX8_opens_32 : decode cX8_opens 32 = .ok (.iload_n 2, 1) := by decide +kernel
theorem dX8_opens_33 : decode cX8_opens 33 = .ok (.ireturn, 1) := by decide +kernel
theorem dX8_opens_34 : decode cX8_opens 34 = .ok (.iinc 2 1, 3) := by decide +kernel
theorem dX8_opens_37 : decode cX8_opens 37 = .ok (.goto (-21), 3) := by decide +kernel
theorem dX8_opens_40 : decode cX8_opens 40 = .ok (.iconst (-1), 1) := by decide +kernel
theorem dX8_opens_41 : decode cX8_opens 41 = .ok (.ireturn, 1) := by decide +kernel
theorem dX8_chain_0 : decode cX8_chain 0 = .ok (.iload_n 1, 1) := by decide +kernel
theorem dX8_chain_1 : decode cX8_chain 1 = .ok (.aload_n 0, 1) := by decide +kernel
theorem dX8_chain_2 : decode cX8_chain 2 = .ok (.getfield 19, 3) := by decide +kernel
theorem dX8_chain_5 : decode cX8_chain 5 = .ok (.getfield 127, 3) := by decide +kernel
theorem dX8_chain_8 : decode cX8_chain 8 = .ok (.invokestatic 91, 3) := by decide +kernel
theorem dX8_chain_11 : decode cX8_chain 11 = .ok (.ifCond .eq 21, 3) := by decide +kernel
theorem dX8_chain_14 : decode cX8_chain 14 = .ok (.iload_n 2, 1) := by decide +kernel
theorem dX8_chain_15 : decode cX8_chain 15 = .ok (.aload_n 0, 1) := by decide +kernel
theorem dX8_chain_16 : decode cX8_chain 16 = .ok (.getfield 19, 3) := by decide +kernel
theorem dX8_chain_19 : decode cX8_chain 19 = .ok (.getfield 127, 3) := by decide +kernel
theorem dX8_chain_22 : decode cX8_chain 22 = .ok (.invokestatic 91, 3) := by decide +kernel
theorem dX8_chain_25 : decode cX8_chain 25 = .ok (.ifCond .eq 7, 3) := by decide +kernel
theorem dX8_chain_28 : decode cX8_chain 28 = .ok (.iconst 1, 1) := by decide +kernel
theorem dX8_chain_29 : decode cX8_chain 29 = .ok (.goto 4, 3) := by decide +kernel
theorem dX8_chain_32 : decode cX8_chain 32 = .ok (.iconst 0, 1) := by decide +kernel
theorem dX8_chain_33 : decode cX8_chain 33 = .ok (.invokestatic 64, 3) := by decide +kernel
theorem dX8_chain_36 : decode cX8_chain 36 = .ok (.iload_n 3, 1) := by decide +kernel
theorem dX8_chain_37 : decode cX8_chain 37 = .ok (.iconst 3, 1) := by decide +kernel
theorem dX8_chain_38 : decode cX8_chain 38 = .ok (.invokestatic 91, 3) := by decide +kernel
theorem dX8_chain_41 : decode cX8_chain 41 = .ok (.invokestatic 64, 3) := by decide +kernel
theorem dX8_chain_44 : decode cX8_chain 44 = .ok (.iload_n 3, 1) := by decide +kernel
theorem dX8_chain_45 : decode cX8_chain 45 = .ok (.lookupswitch 47 #[(0, 27), (1, 37)], 27) := by decide +kernel
theorem dX8_chain_72 : decode cX8_chain 72 = .ok (.aload_n 0, 1) := by decide +kernel
theorem dX8_chain_73 : decode cX8_chain 73 = .ok (.getfield 35, 3) := by decide +kernel
theorem dX8_chain_76 : decode cX8_chain 76 = .ok (.iload_n 1, 1) := by decide +kernel
theorem dX8_chain_77 : decode cX8_chain 77 = .ok (.iload_n 2, 1) := by decide +kernel
theorem dX8_chain_78 : decode cX8_chain 78 = .ok (.invokevirtual 264, 3) := by decide +kernel
theorem dX8_chain_81 : decode cX8_chain 81 = .ok (.ireturn, 1) := by decide +kernel
theorem dX8_chain_82 : decode cX8_chain 82 = .ok (.aload_n 0, 1) := by decide +kernel
theorem dX8_chain_83 : decode cX8_chain 83 = .ok (.getfield 35, 3) := by decide +kernel
theorem dX8_chain_86 : decode cX8_chain 86 = .ok (.iload_n 1, 1) := by decide +kernel
theorem dX8_chain_87 : decode cX8_chain 87 = .ok (.iload_n 2, 1) := by decide +kernel
theorem dX8_chain_88 : decode cX8_chain 88 = .ok (.invokevirtual 267, 3) := by decide +kernel
theorem dX8_chain_91 : decode cX8_chain 91 = .ok (.ireturn, 1) := by decide +kernel
theorem dX8_chain_92 : decode cX8_chain 92 = .ok (.aload_n 0, 1) := by decide +kernel
theorem dX8_chain_93 : decode cX8_chain 93 = .ok (.getfield 35, 3) := by decide +kernel
theorem dX8_chain_96 : decode cX8_chain 96 = .ok (.iload_n 1, 1) := by decide +kernel
theorem dX8_chain_97 : decode cX8_chain 97 = .ok (.iload_n 2, 1) := by decide +kernel
theorem dX8_chain_98 : decode cX8_chain 98 = .ok (.invokevirtual 270, 3) := by decide +kernel
theorem dX8_chain_101 : decode cX8_chain 101 = .ok (.ireturn, 1) := by decide +kernel
theorem dX8_aground_0 : decode cX8_aground 0 = .ok (.iload_n 1, 1) := by decide +kernel
theorem dX8_aground_1 : decode cX8_aground 1 = .ok (.aload_n 0, 1) := by decide +kernel
theorem dX8_aground_2 : decode cX8_aground 2 = .ok (.getfield 26, 3) := by decide +kernel
theorem dX8_aground_5 : decode cX8_aground 5 = .ok (.getfield 120, 3) := by decide +kernel
theorem dX8_aground_8 : decode cX8_aground 8 = .ok (.invokestatic 91, 3) := by decide +kernel
theorem dX8_aground_11 : decode cX8_aground 11 = .ok (.invokestatic 64, 3) := by decide +kernel
theorem dX8_aground_14 : decode cX8_aground 14 = .ok (.iload_n 2, 1) := by decide +kernel
theorem dX8_aground_15 : decode cX8_aground 15 = .ok (.iconst 1, 1) := by decide +kernel
theorem dX8_aground_16 : decode cX8_aground 16 = .ok (.bipush 100, 2) := by decide +kernel
theorem dX8_aground_18 : decode cX8_aground 18 = .ok (.invokestatic 68, 3) := by decide +kernel
theorem dX8_aground_21 : decode cX8_aground 21 = .ok (.invokestatic 72, 3) := by decide +kernel
theorem dX8_aground_24 : decode cX8_aground 24 = .ok (.aload_n 0, 1) := by decide +kernel
theorem dX8_aground_25 : decode cX8_aground 25 = .ok (.getfield 57, 3) := by decide +kernel
theorem dX8_aground_28 : decode cX8_aground 28 = .ok (.aload_n 0, 1) := by decide +kernel
theorem dX8_aground_29 : decode cX8_aground 29 = .ok (.getfield 53, 3) := by decide +kernel
theorem dX8_aground_32 : decode cX8_aground 32 = .ok (.invokevirtual 273, 3) := by decide +kernel
theorem dX8_aground_35 : decode cX8_aground 35 = .ok (.iconst 0, 1) := by decide +kernel
theorem dX8_aground_36 : decode cX8_aground 36 = .ok (.istore_n 3, 1) := by decide +kernel
theorem dX8_aground_37 : decode cX8_aground 37 = .ok (.iload_n 3, 1) := by decide +kernel
theorem dX8_aground_38 : decode cX8_aground 38 = .ok (.iload_n 2, 1) := by decide +kernel
theorem dX8_aground_39 : decode cX8_aground 39 = .ok (.if_icmp .gt 30, 3) := by decide +kernel
theorem dX8_aground_42 : decode cX8_aground 42 = .ok (.aload_n 0, 1) := by decide +kernel
theorem dX8_aground_43 : decode cX8_aground 43 = .ok (.getfield 57, 3) := by decide +kernel
theorem dX8_aground_46 : decode cX8_aground 46 = .ok (.iload_n 1, 1) := by decide +kernel
theorem dX8_aground_47 : decode cX8_aground 47 = .ok (.invokevirtual 173, 3) := by decide +kernel
theorem dX8_aground_50 : decode cX8_aground 50 = .ok (.ifCond .eq 5, 3) := by decide +kernel
theorem dX8_aground_53 : decode cX8_aground 53 = .ok (.iload_n 3, 1) := by decide +kernel
theorem dX8_aground_54 : decode cX8_aground 54 = .ok (.ireturn, 1) := by decide +kernel
theorem dX8_aground_55 : decode cX8_aground 55 = .ok (.aload_n 0, 1) := by decide +kernel
theorem dX8_aground_56 : decode cX8_aground 56 = .ok (.getfield 57, 3) := by decide +kernel
theorem dX8_aground_59 : decode cX8_aground 59 = .ok (.invokevirtual 222, 3) := by decide +kernel
theorem dX8_aground_62 : decode cX8_aground 62 = .ok (.pop, 1) := by decide +kernel
theorem dX8_aground_63 : decode cX8_aground 63 = .ok (.iinc 3 1, 3) := by decide +kernel
theorem dX8_aground_66 : decode cX8_aground 66 = .ok (.goto (-29), 3) := by decide +kernel
theorem dX8_aground_69 : decode cX8_aground 69 = .ok (.iconst (-1), 1) := by decide +kernel
theorem dX8_aground_70 : decode cX8_aground 70 = .ok (.ireturn, 1) := by decide +kernel
theorem dX8_arrives_0 : decode cX8_arrives 0 = .ok (.iload_n 1, 1) := by decide +kernel
theorem dX8_arrives_1 : decode cX8_arrives 1 = .ok (.aload_n 0, 1) := by decide +kernel
theorem dX8_arrives_2 : decode cX8_arrives 2 = .ok (.getfield 53, 3) := by decide +kernel
theorem dX8_arrives_5 : decode cX8_arrives 5 = .ok (.getfield 163, 3) := by decide +kernel
theorem dX8_arrives_8 : decode cX8_arrives 8 = .ok (.getfield 172, 3) := by decide +kernel
theorem dX8_arrives_11 : decode cX8_arrives 11 = .ok (.invokestatic 91, 3) := by decide +kernel
theorem dX8_arrives_14 : decode cX8_arrives 14 = .ok (.invokestatic 64, 3) := by decide +kernel
theorem dX8_arrives_17 : decode cX8_arrives 17 = .ok (.aload_n 0, 1) := by decide +kernel
theorem dX8_arrives_18 : decode cX8_arrives 18 = .ok (.getfield 57, 3) := by decide +kernel
theorem dX8_arrives_21 : decode cX8_arrives 21 = .ok (.aload_n 0, 1) := by decide +kernel
theorem dX8_arrives_22 : decode cX8_arrives 22 = .ok (.getfield 53, 3) := by decide +kernel
theorem dX8_arrives_25 : decode cX8_arrives 25 = .ok (.invokevirtual 273, 3) := by decide +kernel
theorem dX8_arrives_28 : decode cX8_arrives 28 = .ok (.iconst 0, 1) := by decide +kernel
theorem dX8_arrives_29 : decode cX8_arrives 29 = .ok (.istore_n 2, 1) := by decide +kernel
theorem dX8_arrives_30 : decode cX8_arrives 30 = .ok (.iload_n 2, 1) := by decide +kernel
theorem dX8_arrives_31 : decode cX8_arrives 31 = .ok (.sipush 400, 3) := by decide +kernel
theorem dX8_arrives_34 : decode cX8_arrives 34 = .ok (.if_icmp .ge 31, 3) := by decide +kernel
theorem dX8_arrives_37 : decode cX8_arrives 37 = .ok (.aload_n 0, 1) := by decide +kernel
theorem dX8_arrives_38 : decode cX8_arrives 38 = .ok (.getfield 57, 3) := by decide +kernel
theorem dX8_arrives_41 : decode cX8_arrives 41 = .ok (.getfield 163, 3) := by decide +kernel
theorem dX8_arrives_44 : decode cX8_arrives 44 = .ok (.iload_n 1, 1) := by decide +kernel
theorem dX8_arrives_45 : decode cX8_arrives 45 = .ok (.invokevirtual 201, 3) := by decide +kernel
theorem dX8_arrives_48 : decode cX8_arrives 48 = .ok (.ifCond .ne 17, 3) := by decide +kernel
theorem dX8_arrives_51 : decode cX8_arrives 51 = .ok (.aload_n 0, 1) := by decide +kernel
theorem dX8_arrives_52 : decode cX8_arrives 52 = .ok (.getfield 57, 3) := by decide +kernel
theorem dX8_arrives_55 : decode cX8_arrives 55 = .ok (.invokevirtual 222, 3) := by decide +kernel
theorem dX8_arrives_58 : decode cX8_arrives 58 = .ok (.pop, 1) := by decide +kernel
theorem dX8_arrives_59 : decode cX8_arrives 59 = .ok (.iinc 2 1, 3) := by decide +kernel
theorem dX8_arrives_62 : decode cX8_arrives 62 = .ok (.goto (-32), 3) := by decide +kernel
theorem dX8_arrives_65 : decode cX8_arrives 65 = .ok (.aload_n 0, 1) := by decide +kernel
theorem dX8_arrives_66 : decode cX8_arrives 66 = .ok (.getfield 57, 3) := by decide +kernel
theorem dX8_arrives_69 : decode cX8_arrives 69 = .ok (.getfield 163, 3) := by decide +kernel
theorem dX8_arrives_72 : decode cX8_arrives 72 = .ok (.getfield 207, 3) := by decide +kernel
theorem dX8_arrives_75 : decode cX8_arrives 75 = .ok (.iload_n 1, 1) := by decide +kernel
theorem dX8_arrives_76 : decode cX8_arrives 76 = .ok (.invokevirtual 104, 3) := by decide +kernel
theorem dX8_arrives_79 : decode cX8_arrives 79 = .ok (.ireturn, 1) := by decide +kernel
theorem dX8_mean_0 : decode cX8_mean 0 = .ok (.aload_n 0, 1) := by decide +kernel
theorem dX8_mean_1 : decode cX8_mean 1 = .ok (.getfield 53, 3) := by decide +kernel
theorem dX8_mean_4 : decode cX8_mean 4 = .ok (.invokevirtual 100, 3) := by decide +kernel
theorem dX8_mean_7 : decode cX8_mean 7 = .ok (.istore_n 1, 1) := by decide +kernel
theorem dX8_mean_8 : decode cX8_mean 8 = .ok (.iconst 0, 1) := by decide +kernel
theorem dX8_mean_9 : decode cX8_mean 9 = .ok (.istore_n 2, 1) := by decide +kernel
theorem dX8_mean_10 : decode cX8_mean 10 = .ok (.iconst 0, 1) := by decide +kernel
theorem dX8_mean_11 : decode cX8_mean 11 = .ok (.istore_n 3, 1) := by decide +kernel
theorem dX8_mean_12 : decode cX8_mean 12 = .ok (.iload_n 3, 1) := by decide +kernel
theorem dX8_mean_13 : decode cX8_mean 13 = .ok (.sipush 196, 3) := by decide +kernel
theorem dX8_mean_16 : decode cX8_mean 16 = .ok (.if_icmp .ge 21, 3) := by decide +kernel
theorem dX8_mean_19 : decode cX8_mean 19 = .ok (.iload_n 2, 1) := by decide +kernel
theorem dX8_mean_20 : decode cX8_mean 20 = .ok (.aload_n 0, 1) := by decide +kernel
theorem dX8_mean_21 : decode cX8_mean 21 = .ok (.getfield 12, 3) := by decide +kernel
theorem dX8_mean_24 : decode cX8_mean 24 = .ok (.iload_n 3, 1) := by decide +kernel
theorem dX8_mean_25 : decode cX8_mean 25 = .ok (.iload_n 1, 1) := by decide +kernel
theorem dX8_mean_26 : decode cX8_mean 26 = .ok (.invokevirtual 108, 3) := by decide +kernel
theorem dX8_mean_29 : decode cX8_mean 29 = .ok (.iadd, 1) := by decide +kernel
theorem dX8_mean_30 : decode cX8_mean 30 = .ok (.istore_n 2, 1) := by decide +kernel
theorem dX8_mean_31 : decode cX8_mean 31 = .ok (.iinc 3 1, 3) := by decide +kernel
theorem dX8_mean_34 : decode cX8_mean 34 = .ok (.goto (-22), 3) := by decide +kernel
theorem dX8_mean_37 : decode cX8_mean 37 = .ok (.iload_n 2, 1) := by decide +kernel
theorem dX8_mean_38 : decode cX8_mean 38 = .ok (.i2d, 1) := by decide +kernel
theorem dX8_mean_39 : decode cX8_mean 39 = .ok (.ldc2_w 277, 3) := by decide +kernel
theorem dX8_mean_42 : decode cX8_mean 42 = .ok (.ddiv, 1) := by decide +kernel
theorem dX8_mean_43 : decode cX8_mean 43 = .ok (.dreturn, 1) := by decide +kernel
theorem dX8_digest_0 : decode cX8_digest 0 = .ok (.aload_n 0, 1) := by decide +kernel
theorem dX8_digest_1 : decode cX8_digest 1 = .ok (.aload_n 0, 1) := by decide +kernel
theorem dX8_digest_2 : decode cX8_digest 2 = .ok (.ldc2_w 279, 3) := by decide +kernel
theorem dX8_digest_5 : decode cX8_digest 5 = .ok (.invokevirtual 281, 3) := by decide +kernel
theorem dX8_digest_8 : decode cX8_digest 8 = .ok (.invokevirtual 285, 3) := by decide +kernel
theorem dX8_digest_11 : decode cX8_digest 11 = .ok (.lstore_n 1, 1) := by decide +kernel
theorem dX8_digest_12 : decode cX8_digest 12 = .ok (.iconst 0, 1) := by decide +kernel
theorem dX8_digest_13 : decode cX8_digest 13 = .ok (.istore_n 3, 1) := by decide +kernel
theorem dX8_digest_14 : decode cX8_digest 14 = .ok (.iload_n 3, 1) := by decide +kernel
theorem dX8_digest_15 : decode cX8_digest 15 = .ok (.aload_n 0, 1) := by decide +kernel
theorem dX8_digest_16 : decode cX8_digest 16 = .ok (.getfield 19, 3) := by decide +kernel
theorem dX8_digest_19 : decode cX8_digest 19 = .ok (.getfield 127, 3) := by decide +kernel
theorem dX8_digest_22 : decode cX8_digest 22 = .ok (.if_icmp .ge 39, 3) := by decide +kernel
theorem dX8_digest_25 : decode cX8_digest 25 = .ok (.iconst 0, 1) := by decide +kernel
theorem dX8_digest_26 : decode cX8_digest 26 = .ok (.istore 4, 2) := by decide +kernel
theorem dX8_digest_28 : decode cX8_digest 28 = .ok (.iload 4, 2) := by decide +kernel
theorem dX8_digest_30 : decode cX8_digest 30 = .ok (.iconst 5, 1) := by decide +kernel
theorem dX8_digest_31 : decode cX8_digest 31 = .ok (.if_icmp .ge 24, 3) := by decide +kernel
theorem dX8_digest_34 : decode cX8_digest 34 = .ok (.lload_n 1, 1) := by decide +kernel
theorem dX8_digest_35 : decode cX8_digest 35 = .ok (.ldc2_w 288, 3) := by decide +kernel
theorem dX8_digest_38 : decode cX8_digest 38 = .ok (.lmul, 1) := by decide +kernel
theorem dX8_digest_39 : decode cX8_digest 39 = .ok (.aload_n 0, 1) := by decide +kernel
theorem dX8_digest_40 : decode cX8_digest 40 = .ok (.iload_n 3, 1) := by decide +kernel
theorem dX8_digest_41 : decode cX8_digest 41 = .ok (.iload 4, 2) := by decide +kernel
theorem dX8_digest_43 : decode cX8_digest 43 = .ok (.invokevirtual 210, 3) := by decide +kernel
theorem dX8_digest_46 : decode cX8_digest 46 = .ok (.i2l, 1) := by decide +kernel
theorem dX8_digest_47 : decode cX8_digest 47 = .ok (.ladd, 1) := by decide +kernel
theorem dX8_digest_48 : decode cX8_digest 48 = .ok (.lstore_n 1, 1) := by decide +kernel
theorem dX8_digest_49 : decode cX8_digest 49 = .ok (.iinc 4 1, 3) := by decide +kernel
theorem dX8_digest_52 : decode cX8_digest 52 = .ok (.goto (-24), 3) := by decide +kernel
theorem dX8_digest_55 : decode cX8_digest 55 = .ok (.iinc 3 1, 3) := by decide +kernel
theorem dX8_digest_58 : decode cX8_digest 58 = .ok (.goto (-44), 3) := by decide +kernel
theorem dX8_digest_61 : decode cX8_digest 61 = .ok (.iconst 0, 1) := by decide +kernel
theorem dX8_digest_62 : decode cX8_digest 62 = .ok (.istore_n 3, 1) := by decide +kernel
theorem dX8_digest_63 : decode cX8_digest 63 = .ok (.iload_n 3, 1) := by decide +kernel
theorem dX8_digest_64 : decode cX8_digest 64 = .ok (.aload_n 0, 1) := by decide +kernel
theorem dX8_digest_65 : decode cX8_digest 65 = .ok (.getfield 26, 3) := by decide +kernel
theorem dX8_digest_68 : decode cX8_digest 68 = .ok (.getfield 120, 3) := by decide +kernel
theorem dX8_digest_71 : decode cX8_digest 71 = .ok (.if_icmp .ge 40, 3) := by decide +kernel
theorem dX8_digest_74 : decode cX8_digest 74 = .ok (.iconst 0, 1) := by decide +kernel
theorem dX8_digest_75 : decode cX8_digest 75 = .ok (.istore 4, 2) := by decide +kernel
theorem dX8_digest_77 : decode cX8_digest 77 = .ok (.iload 4, 2) := by decide +kernel
theorem dX8_digest_79 : decode cX8_digest 79 = .ok (.bipush 9, 2) := by decide +kernel
theorem dX8_digest_81 : decode cX8_digest 81 = .ok (.if_icmp .ge 24, 3) := by decide +kernel
theorem dX8_digest_84 : decode cX8_digest 84 = .ok (.lload_n 1, 1) := by decide +kernel
theorem dX8_digest_85 : decode cX8_digest 85 = .ok (.ldc2_w 288, 3) := by decide +kernel
theorem dX8_digest_88 : decode cX8_digest 88 = .ok (.lmul, 1) := by decide +kernel
theorem dX8_digest_89 : decode cX8_digest 89 = .ok (.aload_n 0, 1) := by decide +kernel
theorem dX8_digest_90 : decode cX8_digest 90 = .ok (.iload_n 3, 1) := by decide +kernel
theorem dX8_digest_91 : decode cX8_digest 91 = .ok (.iload 4, 2) := by decide +kernel
theorem dX8_digest_93 : decode cX8_digest 93 = .ok (.invokevirtual 151, 3) := by decide +kernel
theorem dX8_digest_96 : decode cX8_digest 96 = .ok (.i2l, 1) := by decide +kernel
theorem dX8_digest_97 : decode cX8_digest 97 = .ok (.ladd, 1) := by decide +kernel
theorem dX8_digest_98 : decode cX8_digest 98 = .ok (.lstore_n 1, 1) := by decide +kernel
theorem dX8_digest_99 : decode cX8_digest 99 = .ok (.iinc 4 1, 3) := by decide +kernel
theorem dX8_digest_102 : decode cX8_digest 102 = .ok (.goto (-25), 3) := by decide +kernel
theorem dX8_digest_105 : decode cX8_digest 105 = .ok (.iinc 3 1, 3) := by decide +kernel
theorem dX8_digest_108 : decode cX8_digest 108 = .ok (.goto (-45), 3) := by decide +kernel
theorem dX8_digest_111 : decode cX8_digest 111 = .ok (.iconst 0, 1) := by decide +kernel
theorem dX8_digest_112 : decode cX8_digest 112 = .ok (.istore_n 3, 1) := by decide +kernel
theorem dX8_digest_113 : decode cX8_digest 113 = .ok (.iload_n 3, 1) := by decide +kernel
theorem dX8_digest_114 : decode cX8_digest 114 = .ok (.aload_n 0, 1) := by decide +kernel
theorem dX8_digest_115 : decode cX8_digest 115 = .ok (.getfield 53, 3) := by decide +kernel
theorem dX8_digest_118 : decode cX8_digest 118 = .ok (.getfield 163, 3) := by decide +kernel
theorem dX8_digest_121 : decode cX8_digest 121 = .ok (.getfield 172, 3) := by decide +kernel
theorem dX8_digest_124 : decode cX8_digest 124 = .ok (.if_icmp .ge 40, 3) := by decide +kernel
theorem dX8_digest_127 : decode cX8_digest 127 = .ok (.iconst 0, 1) := by decide +kernel
theorem dX8_digest_128 : decode cX8_digest 128 = .ok (.istore 4, 2) := by decide +kernel
theorem dX8_digest_130 : decode cX8_digest 130 = .ok (.iload 4, 2) := by decide +kernel
theorem dX8_digest_132 : decode cX8_digest 132 = .ok (.bipush 7, 2) := by decide +kernel
theorem dX8_digest_134 : decode cX8_digest 134 = .ok (.if_icmp .ge 24, 3) := by decide +kernel
theorem dX8_digest_137 : decode cX8_digest 137 = .ok (.lload_n 1, 1) := by decide +kernel
theorem dX8_digest_138 : decode cX8_digest 138 = .ok (.ldc2_w 288, 3) := by decide +kernel
theorem dX8_digest_141 : decode cX8_digest 141 = .ok (.lmul, 1) := by decide +kernel
theorem dX8_digest_142 : decode cX8_digest 142 = .ok (.aload_n 0, 1) := by decide +kernel
theorem dX8_digest_143 : decode cX8_digest 143 = .ok (.iload_n 3, 1) := by decide +kernel
theorem dX8_digest_144 : decode cX8_digest 144 = .ok (.iload 4, 2) := by decide +kernel
theorem dX8_digest_146 : decode cX8_digest 146 = .ok (.invokevirtual 189, 3) := by decide +kernel
theorem dX8_digest_149 : decode cX8_digest 149 = .ok (.i2l, 1) := by decide +kernel
theorem dX8_digest_150 : decode cX8_digest 150 = .ok (.ladd, 1) := by decide +kernel
theorem dX8_digest_151 : decode cX8_digest 151 = .ok (.lstore_n 1, 1) := by decide +kernel
theorem dX8_digest_152 : decode cX8_digest 152 = .ok (.iinc 4 1, 3) := by decide +kernel
theorem dX8_digest_155 : decode cX8_digest 155 = .ok (.goto (-25), 3) := by decide +kernel
theorem dX8_digest_158 : decode cX8_digest 158 = .ok (.iinc 3 1, 3) := by decide +kernel
theorem dX8_digest_161 : decode cX8_digest 161 = .ok (.goto (-48), 3) := by decide +kernel
theorem dX8_digest_164 : decode cX8_digest 164 = .ok (.lload_n 1, 1) := by decide +kernel
theorem dX8_digest_165 : decode cX8_digest 165 = .ok (.lreturn, 1) := by decide +kernel
theorem dX8_digestOfCounts_0 : decode cX8_digestOfCounts 0 = .ok (.lload_n 1, 1) := by decide +kernel
theorem dX8_digestOfCounts_1 : decode cX8_digestOfCounts 1 = .ok (.lstore_n 3, 1) := by decide +kernel
theorem dX8_digestOfCounts_2 : decode cX8_digestOfCounts 2 = .ok (.iconst 0, 1) := by decide +kernel
theorem dX8_digestOfCounts_3 : decode cX8_digestOfCounts 3 = .ok (.istore 5, 2) := by decide +kernel
theorem dX8_digestOfCounts_5 : decode cX8_digestOfCounts 5 = .ok (.iload 5, 2) := by decide +kernel
theorem dX8_digestOfCounts_7 : decode cX8_digestOfCounts 7 = .ok (.bipush 11, 2) := by decide +kernel
theorem dX8_digestOfCounts_9 : decode cX8_digestOfCounts 9 = .ok (.if_icmp .ge 23, 3) := by decide +kernel
theorem dX8_digestOfCounts_12 : decode cX8_digestOfCounts 12 = .ok (.lload_n 3, 1) := by decide +kernel
theorem dX8_digestOfCounts_13 : decode cX8_digestOfCounts 13 = .ok (.ldc2_w 288, 3) := by decide +kernel
theorem dX8_digestOfCounts_16 : decode cX8_digestOfCounts 16 = .ok (.lmul, 1) := by decide +kernel
theorem dX8_digestOfCounts_17 : decode cX8_digestOfCounts 17 = .ok (.aload_n 0, 1) := by decide +kernel
theorem dX8_digestOfCounts_18 : decode cX8_digestOfCounts 18 = .ok (.iload 5, 2) := by decide +kernel
theorem dX8_digestOfCounts_20 : decode cX8_digestOfCounts 20 = .ok (.invokevirtual 225, 3) := by decide +kernel
theorem dX8_digestOfCounts_23 : decode cX8_digestOfCounts 23 = .ok (.i2l, 1) := by decide +kernel
theorem dX8_digestOfCounts_24 : decode cX8_digestOfCounts 24 = .ok (.ladd, 1) := by decide +kernel
theorem dX8_digestOfCounts_25 : decode cX8_digestOfCounts 25 = .ok (.lstore_n 3, 1) := by decide +kernel
theorem dX8_digestOfCounts_26 : decode cX8_digestOfCounts 26 = .ok (.iinc 5 1, 3) := by decide +kernel
theorem dX8_digestOfCounts_29 : decode cX8_digestOfCounts 29 = .ok (.goto (-24), 3) := by decide +kernel
theorem dX8_digestOfCounts_32 : decode cX8_digestOfCounts 32 = .ok (.lload_n 3, 1) := by decide +kernel
theorem dX8_digestOfCounts_33 : decode cX8_digestOfCounts 33 = .ok (.lreturn, 1) := by decide +kernel
theorem dX8_digestOfPlain_0 : decode cX8_digestOfPlain 0 = .ok (.lload_n 1, 1) := by decide +kernel
theorem dX8_digestOfPlain_1 : decode cX8_digestOfPlain 1 = .ok (.lstore_n 3, 1) := by decide +kernel
theorem dX8_digestOfPlain_2 : decode cX8_digestOfPlain 2 = .ok (.iconst 0, 1) := by decide +kernel
theorem dX8_digestOfPlain_3 : decode cX8_digestOfPlain 3 = .ok (.istore 5, 2) := by decide +kernel
theorem dX8_digestOfPlain_5 : decode cX8_digestOfPlain 5 = .ok (.iload 5, 2) := by decide +kernel
theorem dX8_digestOfPlain_7 : decode cX8_digestOfPlain 7 = .ok (.bipush 12, 2) := by decide +kernel
theorem dX8_digestOfPlain_9 : decode cX8_digestOfPlain 9 = .ok (.if_icmp .ge 29, 3) := by decide +kernel
theorem dX8_digestOfPlain_12 : decode cX8_digestOfPlain 12 = .ok (.lload_n 3, 1) := by decide +kernel
theorem dX8_digestOfPlain_13 : decode cX8_digestOfPlain 13 = .ok (.ldc2_w 288, 3) := by decide +kernel
theorem dX8_digestOfPlain_16 : decode cX8_digestOfPlain 16 = .ok (.lmul, 1) := by decide +kernel
theorem dX8_digestOfPlain_17 : decode cX8_digestOfPlain 17 = .ok (.aload_n 0, 1) := by decide +kernel
theorem dX8_digestOfPlain_18 : decode cX8_digestOfPlain 18 = .ok (.getfield 12, 3) := by decide +kernel
theorem dX8_digestOfPlain_21 : decode cX8_digestOfPlain 21 = .ok (.getfield 94, 3) := by decide +kernel
theorem dX8_digestOfPlain_24 : decode cX8_digestOfPlain 24 = .ok (.iload 5, 2) := by decide +kernel
theorem dX8_digestOfPlain_26 : decode cX8_digestOfPlain 26 = .ok (.invokevirtual 104, 3) := by decide +kernel
theorem dX8_digestOfPlain_29 : decode cX8_digestOfPlain 29 = .ok (.i2l, 1) := by decide +kernel
theorem dX8_digestOfPlain_30 : decode cX8_digestOfPlain 30 = .ok (.ladd, 1) := by decide +kernel
theorem dX8_digestOfPlain_31 : decode cX8_digestOfPlain 31 = .ok (.lstore_n 3, 1) := by decide +kernel
theorem dX8_digestOfPlain_32 : decode cX8_digestOfPlain 32 = .ok (.iinc 5 1, 3) := by decide +kernel
theorem dX8_digestOfPlain_35 : decode cX8_digestOfPlain 35 = .ok (.goto (-30), 3) := by decide +kernel
theorem dX8_digestOfPlain_38 : decode cX8_digestOfPlain 38 = .ok (.iconst 0, 1) := by decide +kernel
theorem dX8_digestOfPlain_39 : decode cX8_digestOfPlain 39 = .ok (.istore 5, 2) := by decide +kernel
theorem dX8_digestOfPlain_41 : decode cX8_digestOfPlain 41 = .ok (.iload 5, 2) := by decide +kernel
theorem dX8_digestOfPlain_43 : decode cX8_digestOfPlain 43 = .ok (.sipush 196, 3) := by decide +kernel
theorem dX8_digestOfPlain_46 : decode cX8_digestOfPlain 46 = .ok (.if_icmp .ge 49, 3) := by decide +kernel
theorem dX8_digestOfPlain_49 : decode cX8_digestOfPlain 49 = .ok (.lload_n 3, 1) := by decide +kernel
theorem dX8_digestOfPlain_50 : decode cX8_digestOfPlain 50 = .ok (.ldc2_w 288, 3) := by decide +kernel
theorem dX8_digestOfPlain_53 : decode cX8_digestOfPlain 53 = .ok (.lmul, 1) := by decide +kernel
theorem dX8_digestOfPlain_54 : decode cX8_digestOfPlain 54 = .ok (.aload_n 0, 1) := by decide +kernel
theorem dX8_digestOfPlain_55 : decode cX8_digestOfPlain 55 = .ok (.getfield 12, 3) := by decide +kernel
theorem dX8_digestOfPlain_58 : decode cX8_digestOfPlain 58 = .ok (.getfield 75, 3) := by decide +kernel
theorem dX8_digestOfPlain_61 : decode cX8_digestOfPlain 61 = .ok (.iload 5, 2) := by decide +kernel
theorem dX8_digestOfPlain_63 : decode cX8_digestOfPlain 63 = .ok (.invokevirtual 104, 3) := by decide +kernel
theorem dX8_digestOfPlain_66 : decode cX8_digestOfPlain 66 = .ok (.i2l, 1) := by decide +kernel
theorem dX8_digestOfPlain_67 : decode cX8_digestOfPlain 67 = .ok (.ladd, 1) := by decide +kernel
theorem dX8_digestOfPlain_68 : decode cX8_digestOfPlain 68 = .ok (.lstore_n 3, 1) := by decide +kernel
theorem dX8_digestOfPlain_69 : decode cX8_digestOfPlain 69 = .ok (.lload_n 3, 1) := by decide +kernel
theorem dX8_digestOfPlain_70 : decode cX8_digestOfPlain 70 = .ok (.ldc2_w 288, 3) := by decide +kernel
theorem dX8_digestOfPlain_73 : decode cX8_digestOfPlain 73 = .ok (.lmul, 1) := by decide +kernel
theorem dX8_digestOfPlain_74 : decode cX8_digestOfPlain 74 = .ok (.aload_n 0, 1) := by decide +kernel
theorem dX8_digestOfPlain_75 : decode cX8_digestOfPlain 75 = .ok (.getfield 12, 3) := by decide +kernel
theorem dX8_digestOfPlain_78 : decode cX8_digestOfPlain 78 = .ok (.getfield 97, 3) := by decide +kernel
theorem dX8_digestOfPlain_81 : decode cX8_digestOfPlain 81 = .ok (.iload 5, 2) := by decide +kernel
theorem dX8_digestOfPlain_83 : decode cX8_digestOfPlain 83 = .ok (.invokevirtual 104, 3) := by decide +kernel
theorem dX8_digestOfPlain_86 : decode cX8_digestOfPlain 86 = .ok (.i2l, 1) := by decide +kernel
theorem dX8_digestOfPlain_87 : decode cX8_digestOfPlain 87 = .ok (.ladd, 1) := by decide +kernel
theorem dX8_digestOfPlain_88 : decode cX8_digestOfPlain 88 = .ok (.lstore_n 3, 1) := by decide +kernel
theorem dX8_digestOfPlain_89 : decode cX8_digestOfPlain 89 = .ok (.iinc 5 1, 3) := by decide +kernel
theorem dX8_digestOfPlain_92 : decode cX8_digestOfPlain 92 = .ok (.goto (-51), 3) := by decide +kernel
theorem dX8_digestOfPlain_95 : decode cX8_digestOfPlain 95 = .ok (.lload_n 3, 1) := by decide +kernel
theorem dX8_digestOfPlain_96 : decode cX8_digestOfPlain 96 = .ok (.lreturn, 1) := by decide +kernel
theorem dX8_needIndex_0 : decode cX8_needIndex 0 = .ok (.iload_n 0, 1) := by decide +kernel
theorem dX8_needIndex_1 : decode cX8_needIndex 1 = .ok (.ifCond .ne 14, 3) := by decide +kernel
theorem dX8_needIndex_4 : decode cX8_needIndex 4 = .ok (.new 290, 3) := by decide +kernel
theorem dX8_needIndex_7 : decode cX8_needIndex 7 = .ok (.dup, 1) := by decide +kernel
theorem dX8_needIndex_8 : decode cX8_needIndex 8 = .ok (.ldc_w 292, 3) := by decide +kernel
theorem dX8_needIndex_11 : decode cX8_needIndex 11 = .ok (.invokespecial 294, 3) := by decide +kernel
theorem dX8_needIndex_14 : decode cX8_needIndex 14 = .ok (.athrow, 1) := by decide +kernel
theorem dX8_needIndex_15 : decode cX8_needIndex 15 = .ok (.return_, 1) := by decide +kernel
theorem dX8_needArgument_0 : decode cX8_needArgument 0 = .ok (.iload_n 0, 1) := by decide +kernel
theorem dX8_needArgument_1 : decode cX8_needArgument 1 = .ok (.ifCond .ne 14, 3) := by decide +kernel
theorem dX8_needArgument_4 : decode cX8_needArgument 4 = .ok (.new 297, 3) := by decide +kernel
theorem dX8_needArgument_7 : decode cX8_needArgument 7 = .ok (.dup, 1) := by decide +kernel
theorem dX8_needArgument_8 : decode cX8_needArgument 8 = .ok (.ldc_w 299, 3) := by decide +kernel
theorem dX8_needArgument_11 : decode cX8_needArgument 11 = .ok (.invokespecial 301, 3) := by decide +kernel
theorem dX8_needArgument_14 : decode cX8_needArgument 14 = .ok (.athrow, 1) := by decide +kernel
theorem dX8_needArgument_15 : decode cX8_needArgument 15 = .ok (.return_, 1) := by decide +kernel
theorem dX8_needState_0 : decode cX8_needState 0 = .ok (.iload_n 0, 1) := by decide +kernel
theorem dX8_needState_1 : decode cX8_needState 1 = .ok (.ifCond .ne 14, 3) := by decide +kernel
theorem dX8_needState_4 : decode cX8_needState 4 = .ok (.new 302, 3) := by decide +kernel
theorem dX8_needState_7 : decode cX8_needState 7 = .ok (.dup, 1) := by decide +kernel
theorem dX8_needState_8 : decode cX8_needState 8 = .ok (.ldc_w 304, 3) := by decide +kernel
theorem dX8_needState_11 : decode cX8_needState 11 = .ok (.invokespecial 306, 3) := by decide +kernel
theorem dX8_needState_14 : decode cX8_needState 14 = .ok (.athrow, 1) := by decide +kernel
theorem dX8_needState_15 : decode cX8_needState 15 = .ok (.return_, 1) := by decide +kernel
theorem dX8_within_0 : decode cX8_within 0 = .ok (.iload_n 0, 1) := by decide +kernel
theorem dX8_within_1 : decode cX8_within 1 = .ok (.iload_n 1, 1) := by decide +kernel
theorem dX8_within_2 : decode cX8_within 2 = .ok (.if_icmp .lt 12, 3) := by decide +kernel
theorem dX8_within_5 : decode cX8_within 5 = .ok (.iload_n 0, 1) := by decide +kernel
theorem dX8_within_6 : decode cX8_within 6 = .ok (.iload_n 2, 1) := by decide +kernel
theorem dX8_within_7 : decode cX8_within 7 = .ok (.if_icmp .gt 7, 3) := by decide +kernel
theorem dX8_within_10 : decode cX8_within 10 = .ok (.iconst 1, 1) := by decide +kernel
theorem dX8_within_11 : decode cX8_within 11 = .ok (.goto 4, 3) := by decide +kernel
theorem dX8_within_14 : decode cX8_within 14 = .ok (.iconst 0, 1) := by decide +kernel
theorem dX8_within_15 : decode cX8_within 15 = .ok (.ireturn, 1) := by decide +kernel
theorem dX8_isOneOf_0 : decode cX8_isOneOf 0 = .ok (.iload_n 0, 1) := by decide +kernel
theorem dX8_isOneOf_1 : decode cX8_isOneOf 1 = .ok (.ifCond .lt 12, 3) := by decide +kernel
theorem dX8_isOneOf_4 : decode cX8_isOneOf 4 = .ok (.iload_n 0, 1) := by decide +kernel
theorem dX8_isOneOf_5 : decode cX8_isOneOf 5 = .ok (.iload_n 1, 1) := by decide +kernel
theorem dX8_isOneOf_6 : decode cX8_isOneOf 6 = .ok (.if_icmp .ge 7, 3) := by decide +kernel
theorem dX8_isOneOf_9 : decode cX8_isOneOf 9 = .ok (.iconst 1, 1) := by decide +kernel
theorem dX8_isOneOf_10 : decode cX8_isOneOf 10 = .ok (.goto 4, 3) := by decide +kernel
theorem dX8_isOneOf_13 : decode cX8_isOneOf 13 = .ok (.iconst 0, 1) := by decide +kernel
theorem dX8_isOneOf_14 : decode cX8_isOneOf 14 = .ok (.ireturn, 1) := by decide +kernel
theorem dX8_onPlain_0 : decode cX8_onPlain 0 = .ok (.iload_n 0, 1) := by decide +kernel
theorem dX8_onPlain_1 : decode cX8_onPlain 1 = .ok (.bipush 14, 2) := by decide +kernel
theorem dX8_onPlain_3 : decode cX8_onPlain 3 = .ok (.invokestatic 91, 3) := by decide +kernel
theorem dX8_onPlain_6 : decode cX8_onPlain 6 = .ok (.ifCond .eq 16, 3) := by decide +kernel
theorem dX8_onPlain_9 : decode cX8_onPlain 9 = .ok (.iload_n 1, 1) := by decide +kernel
theorem dX8_onPlain_10 : decode cX8_onPlain 10 = .ok (.bipush 14, 2) := by decide +kernel
theorem dX8_onPlain_12 : decode cX8_onPlain 12 = .ok (.invokestatic 91, 3) := by decide +kernel
theorem dX8_onPlain_15 : decode cX8_onPlain 15 = .ok (.ifCond .eq 7, 3) := by decide +kernel
theorem dX8_onPlain_18 : decode cX8_onPlain 18 = .ok (.iconst 1, 1) := by decide +kernel
theorem dX8_onPlain_19 : decode cX8_onPlain 19 = .ok (.goto 4, 3) := by decide +kernel
theorem dX8_onPlain_22 : decode cX8_onPlain 22 = .ok (.iconst 0, 1) := by decide +kernel
theorem dX8_onPlain_23 : decode cX8_onPlain 23 = .ok (.ireturn, 1) := by decide +kernel
theorem dX8_cellOf_0 : decode cX8_cellOf 0 = .ok (.iload_n 0, 1) := by decide +kernel
theorem dX8_cellOf_1 : decode cX8_cellOf 1 = .ok (.bipush 14, 2) := by decide +kernel
theorem dX8_cellOf_3 : decode cX8_cellOf 3 = .ok (.iload_n 1, 1) := by decide +kernel
theorem dX8_cellOf_4 : decode cX8_cellOf 4 = .ok (.imul, 1) := by decide +kernel
theorem dX8_cellOf_5 : decode cX8_cellOf 5 = .ok (.iadd, 1) := by decide +kernel
theorem dX8_cellOf_6 : decode cX8_cellOf 6 = .ok (.ireturn, 1) := by decide +kernel
theorem dX8_columnOf_0 : decode cX8_columnOf 0 = .ok (.iload_n 0, 1) := by decide +kernel
theorem dX8_columnOf_1 : decode cX8_columnOf 1 = .ok (.bipush 14, 2) := by decide +kernel
theorem dX8_columnOf_3 : decode cX8_columnOf 3 = .ok (.irem, 1) := by decide +kernel
theorem dX8_columnOf_4 : decode cX8_columnOf 4 = .ok (.ireturn, 1) := by decide +kernel
theorem dX8_rowOf_0 : decode cX8_rowOf 0 = .ok (.iload_n 0, 1) := by decide +kernel
theorem dX8_rowOf_1 : decode cX8_rowOf 1 = .ok (.bipush 14, 2) := by decide +kernel
theorem dX8_rowOf_3 : decode cX8_rowOf 3 = .ok (.idiv, 1) := by decide +kernel
theorem dX8_rowOf_4 : decode cX8_rowOf 4 = .ok (.ireturn, 1) := by decide +kernel
theorem dX9_init_0 : decode cX9_init 0 = .ok (.aload_n 0, 1) := by decide +kernel
theorem dX9_init_1 : decode cX9_init 1 = .ok (.invokespecial 1, 3) := by decide +kernel
theorem dX9_init_4 : decode cX9_init 4 = .ok (.aload_n 0, 1) := by decide +kernel
theorem dX9_init_5 : decode cX9_init 5 = .ok (.sipush 196, 3) := by decide +kernel
theorem dX9_init_8 : decode cX9_init 8 = .ok (.newarray .int, 2) := by decide +kernel
theorem dX9_init_10 : decode cX9_init 10 = .ok (.putfield 9, 3) := by decide +kernel
theorem dX9_init_13 : decode cX9_init 13 = .ok (.aload_n 0, 1) := by decide +kernel
theorem dX9_init_14 : decode cX9_init 14 = .ok (.sipush 196, 3) := by decide +kernel
theorem dX9_init_17 : decode cX9_init 17 = .ok (.newarray .int, 2) := by decide +kernel
theorem dX9_init_19 : decode cX9_init 19 = .ok (.putfield 13, 3) := by decide +kernel
theorem dX9_init_22 : decode cX9_init 22 = .ok (.aload_n 0, 1) := by decide +kernel
theorem dX9_init_23 : decode cX9_init 23 = .ok (.bipush 12, 2) := by decide +kernel
theorem dX9_init_25 : decode cX9_init 25 = .ok (.newarray .int, 2) := by decide +kernel
theorem dX9_init_27 : decode cX9_init 27 = .ok (.putfield 16, 3) := by decide +kernel
theorem dX9_init_30 : decode cX9_init 30 = .ok (.aload_n 0, 1) := by decide +kernel
theorem dX9_init_31 : decode cX9_init 31 = .ok (.bipush 8, 2) := by decide +kernel
theorem dX9_init_33 : decode cX9_init 33 = .ok (.newarray .int, 2) := by decide +kernel
theorem dX9_init_35 : decode cX9_init 35 = .ok (.putfield 19, 3) := by decide +kernel
theorem dX9_init_38 : decode cX9_init 38 = .ok (.aload_n 0, 1) := by decide +kernel
theorem dX9_init_39 : decode cX9_init 39 = .ok (.bipush 36, 2) := by decide +kernel
theorem dX9_init_41 : decode cX9_init 41 = .ok (.newarray .int, 2) := by decide +kernel
theorem dX9_init_43 : decode cX9_init 43 = .ok (.putfield 22, 3) := by decide +kernel
theorem dX9_init_46 : decode cX9_init 46 = .ok (.aload_n 0, 1) := by decide +kernel
theorem dX9_init_47 : decode cX9_init 47 = .ok (.bipush 24, 2) := by decide +kernel
theorem dX9_init_49 : decode cX9_init 49 = .ok (.newarray .int, 2) := by decide +kernel
theorem dX9_init_51 : decode cX9_init 51 = .ok (.putfield 25, 3) := by decide +kernel
theorem dX9_init_54 : decode cX9_init 54 = .ok (.aload_n 0, 1) := by decide +kernel
theorem dX9_init_55 : decode cX9_init 55 = .ok (.sipush 150, 3) := by decide +kernel
theorem dX9_init_58 : decode cX9_init 58 = .ok (.newarray .int, 2) := by decide +kernel
theorem dX9_init_60 : decode cX9_init 60 = .ok (.putfield 28, 3) := by decide +kernel
theorem dX9_init_63 : decode cX9_init 63 = .ok (.aload_n 0, 1) := by decide +kernel
theorem dX9_init_64 : decode cX9_init 64 = .ok (.sipush 196, 3) := by decide +kernel
theorem dX9_init_67 : decode cX9_init 67 = .ok (.newarray .int, 2) := by decide +kernel
theorem dX9_init_69 : decode cX9_init 69 = .ok (.putfield 31, 3) := by decide +kernel
theorem dX9_init_72 : decode cX9_init 72 = .ok (.aload_n 0, 1) := by decide +kernel
theorem dX9_init_73 : decode cX9_init 73 = .ok (.bipush 8, 2) := by decide +kernel
theorem dX9_init_75 : decode cX9_init 75 = .ok (.newarray .int, 2) := by decide +kernel
theorem dX9_init_77 : decode cX9_init 77 = .ok (.putfield 34, 3) := by decide +kernel
theorem dX9_init_80 : decode cX9_init 80 = .ok (.aload_n 0, 1) := by decide +kernel
theorem dX9_init_81 : decode cX9_init 81 = .ok (.bipush 8, 2) := by decide +kernel
theorem dX9_init_83 : decode cX9_init 83 = .ok (.newarray .int, 2) := by decide +kernel
theorem dX9_init_85 : decode cX9_init 85 = .ok (.putfield 37, 3) := by decide +kernel
theorem dX9_init_88 : decode cX9_init 88 = .ok (.iconst 0, 1) := by decide +kernel
theorem dX9_init_89 : decode cX9_init 89 = .ok (.istore_n 1, 1) := by decide +kernel
theorem dX9_init_90 : decode cX9_init 90 = .ok (.iload_n 1, 1) := by decide +kernel
theorem dX9_init_91 : decode cX9_init 91 = .ok (.sipush 196, 3) := by decide +kernel
theorem dX9_init_94 : decode cX9_init 94 = .ok (.if_icmp .ge 16, 3) := by decide +kernel
theorem dX9_init_97 : decode cX9_init 97 = .ok (.aload_n 0, 1) := by decide +kernel
theorem dX9_init_98 : decode cX9_init 98 = .ok (.getfield 9, 3) := by decide +kernel
theorem dX9_init_101 : decode cX9_init 101 = .ok (.iload_n 1, 1) := by decide +kernel
theorem dX9_init_102 : decode cX9_init 102 = .ok (.iconst 5, 1) := by decide +kernel
theorem dX9_init_103 : decode cX9_init 103 = .ok (.iastore, 1) := by decide +kernel
theorem dX9_init_104 : decode cX9_init 104 = .ok (.iinc 1 1, 3) := by decide +kernel
theorem dX9_init_107 : decode cX9_init 107 = .ok (.goto (-17), 3) := by decide +kernel
theorem dX9_init_110 : decode cX9_init 110 = .ok (.iconst 0, 1) := by decide +kernel
theorem dX9_init_111 : decode cX9_init 111 = .ok (.istore_n 1, 1) := by decide +kernel
theorem dX9_init_112 : decode cX9_init 112 = .ok (.iload_n 1, 1) := by decide +kernel
theorem dX9_init_113 : decode cX9_init 113 = .ok (.bipush 12, 2) := by decide +kernel
theorem dX9_init_115 : decode cX9_init 115 = .ok (.if_icmp .ge 17, 3) := by decide +kernel
theorem dX9_init_118 : decode cX9_init 118 = .ok (.aload_n 0, 1) := by decide +kernel
theorem dX9_init_119 : decode cX9_init 119 = .ok (.getfield 16, 3) := by decide +kernel
theorem dX9_init_122 : decode cX9_init 122 = .ok (.iload_n 1, 1) := by decide +kernel
theorem dX9_init_123 : decode cX9_init 123 = .ok (.bipush 8, 2) := by decide +kernel
theorem dX9_init_125 : decode cX9_init 125 = .ok (.iastore, 1) := by decide +kernel
theorem dX9_init_126 : decode cX9_init 126 = .ok (.iinc 1 1, 3) := by decide +kernel
theorem dX9_init_129 : decode cX9_init 129 = .ok (.goto (-17), 3) := by decide +kernel
theorem dX9_init_132 : decode cX9_init 132 = .ok (.return_, 1) := by decide +kernel
theorem dX9_thrown_0 : decode cX9_thrown 0 = .ok (.aload_n 0, 1) := by decide +kernel
theorem dX9_thrown_1 : decode cX9_thrown 1 = .ok (.getfield 40, 3) := by decide +kernel
theorem dX9_thrown_4 : decode cX9_thrown 4 = .ok (.ireturn, 1) := by decide +kernel
theorem dX9_fail_0 : decode cX9_fail 0 = .ok (.aload_n 0, 1) := by decide +kernel
theorem dX9_fail_1 : decode cX9_fail 1 = .ok (.iload_n 1, 1) := by decide +kernel
theorem dX9_fail_2 : decode cX9_fail 2 = .ok (.putfield 40, 3) := by decide +kernel
theorem dX9_fail_5 : decode cX9_fail 5 = .ok (.iconst 0, 1) := by decide +kernel
theorem dX9_fail_6 : decode cX9_fail 6 = .ok (.ireturn, 1) := by decide +kernel
theorem dX9_isIn_0 : decode cX9_isIn 0 = .ok (.iload_n 0, 1) := by decide +kernel
theorem dX9_isIn_1 : decode cX9_isIn 1 = .ok (.iload_n 1, 1) := by decide +kernel
theorem dX9_isIn_2 : decode cX9_isIn 2 = .ok (.if_icmp .lt 12, 3) := by decide +kernel
theorem dX9_isIn_5 : decode cX9_isIn 5 = .ok (.iload_n 0, 1) := by decide +kernel
theorem dX9_isIn_6 : decode cX9_isIn 6 = .ok (.iload_n 2, 1) := by decide +kernel
theorem dX9_isIn_7 : decode cX9_isIn 7 = .ok (.if_icmp .gt 7, 3) := by decide +kernel
theorem dX9_isIn_10 : decode cX9_isIn 10 = .ok (.iconst 1, 1) := by decide +kernel
theorem dX9_isIn_11 : decode cX9_isIn 11 = .ok (.goto 4, 3) := by decide +kernel
theorem dX9_isIn_14 : decode cX9_isIn 14 = .ok (.iconst 0, 1) := by decide +kernel
theorem dX9_isIn_15 : decode cX9_isIn 15 = .ok (.ireturn, 1) := by decide +kernel
theorem dX9_isCell_0 : decode cX9_isCell 0 = .ok (.iload_n 0, 1) := by decide +kernel
theorem dX9_isCell_1 : decode cX9_isCell 1 = .ok (.iconst 0, 1) := by decide +kernel
theorem dX9_isCell_2 : decode cX9_isCell 2 = .ok (.bipush 13, 2) := by decide +kernel
theorem dX9_isCell_4 : decode cX9_isCell 4 = .ok (.invokestatic 44, 3) := by decide +kernel
theorem dX9_isCell_7 : decode cX9_isCell 7 = .ok (.ifCond .eq 17, 3) := by decide +kernel
theorem dX9_isCell_10 : decode cX9_isCell 10 = .ok (.iload_n 1, 1) := by decide +kernel
theorem dX9_isCell_11 : decode cX9_isCell 11 = .ok (.iconst 0, 1) := by decide +kernel
theorem dX9_isCell_12 : decode cX9_isCell 12 = .ok (.bipush 13, 2) := by decide +kernel
theorem dX9_isCell_14 : decode cX9_isCell 14 = .ok (.invokestatic 44, 3) := by decide +kernel
theorem dX9_isCell_17 : decode cX9_isCell 17 = .ok (.ifCond .eq 7, 3) := by decide +kernel
theorem dX9_isCell_20 : decode cX9_isCell 20 = .ok (.iconst 1, 1) := by decide +kernel
theorem dX9_isCell_21 : decode cX9_isCell 21 = .ok (.goto 4, 3) := by decide +kernel
theorem dX9_isCell_24 : decode cX9_isCell 24 = .ok (.iconst 0, 1) := by decide +kernel
theorem dX9_isCell_25 : decode cX9_isCell 25 = .ok (.ireturn, 1) := by decide +kernel
theorem dX9_isLanding_0 : decode cX9_isLanding 0 = .ok (.iload_n 1, 1) := by decide +kernel
theorem dX9_isLanding_1 : decode cX9_isLanding 1 = .ok (.iconst 0, 1) := by decide +kernel
theorem dX9_isLanding_2 : decode cX9_isLanding 2 = .ok (.aload_n 0, 1) := by decide +kernel
theorem dX9_isLanding_3 : decode cX9_isLanding 3 = .ok (.getfield 48, 3) := by decide +kernel
theorem dX9_isLanding_6 : decode cX9_isLanding 6 = .ok (.iconst 1, 1) := by decide +kernel
theorem dX9_isLanding_7 : decode cX9_isLanding 7 = .ok (.isub, 1) := by decide +kernel
theorem dX9_isLanding_8 : decode cX9_isLanding 8 = .ok (.invokestatic 44, 3) := by decide +kernel
theorem dX9_isLanding_11 : decode cX9_isLanding 11 = .ok (.ireturn, 1) := by decide +kernel
theorem dX9_isPunt_0 : decode cX9_isPunt 0 = .ok (.iload_n 1, 1) := by decide +kernel
theorem dX9_isPunt_1 : decode cX9_isPunt 1 = .ok (.iconst 0, 1) := by decide +kernel
theorem dX9_isPunt_2 : decode cX9_isPunt 2 = .ok (.aload_n 0, 1) := by decide +kernel
theorem dX9_isPunt_3 : decode cX9_isPunt 3 = .ok (.getfield 51, 3) := by decide +kernel
theorem dX9_isPunt_6 : decode cX9_isPunt 6 = .ok (.iconst 1, 1) := by decide +kernel
theorem dX9_isPunt_7 : decode cX9_isPunt 7 = .ok (.isub, 1) := by decide +kernel
theorem dX9_isPunt_8 : decode cX9_isPunt 8 = .ok (.invokestatic 44, 3) := by decide +kernel
theorem dX9_isPunt_11 : decode cX9_isPunt 11 = .ok (.ireturn, 1) := by decide +kernel
theorem dX9_pu_0 : decode cX9_pu 0 = .ok (.aload_n 0, 1) := by decide +kernel
theorem dX9_pu_1 : decode cX9_pu 1 = .ok (.getfield 22, 3) := by decide +kernel
theorem dX9_pu_4 : decode cX9_pu 4 = .ok (.bipush 6, 2) := by decide +kernel
theorem dX9_pu_6 : decode cX9_pu 6 = .ok (.iload_n 1, 1) := by decide +kernel
theorem dX9_pu_7 : decode cX9_pu 7 = .ok (.imul, 1) := by decide +kernel
theorem dX9_pu_8 : decode cX9_pu 8 = .ok (.iload_n 2, 1) := by decide +kernel
theorem dX9_pu_9 : decode cX9_pu 9 = .ok (.iadd, 1) := by decide +kernel
theorem dX9_pu_10 : decode cX9_pu 10 = .ok (.iaload, 1) := by decide +kernel
theorem dX9_pu_11 : decode cX9_pu 11 = .ok (.ireturn, 1) := by decide +kernel
theorem dX9_go_0 : decode cX9_go 0 = .ok (.aload_n 0, 1) := by decide +kernel
theorem dX9_go_1 : decode cX9_go 1 = .ok (.getfield 25, 3) := by decide +kernel
theorem dX9_go_4 : decode cX9_go 4 = .ok (.iconst 4, 1) := by decide +kernel
theorem dX9_go_5 : decode cX9_go 5 = .ok (.iload_n 1, 1) := by decide +kernel
theorem dX9_go_6 : decode cX9_go 6 = .ok (.imul, 1) := by decide +kernel
theorem dX9_go_7 : decode cX9_go 7 = .ok (.iload_n 2, 1) := by decide +kernel
theorem dX9_go_8 : decode cX9_go 8 = .ok (.iadd, 1) := by decide +kernel
theorem dX9_go_9 : decode cX9_go 9 = .ok (.iaload, 1) := by decide +kernel
theorem dX9_go_10 : decode cX9_go 10 = .ok (.ireturn, 1) := by decide +kernel
theorem dX9_setGo_0 : decode cX9_setGo 0 = .ok (.aload_n 0, 1) := by decide +kernel
theorem dX9_setGo_1 : decode cX9_setGo 1 = .ok (.getfield 25, 3) := by decide +kernel
theorem dX9_setGo_4 : decode cX9_setGo 4 = .ok (.iconst 4, 1) := by decide +kernel
theorem dX9_setGo_5 : decode cX9_setGo 5 = .ok (.iload_n 1, 1) := by decide +kernel
theorem dX9_setGo_6 : decode cX9_setGo 6 = .ok (.imul, 1) := by decide +kernel
theorem dX9_setGo_7 : decode cX9_setGo 7 = .ok (.iload_n 2, 1) := by decide +kernel
theorem dX9_setGo_8 : decode cX9_setGo 8 = .ok (.iadd, 1) := by decide +kernel
theorem dX9_setGo_9 : decode cX9_setGo 9 = .ok (.iload_n 3, 1) := by decide +kernel
theorem dX9_setGo_10 : decode cX9_setGo 10 = .ok (.iastore, 1) := by decide +kernel
theorem dX9_setGo_11 : decode cX9_setGo 11 = .ok (.return_, 1) := by decide +kernel
theorem dX9_who_0 : decode cX9_who 0 = .ok (.aload_n 0, 1) := by decide +kernel
theorem dX9_who_1 : decode cX9_who 1 = .ok (.getfield 28, 3) := by decide +kernel
theorem dX9_who_4 : decode cX9_who 4 = .ok (.iconst 5, 1) := by decide +kernel
theorem dX9_who_5 : decode cX9_who 5 = .ok (.iload_n 1, 1) := by decide +kernel
theorem dX9_who_6 : decode cX9_who 6 = .ok (.imul, 1) := by decide +kernel
theorem dX9_who_7 : decode cX9_who 7 = .ok (.iload_n 2, 1) := by decide +kernel
theorem dX9_who_8 : decode cX9_who 8 = .ok (.iadd, 1) := by decide +kernel
theorem dX9_who_9 : decode cX9_who 9 = .ok (.iaload, 1) := by decide +kernel
theorem dX9_who_10 : decode cX9_who 10 = .ok (.ireturn, 1) := by decide +kernel
theorem dX9_setWho_0 : decode cX9_setWho 0 = .ok (.aload_n 0, 1) := by decide +kernel
theorem dX9_setWho_1 : decode cX9_setWho 1 = .ok (.getfield 28, 3) := by decide +kernel
theorem dX9_setWho_4 : decode cX9_setWho 4 = .ok (.iconst 5, 1) := by decide +kernel
theorem dX9_setWho_5 : decode cX9_setWho 5 = .ok (.iload_n 1, 1) := by decide +kernel
theorem dX9_setWho_6 : decode cX9_setWho 6 = .ok (.imul, 1) := by decide +kernel
theorem dX9_setWho_7 : decode cX9_setWho 7 = .ok (.iload_n 2, 1) := by decide +kernel
theorem dX9_setWho_8 : decode cX9_setWho 8 = .ok (.iadd, 1) := by decide +kernel
theorem dX9_setWho_9 : decode cX9_setWho 9 = .ok (.iload_n 3, 1) := by decide +kernel
theorem dX9_setWho_10 : decode cX9_setWho 10 = .ok (.iastore, 1) := by decide +kernel
theorem dX9_setWho_11 : decode cX9_setWho 11 = .ok (.return_, 1) := by decide +kernel
theorem dX9_level_0 : decode cX9_level 0 = .ok (.aload_n 0, 1) := by decide +kernel
theorem dX9_level_1 : decode cX9_level 1 = .ok (.getfield 16, 3) := by decide +kernel
theorem dX9_level_4 : decode cX9_level 4 = .ok (.aload_n 0, 1) := by decide +kernel
theorem dX9_level_5 : decode cX9_level 5 = .ok (.getfield 54, 3) := by decide +kernel
theorem dX9_level_8 : decode cX9_level 8 = .ok (.bipush 12, 2) := by decide +kernel
theorem dX9_level_10 : decode cX9_level 10 = .ok (.irem, 1) := by decide +kernel
theorem dX9_level_11 : decode cX9_level 11 = .ok (.iaload, 1) := by decide +kernel
theorem dX9_level_12 : decode cX9_level 12 = .ok (.ireturn, 1) := by decide +kernel
theorem dX9_depth_0 : decode cX9_depth 0 = .ok (.iconst 0, 1) := by decide +kernel
theorem dX9_depth_1 : decode cX9_depth 1 = .ok (.iload_n 2, 1) := by decide +kernel
theorem dX9_depth_2 : decode cX9_depth 2 = .ok (.aload_n 0, 1) := by decide +kernel
theorem dX9_depth_3 : decode cX9_depth 3 = .ok (.getfield 9, 3) := by decide +kernel
theorem dX9_depth_6 : decode cX9_depth 6 = .ok (.iload_n 1, 1) := by decide +kernel
theorem dX9_depth_7 : decode cX9_depth 7 = .ok (.iaload, 1) := by decide +kernel
theorem dX9_depth_8 : decode cX9_depth 8 = .ok (.isub, 1) := by decide +kernel
theorem dX9_depth_9 : decode cX9_depth 9 = .ok (.invokestatic 57, 3) := by decide +kernel
theorem dX9_depth_12 : decode cX9_depth 12 = .ok (.ireturn, 1) := by decide +kernel
theorem dX9_floats_0 : decode cX9_floats 0 = .ok (.aload_n 0, 1) := by decide +kernel
theorem dX9_floats_1 : decode cX9_floats 1 = .ok (.iload_n 2, 1) := by decide +kernel
theorem dX9_floats_2 : decode cX9_floats 2 = .ok (.iload_n 3, 1) := by decide +kernel
theorem dX9_floats_3 : decode cX9_floats 3 = .ok (.invokevirtual 63, 3) := by decide +kernel
theorem dX9_floats_6 : decode cX9_floats 6 = .ok (.aload_n 0, 1) := by decide +kernel
theorem dX9_floats_7 : decode cX9_floats 7 = .ok (.iload_n 1, 1) := by decide +kernel
theorem dX9_floats_8 : decode cX9_floats 8 = .ok (.iconst 2, 1) := by decide +kernel
theorem dX9_floats_9 : decode cX9_floats 9 = .ok (.invokevirtual 66, 3) := by decide +kernel
theorem dX9_floats_12 : decode cX9_floats 12 = .ok (.aload_n 0, 1) := by decide +kernel
theorem dX9_floats_13 : decode cX9_floats 13 = .ok (.iload_n 1, 1) := by decide +kernel
theorem dX9_floats_14 : decode cX9_floats 14 = .ok (.iconst 3, 1) := by decide +kernel
theorem dX9_floats_15 : decode cX9_floats 15 = .ok (.invokevirtual 66, 3) := by decide +kernel
theorem dX9_floats_18 : decode cX9_floats 18 = .ok (.invokestatic 44, 3) := by decide +kernel
theorem dX9_floats_21 : decode cX9_floats 21 = .ok (.ireturn, 1) := by decide +kernel
theorem dX9_beside_0 : decode cX9_beside 0 = .ok (.iload_n 1, 1) := by decide +kernel
theorem dX9_beside_1 : decode cX9_beside 1 = .ok (.tableswitch 74 0 2 #[27, 42, 57], 27) := by decide +kernel
theorem dX9_beside_28 : decode cX9_beside 28 = .ok (.iload_n 0, 1) := by decide +kernel
theorem dX9_beside_29 : decode cX9_beside 29 = .ok (.bipush 14, 2) := by decide +kernel
theorem dX9_beside_31 : decode cX9_beside 31 = .ok (.if_icmp .ge 7, 3) := by decide +kernel
theorem dX9_beside_34 : decode cX9_beside 34 = .ok (.iconst (-1), 1) := by decide +kernel
theorem dX9_beside_35 : decode cX9_beside 35 = .ok (.goto 7, 3) := by decide +kernel
theorem dX9_beside_38 : decode cX9_beside 38 = .ok (.iload_n 0, 1) := by decide +kernel
theorem dX9_beside_39 : decode cX9_beside 39 = .ok (.bipush 14, 2) := by decide +kernel
theorem dX9_beside_41 : decode cX9_beside 41 = .ok (.isub, 1) := by decide +kernel
theorem dX9_beside_42 : decode cX9_beside 42 = .ok (.ireturn, 1) := by decide +kernel
theorem dX9_beside_43 : decode cX9_beside 43 = .ok (.iload_n 0, 1) := by decide +kernel
theorem dX9_beside_44 : decode cX9_beside 44 = .ok (.bipush 14, 2) := by decide +kernel
theorem dX9_beside_46 : decode cX9_beside 46 = .ok (.irem, 1) := by decide +kernel
theorem dX9_beside_47 : decode cX9_beside 47 = .ok (.ifCond .ne 7, 3) := by decide +kernel
theorem dX9_beside_50 : decode cX9_beside 50 = .ok (.iconst (-1), 1) := by decide +kernel
theorem dX9_beside_51 : decode cX9_beside 51 = .ok (.goto 6, 3) := by decide +kernel
theorem dX9_beside_54 : decode cX9_beside 54 = .ok (.iload_n 0, 1) := by decide +kernel
theorem dX9_beside_55 : decode cX9_beside 55 = .ok (.iconst 1, 1) := by decide +kernel
theorem dX9_beside_56 : decode cX9_beside 56 = .ok (.isub, 1) := by decide +kernel
theorem dX9_beside_57 : decode cX9_beside 57 = .ok (.ireturn, 1) := by decide +kernel
theorem dX9_beside_58 : decode cX9_beside 58 = .ok (.iload_n 0, 1) := by decide +kernel
theorem dX9_beside_59 : decode cX9_beside 59 = .ok (.bipush 14, 2) := by decide +kernel
theorem dX9_beside_61 : decode cX9_beside 61 = .ok (.irem, 1) := by decide +kernel
theorem dX9_beside_62 : decode cX9_beside 62 = .ok (.bipush 13, 2) := by decide +kernel
theorem dX9_beside_64 : decode cX9_beside 64 = .ok (.if_icmp .ne 7, 3) := by decide +kernel
theorem dX9_beside_67 : decode cX9_beside 67 = .ok (.iconst (-1), 1) := by decide +kernel
theorem dX9_beside_68 : decode cX9_beside 68 = .ok (.goto 6, 3) := by decide +kernel
theorem dX9_beside_71 : decode cX9_beside 71 = .ok (.iload_n 0, 1) := by decide +kernel
theorem dX9_beside_72 : decode cX9_beside 72 = .ok (.iconst 1, 1) := by decide +kernel
theorem dX9_beside_73 : decode cX9_beside 73 = .ok (.iadd, 1) := by decide +kernel
theorem dX9_beside_74 : decode cX9_beside 74 = .ok (.ireturn, 1) := by decide +kernel
theorem dX9_beside_75 : decode cX9_beside 75 = .ok (.iload_n 0, 1) := by decide +kernel
theorem dX9_beside_76 : decode cX9_beside 76 = .ok (.sipush 182, 3) := by decide +kernel
theorem dX9_beside_79 : decode cX9_beside 79 = .ok (.if_icmp .lt 7, 3) := by decide +kernel
theorem dX9_beside_82 : decode cX9_beside 82 = .ok (.iconst (-1), 1) := by decide +kernel
theorem dX9_beside_83 : decode cX9_beside 83 = .ok (.goto 7, 3) := by decide +kernel
theorem dX9_beside_86 : decode cX9_beside 86 = .ok (.iload_n 0, 1) := by decide +kernel
theorem dX9_beside_87 : decode cX9_beside 87 = .ok (.bipush 14, 2) := by decide +kernel
theorem dX9_beside_89 : decode cX9_beside 89 = .ok (.iadd, 1) := by decide +kernel
theorem dX9_beside_90 : decode cX9_beside 90 = .ok (.ireturn, 1) := by decide +kernel
theorem dX9_setGround_0 : decode cX9_setGround 0 = .ok (.aload_n 0, 1) := by decide +kernel
theorem dX9_setGround_1 : decode cX9_setGround 1 = .ok (.iconst 0, 1) := by decide +kernel
theorem dX9_setGround_2 : decode cX9_setGround 2 = .ok (.putfield 40, 3) := by decide +kernel
theorem dX9_setGround_5 : decode cX9_setGround 5 = .ok (.iload_n 1, 1) := by decide +kernel
theorem dX9_setGround_6 : decode cX9_setGround 6 = .ok (.iload_n 2, 1) := by decide +kernel
theorem dX9_setGround_7 : decode cX9_setGround 7 = .ok (.invokestatic 69, 3) := by decide +kernel
theorem dX9_setGround_10 : decode cX9_setGround 10 = .ok (.ifCond .ne 9, 3) := by decide +kernel
theorem dX9_setGround_13 : decode cX9_setGround 13 = .ok (.aload_n 0, 1) := by decide +kernel
theorem dX9_setGround_14 : decode cX9_setGround 14 = .ok (.iconst 1, 1) := by decide +kernel
theorem dX9_setGround_15 : decode cX9_setGround 15 = .ok (.invokevirtual 73, 3) := by decide +kernel
theorem dX9_setGround_18 : decode cX9_setGround 18 = .ok (.ireturn, 1) := by decide +kernel
theorem dX9_setGround_19 : decode cX9_setGround 19 = .ok (.iload_n 3, 1) := by decide +kernel
theorem dX9_setGround_20 : decode cX9_setGround 20 = .ok (.iconst 0, 1) := by decide +kernel
theorem dX9_setGround_21 : decode cX9_setGround 21 = .ok (.bipush 20, 2) := by decide +kernel
theorem dX9_setGround_23 : decode cX9_setGround 23 = .ok (.invokestatic 44, 3) := by decide +kernel
theorem dX9_setGround_26 : decode cX9_setGround 26 = .ok (.ifCond .ne 9, 3) := by decide +kernel
theorem dX9_setGround_29 : decode cX9_setGround 29 = .ok (.aload_n 0, 1) := by decide +kernel
theorem dX9_setGround_30 : decode cX9_setGround 30 = .ok (.iconst 2, 1) := by decide +kernel
theorem dX9_setGround_31 : decode cX9_setGround 31 = .ok (.invokevirtual 73, 3) := by decide +kernel
theorem dX9_setGround_34 : decode cX9_setGround 34 = .ok (.ireturn, 1) := by decide +kernel
theorem dX9_setGround_35 : decode cX9_setGround 35 = .ok (.aload_n 0, 1) := by decide +kernel
theorem dX9_setGround_36 : decode cX9_setGround 36 = .ok (.getfield 9, 3) := by decide +kernel
theorem dX9_setGround_39 : decode cX9_setGround 39 = .ok (.iload_n 1, 1) := by decide +kernel
theorem dX9_setGround_40 : decode cX9_setGround 40 = .ok (.bipush 14, 2) := by decide +kernel
theorem dX9_setGround_42 : decode cX9_setGround 42 = .ok (.iload_n 2, 1) := by decide +kernel
theorem dX9_setGround_43 : decode cX9_setGround 43 = .ok (.imul, 1) := by decide +kernel
theorem dX9_setGround_44 : decode cX9_setGround 44 = .ok (.iadd, 1) := by decide +kernel
theorem dX9_setGround_45 : decode cX9_setGround 45 = .ok (.iaload, 1) := by decide +kernel
theorem dX9_setGround_46 : decode cX9_setGround 46 = .ok (.istore 4, 2) := by decide +kernel
theorem dX9_setGround_48 : decode cX9_setGround 48 = .ok (.aload_n 0, 1) := by decide +kernel
theorem dX9_setGround_49 : decode cX9_setGround 49 = .ok (.getfield 9, 3) := by decide +kernel
theorem dX9_setGround_52 : decode cX9_setGround 52 = .ok (.iload_n 1, 1) := by decide +kernel
theorem dX9_setGround_53 : decode cX9_setGround 53 = .ok (.bipush 14, 2) := by decide +kernel
theorem dX9_setGround_55 : decode cX9_setGround 55 = .ok (.iload_n 2, 1) := by decide +kernel
theorem dX9_setGround_56 : decode cX9_setGround 56 = .ok (.imul, 1) := by decide +kernel
theorem dX9_setGround_57 : decode cX9_setGround 57 = .ok (.iadd, 1) := by decide +kernel
theorem dX9_setGround_58 : decode cX9_setGround 58 = .ok (.iload_n 3, 1) := by decide +kernel
theorem dX9_setGround_59 : decode cX9_setGround 59 = .ok (.iastore, 1) := by decide +kernel
theorem dX9_setGround_60 : decode cX9_setGround 60 = .ok (.iload 4, 2) := by decide +kernel
theorem dX9_setGround_62 : decode cX9_setGround 62 = .ok (.ireturn, 1) := by decide +kernel
theorem dX9_setWater_0 : decode cX9_setWater 0 = .ok (.aload_n 0, 1) := by decide +kernel
theorem dX9_setWater_1 : decode cX9_setWater 1 = .ok (.iconst 0, 1) := by decide +kernel
theorem dX9_setWater_2 : decode cX9_setWater 2 = .ok (.putfield 40, 3) := by decide +kernel
theorem dX9_setWater_5 : decode cX9_setWater 5 = .ok (.iload_n 1, 1) := by decide +kernel
theorem dX9_setWater_6 : decode cX9_setWater 6 = .ok (.iconst 0, 1) := by decide +kernel
theorem dX9_setWater_7 : decode cX9_setWater 7 = .ok (.bipush 11, 2) := by decide +kernel
theorem dX9_setWater_9 : decode cX9_setWater 9 = .ok (.invokestatic 44, 3) := by decide +kernel
theorem dX9_setWater_12 : decode cX9_setWater 12 = .ok (.ifCond .ne 9, 3) := by decide +kernel
theorem dX9_setWater_15 : decode cX9_setWater 15 = .ok (.aload_n 0, 1) := by decide +kernel
theorem dX9_setWater_16 : decode cX9_setWater 16 = .ok (.iconst 1, 1) := by decide +kernel
theorem dX9_setWater_17 : decode cX9_setWater 17 = .ok (.invokevirtual 73, 3) := by decide +kernel
theorem dX9_setWater_20 : decode cX9_setWater 20 = .ok (.ireturn, 1) := by decide +kernel
theorem dX9_setWater_21 : decode cX9_setWater 21 = .ok (.iload_n 2, 1) := by decide +kernel
theorem dX9_setWater_22 : decode cX9_setWater 22 = .ok (.iconst 0, 1) := by decide +kernel
theorem dX9_setWater_23 : decode cX9_setWater 23 = .ok (.bipush 24, 2) := by decide +kernel
theorem dX9_setWater_25 : decode cX9_setWater 25 = .ok (.invokestatic 44, 3) := by decide +kernel
theorem dX9_setWater_28 : decode cX9_setWater 28 = .ok (.ifCond .ne 9, 3) := by decide +kernel
theorem dX9_setWater_31 : decode cX9_setWater 31 = .ok (.aload_n 0, 1) := by decide +kernel
theorem dX9_setWater_32 : decode cX9_setWater 32 = .ok (.iconst 2, 1) := by decide +kernel
theorem dX9_setWater_33 : decode cX9_setWater 33 = .ok (.invokevirtual 73, 3) := by decide +kernel
theorem dX9_setWater_36 : decode cX9_setWater 36 = .ok (.ireturn, 1) := by decide +kernel
theorem dX9_setWater_37 : decode cX9_setWater 37 = .ok (.aload_n 0, 1) := by decide +kernel
theorem dX9_setWater_38 : decode cX9_setWater 38 = .ok (.getfield 16, 3) := by decide +kernel
theorem dX9_setWater_41 : decode cX9_setWater 41 = .ok (.iload_n 1, 1) := by decide +kernel
theorem dX9_setWater_42 : decode cX9_setWater 42 = .ok (.iaload, 1) := by decide +kernel
theorem dX9_setWater_43 : decode cX9_setWater 43 = .ok (.istore_n 3, 1) := by decide +kernel
theorem dX9_setWater_44 : decode cX9_setWater 44 = .ok (.aload_n 0, 1) := by decide +kernel
theorem dX9_setWater_45 : decode cX9_setWater 45 = .ok (.getfield 16, 3) := by decide +kernel
theorem dX9_setWater_48 : decode cX9_setWater 48 = .ok (.iload_n 1, 1) := by decide +kernel
theorem dX9_setWater_49 : decode cX9_setWater 49 = .ok (.iload_n 2, 1) := by decide +kernel
theorem dX9_setWater_50 : decode cX9_setWater 50 = .ok (.iastore, 1) := by decide +kernel
theorem dX9_setWater_51 : decode cX9_setWater 51 = .ok (.iload_n 3, 1) := by decide +kernel
theorem dX9_setWater_52 : decode cX9_setWater 52 = .ok (.ireturn, 1) := by decide +kernel
theorem dX9_setStake_0 : decode cX9_setStake 0 = .ok (.aload_n 0, 1) := by decide +kernel
theorem dX9_setStake_1 : decode cX9_setStake 1 = .ok (.iconst 0, 1) := by decide +kernel
theorem dX9_setStake_2 : decode cX9_setStake 2 = .ok (.putfield 40, 3) := by decide +kernel
theorem dX9_setStake_5 : decode cX9_setStake 5 = .ok (.iload_n 1, 1) := by decide +kernel
theorem dX9_setStake_6 : decode cX9_setStake 6 = .ok (.iload_n 2, 1) := by decide +kernel
theorem dX9_setStake_7 : decode cX9_setStake 7 = .ok (.invokestatic 69, 3) := by decide +kernel
theorem dX9_setStake_10 : decode cX9_setStake 10 = .ok (.ifCond .ne 9, 3) := by decide +kernel
theorem dX9_setStake_13 : decode cX9_setStake 13 = .ok (.aload_n 0, 1) := by decide +kernel
theorem dX9_setStake_14 : decode cX9_setStake 14 = .ok (.iconst 1, 1) := by decide +kernel
theorem dX9_setStake_15 : decode cX9_setStake 15 = .ok (.invokevirtual 73, 3) := by decide +kernel
theorem dX9_setStake_18 : decode cX9_setStake 18 = .ok (.ireturn, 1) := by decide +kernel
theorem dX9_setStake_19 : decode cX9_setStake 19 = .ok (.iload_n 3, 1) := by decide +kernel
theorem dX9_setStake_20 : decode cX9_setStake 20 = .ok (.iconst 0, 1) := by decide +kernel
theorem dX9_setStake_21 : decode cX9_setStake 21 = .ok (.bipush 9, 2) := by decide +kernel
theorem dX9_setStake_23 : decode cX9_setStake 23 = .ok (.invokestatic 44, 3) := by decide +kernel
theorem dX9_setStake_26 : decode cX9_setStake 26 = .ok (.ifCond .ne 9, 3) := by decide +kernel
theorem dX9_setStake_29 : decode cX9_setStake 29 = .ok (.aload_n 0, 1) := by decide +kernel
theorem dX9_setStake_30 : decode cX9_setStake 30 = .ok (.iconst 2, 1) := by decide +kernel
theorem dX9_setStake_31 : decode cX9_setStake 31 = .ok (.invokevirtual 73, 3) := by decide +kernel
theorem dX9_setStake_34 : decode cX9_setStake 34 = .ok (.ireturn, 1) := by decide +kernel
theorem dX9_setStake_35 : decode cX9_setStake 35 = .ok (.aload_n 0, 1) := by decide +kernel
theorem dX9_setStake_36 : decode cX9_setStake 36 = .ok (.getfield 13, 3) := by decide +kernel
theorem dX9_setStake_39 : decode cX9_setStake 39 = .ok (.iload_n 1, 1) := by decide +kernel
theorem dX9_setStake_40 : decode cX9_setStake 40 = .ok (.bipush 14, 2) := by decide +kernel
theorem dX9_setStake_42 : decode cX9_setStake 42 = .ok (.iload_n 2, 1) := by decide +kernel
theorem dX9_setStake_43 : decode cX9_setStake 43 = .ok (.imul, 1) := by decide +kernel
theorem dX9_setStake_44 : decode cX9_setStake 44 = .ok (.iadd, 1) := by decide +kernel
theorem dX9_setStake_45 : decode cX9_setStake 45 = .ok (.iaload, 1) := by decide +kernel
theorem dX9_setStake_46 : decode cX9_setStake 46 = .ok (.istore 4, 2) := by decide +kernel
theorem dX9_setStake_48 : decode cX9_setStake 48 = .ok (.aload_n 0, 1) := by decide +kernel
theorem dX9_setStake_49 : decode cX9_setStake 49 = .ok (.getfield 13, 3) := by decide +kernel
theorem dX9_setStake_52 : decode cX9_setStake 52 = .ok (.iload_n 1, 1) := by decide +kernel
theorem dX9_setStake_53 : decode cX9_setStake 53 = .ok (.bipush 14, 2) := by decide +kernel
theorem dX9_setStake_55 : decode cX9_setStake 55 = .ok (.iload_n 2, 1) := by decide +kernel
theorem dX9_setStake_56 : decode cX9_setStake 56 = .ok (.imul, 1) := by decide +kernel
theorem dX9_setStake_57 : decode cX9_setStake 57 = .ok (.iadd, 1) := by decide +kernel
theorem dX9_setStake_58 : decode cX9_setStake 58 = .ok (.iload_n 3, 1) := by decide +kernel
theorem dX9_setStake_59 : decode cX9_setStake 59 = .ok (.iastore, 1) := by decide +kernel
theorem dX9_setStake_60 : decode cX9_setStake 60 = .ok (.iload 4, 2) := by decide +kernel
theorem dX9_setStake_62 : decode cX9_setStake 62 = .ok (.ireturn, 1) := by decide +kernel
theorem dX9_landingAt_0 : decode cX9_landingAt 0 = .ok (.iconst 0, 1) := by decide +kernel
theorem dX9_landingAt_1 : decode cX9_landingAt 1 = .ok (.istore_n 2, 1) := by decide +kernel
theorem dX9_landingAt_2 : decode cX9_landingAt 2 = .ok (.iload_n 2, 1) := by decide +kernel
theorem dX9_landingAt_3 : decode cX9_landingAt 3 = .ok (.aload_n 0, 1) := by decide +kernel
theorem dX9_landingAt_4 : decode cX9_landingAt 4 = .ok (.getfield 48, 3) := by decide +kernel
theorem dX9_landingAt_7 : decode cX9_landingAt 7 = .ok (.if_icmp .ge 21, 3) := by decide +kernel
theorem dX9_landingAt_10 : decode cX9_landingAt 10 = .ok (.aload_n 0, 1) := by decide +kernel
theorem dX9_landingAt_11 : decode cX9_landingAt 11 = .ok (.getfield 19, 3) := by decide +kernel
theorem dX9_landingAt_14 : decode cX9_landingAt 14 = .ok (.iload_n 2, 1) := by decide +kernel
theorem dX9_landingAt_15 : decode cX9_landingAt 15 = .ok (.iaload, 1) := by decide +kernel
theorem dX9_landingAt_16 : decode cX9_landingAt 16 = .ok (.iload_n 1, 1) := by decide +kernel
theorem dX9_landingAt_17 : decode cX9_landingAt 17 = .ok (.if_icmp .ne 5, 3) := by decide +kernel
theorem dX9_landingAt_20 : decode cX9_landingAt 20 = .ok (.iload_n 2, 1) := by decide +kernel
theorem dX9_landingAt_21 : decode cX9_landingAt 21 = .ok (.ireturn, 1) := by decide +kernel
theorem dX9_landingAt_22 : decode cX9_landingAt 22 = .ok (.iinc 2 1, 3) := by decide +kernel
theorem dX9_landingAt_25 : decode cX9_landingAt 25 = .ok (.goto (-23), 3) := by decide +kernel
theorem dX9_landingAt_28 : decode cX9_landingAt 28 = .ok (.iconst (-1), 1) := by decide +kernel
theorem dX9_landingAt_29 : decode cX9_landingAt 29 = .ok (.ireturn, 1) := by decide +kernel
theorem dX9_cellTold_0 : decode cX9_cellTold 0 = .ok (.iconst 0, 1) := by decide +kernel
theorem dX9_cellTold_1 : decode cX9_cellTold 1 = .ok (.istore_n 3, 1) := by decide +kernel
theorem dX9_cellTold_2 : decode cX9_cellTold 2 = .ok (.iconst 0, 1) := by decide +kernel
theorem dX9_cellTold_3 : decode cX9_cellTold 3 = .ok (.istore 4, 2) := by decide +kernel
theorem dX9_cellTold_5 : decode cX9_cellTold 5 = .ok (.iload 4, 2) := by decide +kernel
theorem dX9_cellTold_7 : decode cX9_cellTold 7 = .ok (.aload_n 0, 1) := by decide +kernel
theorem dX9_cellTold_8 : decode cX9_cellTold 8 = .ok (.getfield 51, 3) := by decide +kernel
theorem dX9_cellTold_11 : decode cX9_cellTold 11 = .ok (.if_icmp .ge 28, 3) := by decide +kernel
theorem dX9_cellTold_14 : decode cX9_cellTold 14 = .ok (.iload_n 3, 1) := by decide +kernel
theorem dX9_cellTold_15 : decode cX9_cellTold 15 = .ok (.aload_n 0, 1) := by decide +kernel
theorem dX9_cellTold_16 : decode cX9_cellTold 16 = .ok (.iload 4, 2) := by decide +kernel
theorem dX9_cellTold_18 : decode cX9_cellTold 18 = .ok (.iconst 0, 1) := by decide +kernel
theorem dX9_cellTold_19 : decode cX9_cellTold 19 = .ok (.invokevirtual 77, 3) := by decide +kernel
theorem dX9_cellTold_22 : decode cX9_cellTold 22 = .ok (.iload_n 1, 1) := by decide +kernel
theorem dX9_cellTold_23 : decode cX9_cellTold 23 = .ok (.if_icmp .ne 7, 3) := by decide +kernel
theorem dX9_cellTold_26 : decode cX9_cellTold 26 = .ok (.iconst 1, 1) := by decide +kernel
theorem dX9_cellTold_27 : decode cX9_cellTold 27 = .ok (.goto 4, 3) := by decide +kernel
theorem dX9_cellTold_30 : decode cX9_cellTold 30 = .ok (.iconst 0, 1) := by decide +kernel
theorem dX9_cellTold_31 : decode cX9_cellTold 31 = .ok (.iadd, 1) := by decide +kernel
theorem dX9_cellTold_32 : decode cX9_cellTold 32 = .ok (.istore_n 3, 1) := by decide +kernel
theorem dX9_cellTold_33 : decode cX9_cellTold 33 = .ok (.iinc 4 1, 3) := by decide +kernel
theorem dX9_cellTold_36 : decode cX9_cellTold 36 = .ok (.goto (-31), 3) := by decide +kernel
theorem dX9_cellTold_39 : decode cX9_cellTold 39 = .ok (.iload_n 2, 1) := by decide +kernel
theorem dX9_cellTold_40 : decode cX9_cellTold 40 = .ok (.tableswitch 90 0 4 #[36, 43, 53, 60, 84], 36) := by decide +kernel
theorem dX9_cellTold_76 : decode cX9_cellTold 76 = .ok (.aload_n 0, 1) := by decide +kernel
theorem dX9_cellTold_77 : decode cX9_cellTold 77 = .ok (.getfield 9, 3) := by decide +kernel
theorem dX9_cellTold_80 : decode cX9_cellTold 80 = .ok (.iload_n 1, 1) := by decide +kernel
theorem dX9_cellTold_81 : decode cX9_cellTold 81 = .ok (.iaload, 1) := by decide +kernel
theorem dX9_cellTold_82 : decode cX9_cellTold 82 = .ok (.ireturn, 1) := by decide +kernel
theorem dX9_cellTold_83 : decode cX9_cellTold 83 = .ok (.aload_n 0, 1) := by decide +kernel
theorem dX9_cellTold_84 : decode cX9_cellTold 84 = .ok (.iload_n 1, 1) := by decide +kernel
theorem dX9_cellTold_85 : decode cX9_cellTold 85 = .ok (.aload_n 0, 1) := by decide +kernel
theorem dX9_cellTold_86 : decode cX9_cellTold 86 = .ok (.invokevirtual 80, 3) := by decide +kernel
theorem dX9_cellTold_89 : decode cX9_cellTold 89 = .ok (.invokevirtual 63, 3) := by decide +kernel
theorem dX9_cellTold_92 : decode cX9_cellTold 92 = .ok (.ireturn, 1) := by decide +kernel
theorem dX9_cellTold_93 : decode cX9_cellTold 93 = .ok (.aload_n 0, 1) := by decide +kernel
theorem dX9_cellTold_94 : decode cX9_cellTold 94 = .ok (.getfield 13, 3) := by decide +kernel
theorem dX9_cellTold_97 : decode cX9_cellTold 97 = .ok (.iload_n 1, 1) := by decide +kernel
theorem dX9_cellTold_98 : decode cX9_cellTold 98 = .ok (.iaload, 1) := by decide +kernel
theorem dX9_cellTold_99 : decode cX9_cellTold 99 = .ok (.ireturn, 1) := by decide +kernel
theorem dX9_cellTold_100 : decode cX9_cellTold 100 = .ok (.aload_n 0, 1) := by decide +kernel
theorem dX9_cellTold_101 : decode cX9_cellTold 101 = .ok (.iload_n 1, 1) := by decide +kernel
theorem dX9_cellTold_102 : decode cX9_cellTold 102 = .ok (.aload_n 0, 1) := by decide +kernel
theorem dX9_cellTold_103 : decode cX9_cellTold 103 = .ok (.invokevirtual 80, 3) := by decide +kernel
theorem dX9_cellTold_106 : decode cX9_cellTold 106 = .ok (.invokevirtual 63, 3) := by decide +kernel
theorem dX9_cellTold_109 : decode cX9_cellTold 109 = .ok (.aload_n 0, 1) := by decide +kernel
theorem dX9_cellTold_110 : decode cX9_cellTold 110 = .ok (.getfield 13, 3) := by decide +kernel
theorem dX9_cellTold_113 : decode cX9_cellTold 113 = .ok (.iload_n 1, 1) := by decide +kernel
theorem dX9_cellTold_114 : decode cX9_cellTold 114 = .ok (.iaload, 1) := by decide +kernel
theorem dX9_cellTold_115 : decode cX9_cellTold 115 = .ok (.if_icmp .ge 7, 3) := by decide +kernel
theorem dX9_cellTold_118 : decode cX9_cellTold 118 = .ok (.iconst 1, 1) := by decide +kernel
theorem dX9_cellTold_119 : decode cX9_cellTold 119 = .ok (.goto 4, 3) := by decide +kernel
theorem dX9_cellTold_122 : decode cX9_cellTold 122 = .ok (.iconst 0, 1) := by decide +kernel
theorem dX9_cellTold_123 : decode cX9_cellTold 123 = .ok (.ireturn, 1) := by decide +kernel
theorem dX9_cellTold_124 : decode cX9_cellTold 124 = .ok (.aload_n 0, 1) := by decide +kernel
theorem dX9_cellTold_125 : decode cX9_cellTold 125 = .ok (.iload_n 1, 1) := by decide +kernel
theorem dX9_cellTold_126 : decode cX9_cellTold 126 = .ok (.invokevirtual 84, 3) := by decide +kernel
theorem dX9_cellTold_129 : decode cX9_cellTold 129 = .ok (.ireturn, 1) := by decide +kernel
theorem dX9_cellTold_130 : decode cX9_cellTold 130 = .ok (.iload_n 3, 1) := by decide +kernel
theorem dX9_cellTold_131 : decode cX9_cellTold 131 = .ok (.ireturn, 1) := by decide +kernel
theorem dX9_cell_0 : decode cX9_cell 0 = .ok (.aload_n 0, 1) := by decide +kernel
theorem dX9_cell_1 : decode cX9_cell 1 = .ok (.iconst 0, 1) := by decide +kernel
theorem dX9_cell_2 : decode cX9_cell 2 = .ok (.putfield 40, 3) := by decide +kernel
theorem dX9_cell_5 : decode cX9_cell 5 = .ok (.iload_n 1, 1) := by decide +kernel
theorem dX9_cell_6 : decode cX9_cell 6 = .ok (.iload_n 2, 1) := by decide +kernel
theorem dX9_cell_7 : decode cX9_cell 7 = .ok (.invokestatic 69, 3) := by decide +kernel
theorem dX9_cell_10 : decode cX9_cell 10 = .ok (.ifCond .eq 26, 3) := by decide +kernel
theorem dX9_cell_13 : decode cX9_cell 13 = .ok (.iload_n 3, 1) := by decide +kernel
theorem dX9_cell_14 : decode cX9_cell 14 = .ok (.iconst 0, 1) := by decide +kernel
theorem dX9_cell_15 : decode cX9_cell 15 = .ok (.iconst 5, 1) := by decide +kernel
theorem dX9_cell_16 : decode cX9_cell 16 = .ok (.invokestatic 44, 3) := by decide +kernel
theorem dX9_cell_19 : decode cX9_cell 19 = .ok (.ifCond .eq 17, 3) := by decide +kernel
theorem dX9_cell_22 : decode cX9_cell 22 = .ok (.aload_n 0, 1) := by decide +kernel
theorem dX9_cell_23 : decode cX9_cell 23 = .ok (.iload_n 1, 1) := by decide +kernel
theorem dX9_cell_24 : decode cX9_cell 24 = .ok (.bipush 14, 2) := by decide +kernel
theorem dX9_cell_26 : decode cX9_cell 26 = .ok (.iload_n 2, 1) := by decide +kernel
theorem dX9_cell_27 : decode cX9_cell 27 = .ok (.imul, 1) := by decide +kernel
theorem dX9_cell_28 : decode cX9_cell 28 = .ok (.iadd, 1) := by decide +kernel
theorem dX9_cell_29 : decode cX9_cell 29 = .ok (.iload_n 3, 1) := by decide +kernel
theorem dX9_cell_30 : decode cX9_cell 30 = .ok (.invokevirtual 87, 3) := by decide +kernel
theorem dX9_cell_33 : decode cX9_cell 33 = .ok (.goto 8, 3) := by decide +kernel
theorem dX9_cell_36 : decode cX9_cell 36 = .ok (.aload_n 0, 1) := by decide +kernel
theorem dX9_cell_37 : decode cX9_cell 37 = .ok (.iconst 1, 1) := by decide +kernel
theorem dX9_cell_38 : decode cX9_cell 38 = .ok (.invokevirtual 73, 3) := by decide +kernel
theorem dX9_cell_41 : decode cX9_cell 41 = .ok (.ireturn, 1) := by decide +kernel
theorem dX9_addLanding_0 : decode cX9_addLanding 0 = .ok (.aload_n 0, 1) := by decide +kernel
theorem dX9_addLanding_1 : decode cX9_addLanding 1 = .ok (.iconst 0, 1) := by decide +kernel
theorem dX9_addLanding_2 : decode cX9_addLanding 2 = .ok (.putfield 40, 3) := by decide +kernel
theorem dX9_addLanding_5 : decode cX9_addLanding 5 = .ok (.iload_n 1, 1) := by decide +kernel
theorem dX9_addLanding_6 : decode cX9_addLanding 6 = .ok (.iload_n 2, 1) := by decide +kernel
theorem dX9_addLanding_7 : decode cX9_addLanding 7 = .ok (.invokestatic 69, 3) := by decide +kernel
theorem dX9_addLanding_10 : decode cX9_addLanding 10 = .ok (.ifCond .ne 9, 3) := by decide +kernel
theorem dX9_addLanding_13 : decode cX9_addLanding 13 = .ok (.aload_n 0, 1) := by decide +kernel
theorem dX9_addLanding_14 : decode cX9_addLanding 14 = .ok (.iconst 1, 1) := by decide +kernel
theorem dX9_addLanding_15 : decode cX9_addLanding 15 = .ok (.invokevirtual 73, 3) := by decide +kernel
theorem dX9_addLanding_18 : decode cX9_addLanding 18 = .ok (.ireturn, 1) := by decide +kernel
theorem dX9_addLanding_19 : decode cX9_addLanding 19 = .ok (.aload_n 0, 1) := by decide +kernel
theorem dX9_addLanding_20 : decode cX9_addLanding 20 = .ok (.iload_n 1, 1) := by decide +kernel
theorem dX9_addLanding_21 : decode cX9_addLanding 21 = .ok (.bipush 14, 2) := by decide +kernel
theorem dX9_addLanding_23 : decode cX9_addLanding 23 = .ok (.iload_n 2, 1) := by decide +kernel
theorem dX9_addLanding_24 : decode cX9_addLanding 24 = .ok (.imul, 1) := by decide +kernel
theorem dX9_addLanding_25 : decode cX9_addLanding 25 = .ok (.iadd, 1) := by decide +kernel
theorem dX9_addLanding_26 : decode cX9_addLanding 26 = .ok (.invokevirtual 84, 3) := by decide +kernel
theorem dX9_addLanding_29 : decode cX9_addLanding 29 = .ok (.iconst (-1), 1) := by decide +kernel
theorem dX9_addLanding_30 : decode cX9_addLanding 30 = .ok (.if_icmp .ne 12, 3) := by decide +kernel
theorem dX9_addLanding_33 : decode cX9_addLanding 33 = .ok (.aload_n 0, 1) := by decide +kernel
theorem dX9_addLanding_34 : decode cX9_addLanding 34 = .ok (.getfield 48, 3) := by decide +kernel
theorem dX9_addLanding_37 : decode cX9_addLanding 37 = .ok (.bipush 8, 2) := by decide +kernel
theorem dX9_addLanding_39 : decode cX9_addLanding 39 = .ok (.if_icmp .ne 9, 3) := by decide +kernel
theorem dX9_addLanding_42 : decode cX9_addLanding 42 = .ok (.aload_n 0, 1) := by decide +kernel
theorem dX9_addLanding_43 : decode cX9_addLanding 43 = .ok (.iconst 2, 1) := by decide +kernel
theorem dX9_addLanding_44 : decode cX9_addLanding 44 = .ok (.invokevirtual 73, 3) := by decide +kernel
theorem dX9_addLanding_47 : decode cX9_addLanding 47 = .ok (.ireturn, 1) := by decide +kernel
theorem dX9_addLanding_48 : decode cX9_addLanding 48 = .ok (.aload_n 0, 1) := by decide +kernel
theorem dX9_addLanding_49 : decode cX9_addLanding 49 = .ok (.getfield 19, 3) := by decide +kernel
theorem dX9_addLanding_52 : decode cX9_addLanding 52 = .ok (.aload_n 0, 1) := by decide +kernel
theorem dX9_addLanding_53 : decode cX9_addLanding 53 = .ok (.getfield 48, 3) := by decide +kernel
theorem dX9_addLanding_56 : decode cX9_addLanding 56 = .ok (.iload_n 1, 1) := by decide +kernel
theorem dX9_addLanding_57 : decode cX9_addLanding 57 = .ok (.bipush 14, 2) := by decide +kernel
theorem dX9_addLanding_59 : decode cX9_addLanding 59 = .ok (.iload_n 2, 1) := by decide +kernel
theorem dX9_addLanding_60 : decode cX9_addLanding 60 = .ok (.imul, 1) := by decide +kernel
theorem dX9_addLanding_61 : decode cX9_addLanding 61 = .ok (.iadd, 1) := by decide +kernel
theorem dX9_addLanding_62 : decode cX9_addLanding 62 = .ok (.iastore, 1) := by decide +kernel
theorem dX9_addLanding_63 : decode cX9_addLanding 63 = .ok (.aload_n 0, 1) := by decide +kernel
theorem dX9_addLanding_64 : decode cX9_addLanding 64 = .ok (.dup, 1) := by decide +kernel
theorem dX9_addLanding_65 : decode cX9_addLanding 65 = .ok (.getfield 48, 3) := by decide +kernel
theorem dX9_addLanding_68 : decode cX9_addLanding 68 = .ok (.iconst 1, 1) := by decide +kernel
theorem dX9_addLanding_69 : decode cX9_addLanding 69 = .ok (.iadd, 1) := by decide +kernel
theorem dX9_addLanding_70 : decode cX9_addLanding 70 = .ok (.putfield 48, 3) := by decide +kernel
theorem dX9_addLanding_73 : decode cX9_addLanding 73 = .ok (.aload_n 0, 1) := by decide +kernel
theorem dX9_addLanding_74 : decode cX9_addLanding 74 = .ok (.getfield 48, 3) := by decide +kernel
theorem dX9_addLanding_77 : decode cX9_addLanding 77 = .ok (.iconst 1, 1) := by decide +kernel
theorem dX9_addLanding_78 : decode cX9_addLanding 78 = .ok (.isub, 1) := by decide +kernel
theorem dX9_addLanding_79 : decode cX9_addLanding 79 = .ok (.ireturn, 1) := by decide +kernel
theorem dX9_launch_0 : decode cX9_launch 0 = .ok (.aload_n 0, 1) := by decide +kernel
theorem dX9_launch_1 : decode cX9_launch 1 = .ok (.iconst 0, 1) := by decide +kernel
theorem dX9_launch_2 : decode cX9_launch 2 = .ok (.putfield 40, 3) := by decide +kernel
theorem dX9_launch_5 : decode cX9_launch 5 = .ok (.aload_n 0, 1) := by decide +kernel
theorem dX9_launch_6 : decode cX9_launch 6 = .ok (.iload_n 1, 1) := by decide +kernel
theorem dX9_launch_7 : decode cX9_launch 7 = .ok (.invokevirtual 90, 3) := by decide +kernel
theorem dX9_launch_10 : decode cX9_launch 10 = .ok (.ifCond .eq 11, 3) := by decide +kernel
theorem dX9_launch_13 : decode cX9_launch 13 = .ok (.aload_n 0, 1) := by decide +kernel
theorem dX9_launch_14 : decode cX9_launch 14 = .ok (.iload_n 2, 1) := by decide +kernel
theorem dX9_launch_15 : decode cX9_launch 15 = .ok (.invokevirtual 90, 3) := by decide +kernel
theorem dX9_launch_18 : decode cX9_launch 18 = .ok (.ifCond .ne 9, 3) := by decide +kernel
theorem dX9_launch_21 : decode cX9_launch 21 = .ok (.aload_n 0, 1) := by decide +kernel
theorem dX9_launch_22 : decode cX9_launch 22 = .ok (.iconst 1, 1) := by decide +kernel
theorem dX9_launch_23 : decode cX9_launch 23 = .ok (.invokevirtual 73, 3) := by decide +kernel
theorem dX9_launch_26 : decode cX9_launch 26 = .ok (.ireturn, 1) := by decide +kernel
theorem dX9_launch_27 : decode cX9_launch 27 = .ok (.iload_n 1, 1) := by decide +kernel
theorem dX9_launch_28 : decode cX9_launch 28 = .ok (.iload_n 2, 1) := by decide +kernel
theorem dX9_launch_29 : decode cX9_launch 29 = .ok (.if_icmp .eq 45, 3) := by decide +kernel
theorem dX9_launch_32 : decode cX9_launch 32 = .ok (.iload_n 3, 1) := by decide +kernel
theorem dX9_launch_33 : decode cX9_launch 33 = .ok (.iconst 1, 1) := by decide +kernel
theorem dX9_launch_34 : decode cX9_launch 34 = .ok (.iconst 4, 1) := by decide +kernel
theorem dX9_launch_35 : decode cX9_launch 35 = .ok (.invokestatic 44, 3) := by decide +kernel
theorem dX9_launch_38 : decode cX9_launch 38 = .ok (.ifCond .eq 36, 3) := by decide +kernel
theorem dX9_launch_41 : decode cX9_launch 41 = .ok (.iload 4, 2) := by decide +kernel
theorem dX9_launch_43 : decode cX9_launch 43 = .ok (.iconst 2, 1) := by decide +kernel
theorem dX9_launch_44 : decode cX9_launch 44 = .ok (.bipush 12, 2) := by decide +kernel
theorem dX9_launch_46 : decode cX9_launch 46 = .ok (.invokestatic 44, 3) := by decide +kernel
theorem dX9_launch_49 : decode cX9_launch 49 = .ok (.ifCond .eq 25, 3) := by decide +kernel
theorem dX9_launch_52 : decode cX9_launch 52 = .ok (.iload 5, 2) := by decide +kernel
theorem dX9_launch_54 : decode cX9_launch 54 = .ok (.iconst 1, 1) := by decide +kernel
theorem dX9_launch_55 : decode cX9_launch 55 = .ok (.bipush 6, 2) := by decide +kernel
theorem dX9_launch_57 : decode cX9_launch 57 = .ok (.invokestatic 44, 3) := by decide +kernel
theorem dX9_launch_60 : decode cX9_launch 60 = .ok (.ifCond .eq 14, 3) := by decide +kernel
theorem dX9_launch_63 : decode cX9_launch 63 = .ok (.iload 6, 2) := by decide +kernel
theorem dX9_launch_65 : decode cX9_launch 65 = .ok (.iconst 0, 1) := by decide +kernel
theorem dX9_launch_66 : decode cX9_launch 66 = .ok (.bipush 50, 2) := by decide +kernel
theorem dX9_launch_68 : decode cX9_launch 68 = .ok (.invokestatic 44, 3) := by decide +kernel
theorem dX9_launch_71 : decode cX9_launch 71 = .ok (.ifCond .ne 9, 3) := by decide +kernel
theorem dX9_launch_74 : decode cX9_launch 74 = .ok (.aload_n 0, 1) := by decide +kernel
theorem dX9_launch_75 : decode cX9_launch 75 = .ok (.iconst 2, 1) := by decide +kernel
theorem dX9_launch_76 : decode cX9_launch 76 = .ok (.invokevirtual 73, 3) := by decide +kernel
theorem dX9_launch_79 : decode cX9_launch 79 = .ok (.ireturn, 1) := by decide +kernel
theorem dX9_launch_80 : decode cX9_launch 80 = .ok (.aload_n 0, 1) := by decide +kernel
theorem dX9_launch_81 : decode cX9_launch 81 = .ok (.getfield 51, 3) := by decide +kernel
theorem dX9_launch_84 : decode cX9_launch 84 = .ok (.bipush 6, 2) := by decide +kernel
theorem dX9_launch_86 : decode cX9_launch 86 = .ok (.if_icmp .ne 9, 3) := by decide +kernel
theorem dX9_launch_89 : decode cX9_launch 89 = .ok (.aload_n 0, 1) := by decide +kernel
theorem dX9_launch_90 : decode cX9_launch 90 = .ok (.iconst 3, 1) := by decide +kernel
theorem dX9_launch_91 : decode cX9_launch 91 = .ok (.invokevirtual 73, 3) := by decide +kernel
theorem dX9_launch_94 : decode cX9_launch 94 = .ok (.ireturn, 1) := by decide +kernel
theorem dX9_launch_95 : decode cX9_launch 95 = .ok (.bipush 6, 2) := by decide +kernel
theorem dX9_launch_97 : decode cX9_launch 97 = .ok (.newarray .int, 2) := by decide +kernel
theorem dX9_launch_99 : decode cX9_launch 99 = .ok (.dup, 1) := by decide +kernel
theorem dX9_launch_100 : decode cX9_launch 100 = .ok (.iconst 0, 1) := by decide +kernel
theorem dX9_launch_101 : decode cX9_launch 101 = .ok (.iload_n 1, 1) := by decide +kernel
theorem dX9_launch_102 : decode cX9_launch 102 = .ok (.iastore, 1) := by decide +kernel
theorem dX9_launch_103 : decode cX9_launch 103 = .ok (.dup, 1) := by decide +kernel
theorem dX9_launch_104 : decode cX9_launch 104 = .ok (.iconst 1, 1) := by decide +kernel
