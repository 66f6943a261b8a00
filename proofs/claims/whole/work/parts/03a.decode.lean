theorem dX0_init_0 : decode cX0_init 0 = .ok (.aload_n 0, 1) := by decide +kernel
theorem dX0_init_1 : decode cX0_init 1 = .ok (.invokespecial 3, 3) := by decide +kernel
theorem dX0_init_4 : decode cX0_init 4 = .ok (.aload_n 0, 1) := by decide +kernel
theorem dX0_init_5 : decode cX0_init 5 = .ok (.new 9, 3) := by decide +kernel
theorem dX0_init_8 : decode cX0_init 8 = .ok (.dup, 1) := by decide +kernel
theorem dX0_init_9 : decode cX0_init 9 = .ok (.bipush 64, 2) := by decide +kernel
theorem dX0_init_11 : decode cX0_init 11 = .ok (.invokespecial 11, 3) := by decide +kernel
theorem dX0_init_14 : decode cX0_init 14 = .ok (.putfield 14, 3) := by decide +kernel
theorem dX0_init_17 : decode cX0_init 17 = .ok (.aload_n 0, 1) := by decide +kernel
theorem dX0_init_18 : decode cX0_init 18 = .ok (.new 9, 3) := by decide +kernel
theorem dX0_init_21 : decode cX0_init 21 = .ok (.dup, 1) := by decide +kernel
theorem dX0_init_22 : decode cX0_init 22 = .ok (.bipush 64, 2) := by decide +kernel
theorem dX0_init_24 : decode cX0_init 24 = .ok (.invokespecial 11, 3) := by decide +kernel
theorem dX0_init_27 : decode cX0_init 27 = .ok (.putfield 20, 3) := by decide +kernel
theorem dX0_init_30 : decode cX0_init 30 = .ok (.aload_n 0, 1) := by decide +kernel
theorem dX0_init_31 : decode cX0_init 31 = .ok (.new 9, 3) := by decide +kernel
theorem dX0_init_34 : decode cX0_init 34 = .ok (.dup, 1) := by decide +kernel
theorem dX0_init_35 : decode cX0_init 35 = .ok (.bipush 8, 2) := by decide +kernel
theorem dX0_init_37 : decode cX0_init 37 = .ok (.invokespecial 11, 3) := by decide +kernel
theorem dX0_init_40 : decode cX0_init 40 = .ok (.putfield 23, 3) := by decide +kernel
theorem dX0_init_43 : decode cX0_init 43 = .ok (.aload_n 0, 1) := by decide +kernel
theorem dX0_init_44 : decode cX0_init 44 = .ok (.aload_n 1, 1) := by decide +kernel
theorem dX0_init_45 : decode cX0_init 45 = .ok (.putfield 26, 3) := by decide +kernel
theorem dX0_init_48 : decode cX0_init 48 = .ok (.aload_n 0, 1) := by decide +kernel
theorem dX0_init_49 : decode cX0_init 49 = .ok (.invokevirtual 30, 3) := by decide +kernel
theorem dX0_init_52 : decode cX0_init 52 = .ok (.return_, 1) := by decide +kernel
theorem dX0_length_0 : decode cX0_length 0 = .ok (.aload_n 0, 1) := by decide +kernel
theorem dX0_length_1 : decode cX0_length 1 = .ok (.getfield 14, 3) := by decide +kernel
theorem dX0_length_4 : decode cX0_length 4 = .ok (.iload_n 1, 1) := by decide +kernel
theorem dX0_length_5 : decode cX0_length 5 = .ok (.bipush 8, 2) := by decide +kernel
theorem dX0_length_7 : decode cX0_length 7 = .ok (.imul, 1) := by decide +kernel
theorem dX0_length_8 : decode cX0_length 8 = .ok (.iload_n 2, 1) := by decide +kernel
theorem dX0_length_9 : decode cX0_length 9 = .ok (.iadd, 1) := by decide +kernel
theorem dX0_length_10 : decode cX0_length 10 = .ok (.invokevirtual 33, 3) := by decide +kernel
theorem dX0_length_13 : decode cX0_length 13 = .ok (.ireturn, 1) := by decide +kernel
theorem dX0_firstPunt_0 : decode cX0_firstPunt 0 = .ok (.aload_n 0, 1) := by decide +kernel
theorem dX0_firstPunt_1 : decode cX0_firstPunt 1 = .ok (.getfield 20, 3) := by decide +kernel
theorem dX0_firstPunt_4 : decode cX0_firstPunt 4 = .ok (.iload_n 1, 1) := by decide +kernel
theorem dX0_firstPunt_5 : decode cX0_firstPunt 5 = .ok (.bipush 8, 2) := by decide +kernel
theorem dX0_firstPunt_7 : decode cX0_firstPunt 7 = .ok (.imul, 1) := by decide +kernel
theorem dX0_firstPunt_8 : decode cX0_firstPunt 8 = .ok (.iload_n 2, 1) := by decide +kernel
theorem dX0_firstPunt_9 : decode cX0_firstPunt 9 = .ok (.iadd, 1) := by decide +kernel
theorem dX0_firstPunt_10 : decode cX0_firstPunt 10 = .ok (.invokevirtual 33, 3) := by decide +kernel
theorem dX0_firstPunt_13 : decode cX0_firstPunt 13 = .ok (.ireturn, 1) := by decide +kernel
theorem dX0_reckon_0 : decode cX0_reckon 0 = .ok (.aload_n 0, 1) := by decide +kernel
theorem dX0_reckon_1 : decode cX0_reckon 1 = .ok (.getfield 14, 3) := by decide +kernel
theorem dX0_reckon_4 : decode cX0_reckon 4 = .ok (.iconst (-1), 1) := by decide +kernel
theorem dX0_reckon_5 : decode cX0_reckon 5 = .ok (.invokevirtual 37, 3) := by decide +kernel
theorem dX0_reckon_8 : decode cX0_reckon 8 = .ok (.iconst 0, 1) := by decide +kernel
theorem dX0_reckon_9 : decode cX0_reckon 9 = .ok (.istore_n 1, 1) := by decide +kernel
theorem dX0_reckon_10 : decode cX0_reckon 10 = .ok (.iload_n 1, 1) := by decide +kernel
theorem dX0_reckon_11 : decode cX0_reckon 11 = .ok (.bipush 8, 2) := by decide +kernel
theorem dX0_reckon_13 : decode cX0_reckon 13 = .ok (.if_icmp .ge 76, 3) := by decide +kernel
theorem dX0_reckon_16 : decode cX0_reckon 16 = .ok (.aload_n 0, 1) := by decide +kernel
theorem dX0_reckon_17 : decode cX0_reckon 17 = .ok (.getfield 14, 3) := by decide +kernel
theorem dX0_reckon_20 : decode cX0_reckon 20 = .ok (.iload_n 1, 1) := by decide +kernel
theorem dX0_reckon_21 : decode cX0_reckon 21 = .ok (.bipush 8, 2) := by decide +kernel
theorem dX0_reckon_23 : decode cX0_reckon 23 = .ok (.imul, 1) := by decide +kernel
theorem dX0_reckon_24 : decode cX0_reckon 24 = .ok (.iload_n 1, 1) := by decide +kernel
theorem dX0_reckon_25 : decode cX0_reckon 25 = .ok (.iadd, 1) := by decide +kernel
theorem dX0_reckon_26 : decode cX0_reckon 26 = .ok (.iconst 0, 1) := by decide +kernel
theorem dX0_reckon_27 : decode cX0_reckon 27 = .ok (.invokevirtual 40, 3) := by decide +kernel
theorem dX0_reckon_30 : decode cX0_reckon 30 = .ok (.iconst 0, 1) := by decide +kernel
theorem dX0_reckon_31 : decode cX0_reckon 31 = .ok (.istore_n 2, 1) := by decide +kernel
theorem dX0_reckon_32 : decode cX0_reckon 32 = .ok (.iload_n 2, 1) := by decide +kernel
theorem dX0_reckon_33 : decode cX0_reckon 33 = .ok (.bipush 6, 2) := by decide +kernel
theorem dX0_reckon_35 : decode cX0_reckon 35 = .ok (.if_icmp .ge 15, 3) := by decide +kernel
theorem dX0_reckon_38 : decode cX0_reckon 38 = .ok (.aload_n 0, 1) := by decide +kernel
theorem dX0_reckon_39 : decode cX0_reckon 39 = .ok (.iload_n 1, 1) := by decide +kernel
theorem dX0_reckon_40 : decode cX0_reckon 40 = .ok (.iload_n 2, 1) := by decide +kernel
theorem dX0_reckon_41 : decode cX0_reckon 41 = .ok (.invokevirtual 44, 3) := by decide +kernel
theorem dX0_reckon_44 : decode cX0_reckon 44 = .ok (.iinc 2 1, 3) := by decide +kernel
theorem dX0_reckon_47 : decode cX0_reckon 47 = .ok (.goto (-15), 3) := by decide +kernel
theorem dX0_reckon_50 : decode cX0_reckon 50 = .ok (.iconst 0, 1) := by decide +kernel
theorem dX0_reckon_51 : decode cX0_reckon 51 = .ok (.istore_n 2, 1) := by decide +kernel
theorem dX0_reckon_52 : decode cX0_reckon 52 = .ok (.iload_n 2, 1) := by decide +kernel
theorem dX0_reckon_53 : decode cX0_reckon 53 = .ok (.bipush 8, 2) := by decide +kernel
theorem dX0_reckon_55 : decode cX0_reckon 55 = .ok (.if_icmp .ge 28, 3) := by decide +kernel
theorem dX0_reckon_58 : decode cX0_reckon 58 = .ok (.aload_n 0, 1) := by decide +kernel
theorem dX0_reckon_59 : decode cX0_reckon 59 = .ok (.getfield 20, 3) := by decide +kernel
theorem dX0_reckon_62 : decode cX0_reckon 62 = .ok (.iload_n 2, 1) := by decide +kernel
theorem dX0_reckon_63 : decode cX0_reckon 63 = .ok (.bipush 8, 2) := by decide +kernel
theorem dX0_reckon_65 : decode cX0_reckon 65 = .ok (.imul, 1) := by decide +kernel
theorem dX0_reckon_66 : decode cX0_reckon 66 = .ok (.iload_n 1, 1) := by decide +kernel
theorem dX0_reckon_67 : decode cX0_reckon 67 = .ok (.iadd, 1) := by decide +kernel
theorem dX0_reckon_68 : decode cX0_reckon 68 = .ok (.aload_n 0, 1) := by decide +kernel
theorem dX0_reckon_69 : decode cX0_reckon 69 = .ok (.iload_n 2, 1) := by decide +kernel
theorem dX0_reckon_70 : decode cX0_reckon 70 = .ok (.iload_n 1, 1) := by decide +kernel
theorem dX0_reckon_71 : decode cX0_reckon 71 = .ok (.invokevirtual 47, 3) := by decide +kernel
theorem dX0_reckon_74 : decode cX0_reckon 74 = .ok (.invokevirtual 40, 3) := by decide +kernel
theorem dX0_reckon_77 : decode cX0_reckon 77 = .ok (.iinc 2 1, 3) := by decide +kernel
theorem dX0_reckon_80 : decode cX0_reckon 80 = .ok (.goto (-28), 3) := by decide +kernel
theorem dX0_reckon_83 : decode cX0_reckon 83 = .ok (.iinc 1 1, 3) := by decide +kernel
theorem dX0_reckon_86 : decode cX0_reckon 86 = .ok (.goto (-76), 3) := by decide +kernel
theorem dX0_reckon_89 : decode cX0_reckon 89 = .ok (.return_, 1) := by decide +kernel
theorem dX0_lengthenAll_0 : decode cX0_lengthenAll 0 = .ok (.iconst 0, 1) := by decide +kernel
theorem dX0_lengthenAll_1 : decode cX0_lengthenAll 1 = .ok (.istore_n 3, 1) := by decide +kernel
theorem dX0_lengthenAll_2 : decode cX0_lengthenAll 2 = .ok (.iload_n 3, 1) := by decide +kernel
theorem dX0_lengthenAll_3 : decode cX0_lengthenAll 3 = .ok (.aload_n 0, 1) := by decide +kernel
theorem dX0_lengthenAll_4 : decode cX0_lengthenAll 4 = .ok (.getfield 26, 3) := by decide +kernel
theorem dX0_lengthenAll_7 : decode cX0_lengthenAll 7 = .ok (.getfield 51, 3) := by decide +kernel
theorem dX0_lengthenAll_10 : decode cX0_lengthenAll 10 = .ok (.if_icmp .ge 65, 3) := by decide +kernel
theorem dX0_lengthenAll_13 : decode cX0_lengthenAll 13 = .ok (.aload_n 0, 1) := by decide +kernel
theorem dX0_lengthenAll_14 : decode cX0_lengthenAll 14 = .ok (.aload_n 0, 1) := by decide +kernel
theorem dX0_lengthenAll_15 : decode cX0_lengthenAll 15 = .ok (.getfield 26, 3) := by decide +kernel
theorem dX0_lengthenAll_18 : decode cX0_lengthenAll 18 = .ok (.getfield 57, 3) := by decide +kernel
theorem dX0_lengthenAll_21 : decode cX0_lengthenAll 21 = .ok (.iload_n 3, 1) := by decide +kernel
theorem dX0_lengthenAll_22 : decode cX0_lengthenAll 22 = .ok (.invokevirtual 33, 3) := by decide +kernel
theorem dX0_lengthenAll_25 : decode cX0_lengthenAll 25 = .ok (.aload_n 0, 1) := by decide +kernel
theorem dX0_lengthenAll_26 : decode cX0_lengthenAll 26 = .ok (.getfield 26, 3) := by decide +kernel
theorem dX0_lengthenAll_29 : decode cX0_lengthenAll 29 = .ok (.getfield 60, 3) := by decide +kernel
theorem dX0_lengthenAll_32 : decode cX0_lengthenAll 32 = .ok (.iload_n 3, 1) := by decide +kernel
theorem dX0_lengthenAll_33 : decode cX0_lengthenAll 33 = .ok (.invokevirtual 33, 3) := by decide +kernel
theorem dX0_lengthenAll_36 : decode cX0_lengthenAll 36 = .ok (.iload_n 1, 1) := by decide +kernel
theorem dX0_lengthenAll_37 : decode cX0_lengthenAll 37 = .ok (.iload_n 2, 1) := by decide +kernel
theorem dX0_lengthenAll_38 : decode cX0_lengthenAll 38 = .ok (.invokevirtual 63, 3) := by decide +kernel
theorem dX0_lengthenAll_41 : decode cX0_lengthenAll 41 = .ok (.aload_n 0, 1) := by decide +kernel
theorem dX0_lengthenAll_42 : decode cX0_lengthenAll 42 = .ok (.aload_n 0, 1) := by decide +kernel
theorem dX0_lengthenAll_43 : decode cX0_lengthenAll 43 = .ok (.getfield 26, 3) := by decide +kernel
theorem dX0_lengthenAll_46 : decode cX0_lengthenAll 46 = .ok (.getfield 60, 3) := by decide +kernel
theorem dX0_lengthenAll_49 : decode cX0_lengthenAll 49 = .ok (.iload_n 3, 1) := by decide +kernel
theorem dX0_lengthenAll_50 : decode cX0_lengthenAll 50 = .ok (.invokevirtual 33, 3) := by decide +kernel
theorem dX0_lengthenAll_53 : decode cX0_lengthenAll 53 = .ok (.aload_n 0, 1) := by decide +kernel
theorem dX0_lengthenAll_54 : decode cX0_lengthenAll 54 = .ok (.getfield 26, 3) := by decide +kernel
theorem dX0_lengthenAll_57 : decode cX0_lengthenAll 57 = .ok (.getfield 57, 3) := by decide +kernel
theorem dX0_lengthenAll_60 : decode cX0_lengthenAll 60 = .ok (.iload_n 3, 1) := by decide +kernel
theorem dX0_lengthenAll_61 : decode cX0_lengthenAll 61 = .ok (.invokevirtual 33, 3) := by decide +kernel
theorem dX0_lengthenAll_64 : decode cX0_lengthenAll 64 = .ok (.iload_n 1, 1) := by decide +kernel
theorem dX0_lengthenAll_65 : decode cX0_lengthenAll 65 = .ok (.iload_n 2, 1) := by decide +kernel
theorem dX0_lengthenAll_66 : decode cX0_lengthenAll 66 = .ok (.invokevirtual 63, 3) := by decide +kernel
theorem dX0_lengthenAll_69 : decode cX0_lengthenAll 69 = .ok (.iinc 3 1, 3) := by decide +kernel
theorem dX0_lengthenAll_72 : decode cX0_lengthenAll 72 = .ok (.goto (-70), 3) := by decide +kernel
theorem dX0_lengthenAll_75 : decode cX0_lengthenAll 75 = .ok (.return_, 1) := by decide +kernel
theorem dX0_lengthen_0 : decode cX0_lengthen 0 = .ok (.aload_n 0, 1) := by decide +kernel
theorem dX0_lengthen_1 : decode cX0_lengthen 1 = .ok (.iload_n 2, 1) := by decide +kernel
theorem dX0_lengthen_2 : decode cX0_lengthen 2 = .ok (.iload_n 3, 1) := by decide +kernel
theorem dX0_lengthen_3 : decode cX0_lengthen 3 = .ok (.invokevirtual 67, 3) := by decide +kernel
theorem dX0_lengthen_6 : decode cX0_lengthen 6 = .ok (.iload 4, 2) := by decide +kernel
theorem dX0_lengthen_8 : decode cX0_lengthen 8 = .ok (.if_icmp .ne 30, 3) := by decide +kernel
theorem dX0_lengthen_11 : decode cX0_lengthen 11 = .ok (.aload_n 0, 1) := by decide +kernel
theorem dX0_lengthen_12 : decode cX0_lengthen 12 = .ok (.iload_n 1, 1) := by decide +kernel
theorem dX0_lengthen_13 : decode cX0_lengthen 13 = .ok (.iload_n 3, 1) := by decide +kernel
theorem dX0_lengthen_14 : decode cX0_lengthen 14 = .ok (.invokevirtual 67, 3) := by decide +kernel
theorem dX0_lengthen_17 : decode cX0_lengthen 17 = .ok (.iconst (-1), 1) := by decide +kernel
theorem dX0_lengthen_18 : decode cX0_lengthen 18 = .ok (.if_icmp .ne 20, 3) := by decide +kernel
theorem dX0_lengthen_21 : decode cX0_lengthen 21 = .ok (.aload_n 0, 1) := by decide +kernel
theorem dX0_lengthen_22 : decode cX0_lengthen 22 = .ok (.getfield 14, 3) := by decide +kernel
theorem dX0_lengthen_25 : decode cX0_lengthen 25 = .ok (.iload_n 1, 1) := by decide +kernel
theorem dX0_lengthen_26 : decode cX0_lengthen 26 = .ok (.bipush 8, 2) := by decide +kernel
theorem dX0_lengthen_28 : decode cX0_lengthen 28 = .ok (.imul, 1) := by decide +kernel
theorem dX0_lengthen_29 : decode cX0_lengthen 29 = .ok (.iload_n 3, 1) := by decide +kernel
theorem dX0_lengthen_30 : decode cX0_lengthen 30 = .ok (.iadd, 1) := by decide +kernel
theorem dX0_lengthen_31 : decode cX0_lengthen 31 = .ok (.iload 4, 2) := by decide +kernel
theorem dX0_lengthen_33 : decode cX0_lengthen 33 = .ok (.iconst 1, 1) := by decide +kernel
theorem dX0_lengthen_34 : decode cX0_lengthen 34 = .ok (.iadd, 1) := by decide +kernel
theorem dX0_lengthen_35 : decode cX0_lengthen 35 = .ok (.invokevirtual 40, 3) := by decide +kernel
theorem dX0_lengthen_38 : decode cX0_lengthen 38 = .ok (.return_, 1) := by decide +kernel
theorem dX0_findFirst_0 : decode cX0_findFirst 0 = .ok (.iconst 0, 1) := by decide +kernel
theorem dX0_findFirst_1 : decode cX0_findFirst 1 = .ok (.istore_n 3, 1) := by decide +kernel
theorem dX0_findFirst_2 : decode cX0_findFirst 2 = .ok (.iload_n 3, 1) := by decide +kernel
theorem dX0_findFirst_3 : decode cX0_findFirst 3 = .ok (.aload_n 0, 1) := by decide +kernel
theorem dX0_findFirst_4 : decode cX0_findFirst 4 = .ok (.getfield 26, 3) := by decide +kernel
theorem dX0_findFirst_7 : decode cX0_findFirst 7 = .ok (.getfield 51, 3) := by decide +kernel
theorem dX0_findFirst_10 : decode cX0_findFirst 10 = .ok (.if_icmp .ge 21, 3) := by decide +kernel
theorem dX0_findFirst_13 : decode cX0_findFirst 13 = .ok (.aload_n 0, 1) := by decide +kernel
theorem dX0_findFirst_14 : decode cX0_findFirst 14 = .ok (.iload_n 3, 1) := by decide +kernel
theorem dX0_findFirst_15 : decode cX0_findFirst 15 = .ok (.iload_n 1, 1) := by decide +kernel
theorem dX0_findFirst_16 : decode cX0_findFirst 16 = .ok (.iload_n 2, 1) := by decide +kernel
theorem dX0_findFirst_17 : decode cX0_findFirst 17 = .ok (.invokevirtual 70, 3) := by decide +kernel
theorem dX0_findFirst_20 : decode cX0_findFirst 20 = .ok (.ifCond .eq 5, 3) := by decide +kernel
theorem dX0_findFirst_23 : decode cX0_findFirst 23 = .ok (.iload_n 3, 1) := by decide +kernel
theorem dX0_findFirst_24 : decode cX0_findFirst 24 = .ok (.ireturn, 1) := by decide +kernel
theorem dX0_findFirst_25 : decode cX0_findFirst 25 = .ok (.iinc 3 1, 3) := by decide +kernel
theorem dX0_findFirst_28 : decode cX0_findFirst 28 = .ok (.goto (-26), 3) := by decide +kernel
theorem dX0_findFirst_31 : decode cX0_findFirst 31 = .ok (.iconst (-1), 1) := by decide +kernel
theorem dX0_findFirst_32 : decode cX0_findFirst 32 = .ok (.ireturn, 1) := by decide +kernel
theorem dX0_begins_0 : decode cX0_begins 0 = .ok (.aload_n 0, 1) := by decide +kernel
theorem dX0_begins_1 : decode cX0_begins 1 = .ok (.iload_n 2, 1) := by decide +kernel
theorem dX0_begins_2 : decode cX0_begins 2 = .ok (.iload_n 3, 1) := by decide +kernel
theorem dX0_begins_3 : decode cX0_begins 3 = .ok (.invokevirtual 67, 3) := by decide +kernel
theorem dX0_begins_6 : decode cX0_begins 6 = .ok (.ifCond .le 44, 3) := by decide +kernel
theorem dX0_begins_9 : decode cX0_begins 9 = .ok (.aload_n 0, 1) := by decide +kernel
theorem dX0_begins_10 : decode cX0_begins 10 = .ok (.getfield 26, 3) := by decide +kernel
theorem dX0_begins_13 : decode cX0_begins 13 = .ok (.iload_n 1, 1) := by decide +kernel
theorem dX0_begins_14 : decode cX0_begins 14 = .ok (.iload_n 2, 1) := by decide +kernel
theorem dX0_begins_15 : decode cX0_begins 15 = .ok (.invokevirtual 74, 3) := by decide +kernel
theorem dX0_begins_18 : decode cX0_begins 18 = .ok (.ifCond .eq 32, 3) := by decide +kernel
theorem dX0_begins_21 : decode cX0_begins 21 = .ok (.aload_n 0, 1) := by decide +kernel
theorem dX0_begins_22 : decode cX0_begins 22 = .ok (.aload_n 0, 1) := by decide +kernel
theorem dX0_begins_23 : decode cX0_begins 23 = .ok (.getfield 26, 3) := by decide +kernel
theorem dX0_begins_26 : decode cX0_begins 26 = .ok (.iload_n 1, 1) := by decide +kernel
theorem dX0_begins_27 : decode cX0_begins 27 = .ok (.iload_n 2, 1) := by decide +kernel
theorem dX0_begins_28 : decode cX0_begins 28 = .ok (.invokevirtual 78, 3) := by decide +kernel
theorem dX0_begins_31 : decode cX0_begins 31 = .ok (.iload_n 3, 1) := by decide +kernel
theorem dX0_begins_32 : decode cX0_begins 32 = .ok (.invokevirtual 67, 3) := by decide +kernel
theorem dX0_begins_35 : decode cX0_begins 35 = .ok (.aload_n 0, 1) := by decide +kernel
theorem dX0_begins_36 : decode cX0_begins 36 = .ok (.iload_n 2, 1) := by decide +kernel
theorem dX0_begins_37 : decode cX0_begins 37 = .ok (.iload_n 3, 1) := by decide +kernel
theorem dX0_begins_38 : decode cX0_begins 38 = .ok (.invokevirtual 67, 3) := by decide +kernel
theorem dX0_begins_41 : decode cX0_begins 41 = .ok (.iconst 1, 1) := by decide +kernel
theorem dX0_begins_42 : decode cX0_begins 42 = .ok (.isub, 1) := by decide +kernel
theorem dX0_begins_43 : decode cX0_begins 43 = .ok (.if_icmp .ne 7, 3) := by decide +kernel
theorem dX0_begins_46 : decode cX0_begins 46 = .ok (.iconst 1, 1) := by decide +kernel
theorem dX0_begins_47 : decode cX0_begins 47 = .ok (.goto 4, 3) := by decide +kernel
theorem dX0_begins_50 : decode cX0_begins 50 = .ok (.iconst 0, 1) := by decide +kernel
theorem dX0_begins_51 : decode cX0_begins 51 = .ok (.ireturn, 1) := by decide +kernel
theorem dX0_leastTolls_0 : decode cX0_leastTolls 0 = .ok (.aload_n 0, 1) := by decide +kernel
theorem dX0_leastTolls_1 : decode cX0_leastTolls 1 = .ok (.iload_n 1, 1) := by decide +kernel
theorem dX0_leastTolls_2 : decode cX0_leastTolls 2 = .ok (.iload_n 2, 1) := by decide +kernel
theorem dX0_leastTolls_3 : decode cX0_leastTolls 3 = .ok (.invokevirtual 67, 3) := by decide +kernel
theorem dX0_leastTolls_6 : decode cX0_leastTolls 6 = .ok (.istore_n 3, 1) := by decide +kernel
theorem dX0_leastTolls_7 : decode cX0_leastTolls 7 = .ok (.iload_n 3, 1) := by decide +kernel
theorem dX0_leastTolls_8 : decode cX0_leastTolls 8 = .ok (.iconst (-1), 1) := by decide +kernel
theorem dX0_leastTolls_9 : decode cX0_leastTolls 9 = .ok (.if_icmp .ne 5, 3) := by decide +kernel
theorem dX0_leastTolls_12 : decode cX0_leastTolls 12 = .ok (.iconst (-1), 1) := by decide +kernel
theorem dX0_leastTolls_13 : decode cX0_leastTolls 13 = .ok (.ireturn, 1) := by decide +kernel
theorem dX0_leastTolls_14 : decode cX0_leastTolls 14 = .ok (.aload_n 0, 1) := by decide +kernel
theorem dX0_leastTolls_15 : decode cX0_leastTolls 15 = .ok (.getfield 23, 3) := by decide +kernel
theorem dX0_leastTolls_18 : decode cX0_leastTolls 18 = .ok (.iload_n 2, 1) := by decide +kernel
theorem dX0_leastTolls_19 : decode cX0_leastTolls 19 = .ok (.iconst 0, 1) := by decide +kernel
theorem dX0_leastTolls_20 : decode cX0_leastTolls 20 = .ok (.invokevirtual 40, 3) := by decide +kernel
theorem dX0_leastTolls_23 : decode cX0_leastTolls 23 = .ok (.iconst 1, 1) := by decide +kernel
theorem dX0_leastTolls_24 : decode cX0_leastTolls 24 = .ok (.istore 4, 2) := by decide +kernel
theorem dX0_leastTolls_26 : decode cX0_leastTolls 26 = .ok (.iload 4, 2) := by decide +kernel
theorem dX0_leastTolls_28 : decode cX0_leastTolls 28 = .ok (.iload_n 3, 1) := by decide +kernel
theorem dX0_leastTolls_29 : decode cX0_leastTolls 29 = .ok (.if_icmp .gt 53, 3) := by decide +kernel
theorem dX0_leastTolls_32 : decode cX0_leastTolls 32 = .ok (.iconst 0, 1) := by decide +kernel
theorem dX0_leastTolls_33 : decode cX0_leastTolls 33 = .ok (.istore 5, 2) := by decide +kernel
theorem dX0_leastTolls_35 : decode cX0_leastTolls 35 = .ok (.iload 5, 2) := by decide +kernel
theorem dX0_leastTolls_37 : decode cX0_leastTolls 37 = .ok (.bipush 8, 2) := by decide +kernel
theorem dX0_leastTolls_39 : decode cX0_leastTolls 39 = .ok (.if_icmp .ge 37, 3) := by decide +kernel
theorem dX0_leastTolls_42 : decode cX0_leastTolls 42 = .ok (.aload_n 0, 1) := by decide +kernel
theorem dX0_leastTolls_43 : decode cX0_leastTolls 43 = .ok (.iload 5, 2) := by decide +kernel
theorem dX0_leastTolls_45 : decode cX0_leastTolls 45 = .ok (.iload_n 2, 1) := by decide +kernel
theorem dX0_leastTolls_46 : decode cX0_leastTolls 46 = .ok (.invokevirtual 67, 3) := by decide +kernel
theorem dX0_leastTolls_49 : decode cX0_leastTolls 49 = .ok (.iload 4, 2) := by decide +kernel
theorem dX0_leastTolls_51 : decode cX0_leastTolls 51 = .ok (.if_icmp .ne 19, 3) := by decide +kernel
theorem dX0_leastTolls_54 : decode cX0_leastTolls 54 = .ok (.aload_n 0, 1) := by decide +kernel
theorem dX0_leastTolls_55 : decode cX0_leastTolls 55 = .ok (.getfield 23, 3) := by decide +kernel
theorem dX0_leastTolls_58 : decode cX0_leastTolls 58 = .ok (.iload 5, 2) := by decide +kernel
theorem dX0_leastTolls_60 : decode cX0_leastTolls 60 = .ok (.aload_n 0, 1) := by decide +kernel
theorem dX0_leastTolls_61 : decode cX0_leastTolls 61 = .ok (.iload 5, 2) := by decide +kernel
theorem dX0_leastTolls_63 : decode cX0_leastTolls 63 = .ok (.iload_n 2, 1) := by decide +kernel
theorem dX0_leastTolls_64 : decode cX0_leastTolls 64 = .ok (.invokevirtual 81, 3) := by decide +kernel
theorem dX0_leastTolls_67 : decode cX0_leastTolls 67 = .ok (.invokevirtual 40, 3) := by decide +kernel
theorem dX0_leastTolls_70 : decode cX0_leastTolls 70 = .ok (.iinc 5 1, 3) := by decide +kernel
theorem dX0_leastTolls_73 : decode cX0_leastTolls 73 = .ok (.goto (-38), 3) := by decide +kernel
theorem dX0_leastTolls_76 : decode cX0_leastTolls 76 = .ok (.iinc 4 1, 3) := by decide +kernel
theorem dX0_leastTolls_79 : decode cX0_leastTolls 79 = .ok (.goto (-53), 3) := by decide +kernel
theorem dX0_leastTolls_82 : decode cX0_leastTolls 82 = .ok (.aload_n 0, 1) := by decide +kernel
theorem dX0_leastTolls_83 : decode cX0_leastTolls 83 = .ok (.getfield 23, 3) := by decide +kernel
theorem dX0_leastTolls_86 : decode cX0_leastTolls 86 = .ok (.iload_n 1, 1) := by decide +kernel
theorem dX0_leastTolls_87 : decode cX0_leastTolls 87 = .ok (.invokevirtual 33, 3) := by decide +kernel
theorem dX0_leastTolls_90 : decode cX0_leastTolls 90 = .ok (.ireturn, 1) := by decide +kernel
theorem dX0_cheapestFrom_0 : decode cX0_cheapestFrom 0 = .ok (.sipush 300, 3) := by decide +kernel
theorem dX0_cheapestFrom_3 : decode cX0_cheapestFrom 3 = .ok (.istore_n 3, 1) := by decide +kernel
theorem dX0_cheapestFrom_4 : decode cX0_cheapestFrom 4 = .ok (.iconst 0, 1) := by decide +kernel
theorem dX0_cheapestFrom_5 : decode cX0_cheapestFrom 5 = .ok (.istore 4, 2) := by decide +kernel
theorem dX0_cheapestFrom_7 : decode cX0_cheapestFrom 7 = .ok (.iload 4, 2) := by decide +kernel
theorem dX0_cheapestFrom_9 : decode cX0_cheapestFrom 9 = .ok (.aload_n 0, 1) := by decide +kernel
theorem dX0_cheapestFrom_10 : decode cX0_cheapestFrom 10 = .ok (.getfield 26, 3) := by decide +kernel
theorem dX0_cheapestFrom_13 : decode cX0_cheapestFrom 13 = .ok (.getfield 51, 3) := by decide +kernel
theorem dX0_cheapestFrom_16 : decode cX0_cheapestFrom 16 = .ok (.if_icmp .ge 59, 3) := by decide +kernel
theorem dX0_cheapestFrom_19 : decode cX0_cheapestFrom 19 = .ok (.aload_n 0, 1) := by decide +kernel
theorem dX0_cheapestFrom_20 : decode cX0_cheapestFrom 20 = .ok (.iload 4, 2) := by decide +kernel
theorem dX0_cheapestFrom_22 : decode cX0_cheapestFrom 22 = .ok (.iload_n 1, 1) := by decide +kernel
theorem dX0_cheapestFrom_23 : decode cX0_cheapestFrom 23 = .ok (.iload_n 2, 1) := by decide +kernel
theorem dX0_cheapestFrom_24 : decode cX0_cheapestFrom 24 = .ok (.invokevirtual 70, 3) := by decide +kernel
theorem dX0_cheapestFrom_27 : decode cX0_cheapestFrom 27 = .ok (.ifCond .eq 42, 3) := by decide +kernel
theorem dX0_cheapestFrom_30 : decode cX0_cheapestFrom 30 = .ok (.aload_n 0, 1) := by decide +kernel
theorem dX0_cheapestFrom_31 : decode cX0_cheapestFrom 31 = .ok (.getfield 26, 3) := by decide +kernel
theorem dX0_cheapestFrom_34 : decode cX0_cheapestFrom 34 = .ok (.getfield 84, 3) := by decide +kernel
theorem dX0_cheapestFrom_37 : decode cX0_cheapestFrom 37 = .ok (.iload 4, 2) := by decide +kernel
theorem dX0_cheapestFrom_39 : decode cX0_cheapestFrom 39 = .ok (.invokevirtual 33, 3) := by decide +kernel
theorem dX0_cheapestFrom_42 : decode cX0_cheapestFrom 42 = .ok (.aload_n 0, 1) := by decide +kernel
theorem dX0_cheapestFrom_43 : decode cX0_cheapestFrom 43 = .ok (.getfield 23, 3) := by decide +kernel
theorem dX0_cheapestFrom_46 : decode cX0_cheapestFrom 46 = .ok (.aload_n 0, 1) := by decide +kernel
theorem dX0_cheapestFrom_47 : decode cX0_cheapestFrom 47 = .ok (.getfield 26, 3) := by decide +kernel
theorem dX0_cheapestFrom_50 : decode cX0_cheapestFrom 50 = .ok (.iload 4, 2) := by decide +kernel
theorem dX0_cheapestFrom_52 : decode cX0_cheapestFrom 52 = .ok (.iload_n 1, 1) := by decide +kernel
theorem dX0_cheapestFrom_53 : decode cX0_cheapestFrom 53 = .ok (.invokevirtual 78, 3) := by decide +kernel
theorem dX0_cheapestFrom_56 : decode cX0_cheapestFrom 56 = .ok (.invokevirtual 33, 3) := by decide +kernel
theorem dX0_cheapestFrom_59 : decode cX0_cheapestFrom 59 = .ok (.iadd, 1) := by decide +kernel
theorem dX0_cheapestFrom_60 : decode cX0_cheapestFrom 60 = .ok (.istore 5, 2) := by decide +kernel
theorem dX0_cheapestFrom_62 : decode cX0_cheapestFrom 62 = .ok (.iload_n 3, 1) := by decide +kernel
theorem dX0_cheapestFrom_63 : decode cX0_cheapestFrom 63 = .ok (.iload 5, 2) := by decide +kernel
theorem dX0_cheapestFrom_65 : decode cX0_cheapestFrom 65 = .ok (.invokestatic 87, 3) := by decide +kernel
theorem dX0_cheapestFrom_68 : decode cX0_cheapestFrom 68 = .ok (.istore_n 3, 1) := by decide +kernel
theorem dX0_cheapestFrom_69 : decode cX0_cheapestFrom 69 = .ok (.iinc 4 1, 3) := by decide +kernel
theorem dX0_cheapestFrom_72 : decode cX0_cheapestFrom 72 = .ok (.goto (-65), 3) := by decide +kernel
theorem dX0_cheapestFrom_75 : decode cX0_cheapestFrom 75 = .ok (.iload_n 3, 1) := by decide +kernel
theorem dX0_cheapestFrom_76 : decode cX0_cheapestFrom 76 = .ok (.ireturn, 1) := by decide +kernel
theorem dX1_init_0 : decode cX1_init 0 = .ok (.aload_n 0, 1) := by decide +kernel
theorem dX1_init_1 : decode cX1_init 1 = .ok (.invokespecial 3, 3) := by decide +kernel
theorem dX1_init_4 : decode cX1_init 4 = .ok (.aload_n 0, 1) := by decide +kernel
theorem dX1_init_5 : decode cX1_init 5 = .ok (.new 9, 3) := by decide +kernel
theorem dX1_init_8 : decode cX1_init 8 = .ok (.dup, 1) := by decide +kernel
theorem dX1_init_9 : decode cX1_init 9 = .ok (.ldc 13, 2) := by decide +kernel
theorem dX1_init_11 : decode cX1_init 11 = .ok (.invokespecial 14, 3) := by decide +kernel
theorem dX1_init_14 : decode cX1_init 14 = .ok (.putfield 17, 3) := by decide +kernel
theorem dX1_init_17 : decode cX1_init 17 = .ok (.aload_n 0, 1) := by decide +kernel
theorem dX1_init_18 : decode cX1_init 18 = .ok (.new 9, 3) := by decide +kernel
theorem dX1_init_21 : decode cX1_init 21 = .ok (.dup, 1) := by decide +kernel
theorem dX1_init_22 : decode cX1_init 22 = .ok (.sipush 300, 3) := by decide +kernel
theorem dX1_init_25 : decode cX1_init 25 = .ok (.invokespecial 14, 3) := by decide +kernel
theorem dX1_init_28 : decode cX1_init 28 = .ok (.putfield 21, 3) := by decide +kernel
theorem dX1_init_31 : decode cX1_init 31 = .ok (.aload_n 0, 1) := by decide +kernel
theorem dX1_init_32 : decode cX1_init 32 = .ok (.new 9, 3) := by decide +kernel
theorem dX1_init_35 : decode cX1_init 35 = .ok (.dup, 1) := by decide +kernel
theorem dX1_init_36 : decode cX1_init 36 = .ok (.sipush 196, 3) := by decide +kernel
theorem dX1_init_39 : decode cX1_init 39 = .ok (.invokespecial 14, 3) := by decide +kernel
theorem dX1_init_42 : decode cX1_init 42 = .ok (.putfield 24, 3) := by decide +kernel
theorem dX1_init_45 : decode cX1_init 45 = .ok (.aload_n 0, 1) := by decide +kernel
theorem dX1_init_46 : decode cX1_init 46 = .ok (.aload_n 1, 1) := by decide +kernel
theorem dX1_init_47 : decode cX1_init 47 = .ok (.putfield 27, 3) := by decide +kernel
theorem dX1_init_50 : decode cX1_init 50 = .ok (.aload_n 0, 1) := by decide +kernel
theorem dX1_init_51 : decode cX1_init 51 = .ok (.aload_n 2, 1) := by decide +kernel
theorem dX1_init_52 : decode cX1_init 52 = .ok (.putfield 31, 3) := by decide +kernel
theorem dX1_init_55 : decode cX1_init 55 = .ok (.aload_n 0, 1) := by decide +kernel
theorem dX1_init_56 : decode cX1_init 56 = .ok (.aload_n 3, 1) := by decide +kernel
theorem dX1_init_57 : decode cX1_init 57 = .ok (.putfield 35, 3) := by decide +kernel
theorem dX1_init_60 : decode cX1_init 60 = .ok (.return_, 1) := by decide +kernel
theorem dX1_forget_0 : decode cX1_forget 0 = .ok (.aload_n 0, 1) := by decide +kernel
theorem dX1_forget_1 : decode cX1_forget 1 = .ok (.getfield 21, 3) := by decide +kernel
theorem dX1_forget_4 : decode cX1_forget 4 = .ok (.iconst 0, 1) := by decide +kernel
theorem dX1_forget_5 : decode cX1_forget 5 = .ok (.invokevirtual 39, 3) := by decide +kernel
theorem dX1_forget_8 : decode cX1_forget 8 = .ok (.return_, 1) := by decide +kernel
theorem dX1_chartOf_0 : decode cX1_chartOf 0 = .ok (.aload_n 0, 1) := by decide +kernel
theorem dX1_chartOf_1 : decode cX1_chartOf 1 = .ok (.getfield 35, 3) := by decide +kernel
theorem dX1_chartOf_4 : decode cX1_chartOf 4 = .ok (.getfield 42, 3) := by decide +kernel
theorem dX1_chartOf_7 : decode cX1_chartOf 7 = .ok (.iload_n 1, 1) := by decide +kernel
theorem dX1_chartOf_8 : decode cX1_chartOf 8 = .ok (.invokevirtual 47, 3) := by decide +kernel
theorem dX1_chartOf_11 : decode cX1_chartOf 11 = .ok (.iload_n 2, 1) := by decide +kernel
theorem dX1_chartOf_12 : decode cX1_chartOf 12 = .ok (.if_icmp .ne 7, 3) := by decide +kernel
theorem dX1_chartOf_15 : decode cX1_chartOf 15 = .ok (.iconst 0, 1) := by decide +kernel
theorem dX1_chartOf_16 : decode cX1_chartOf 16 = .ok (.goto 4, 3) := by decide +kernel
theorem dX1_chartOf_19 : decode cX1_chartOf 19 = .ok (.iconst 1, 1) := by decide +kernel
theorem dX1_chartOf_20 : decode cX1_chartOf 20 = .ok (.istore 4, 2) := by decide +kernel
theorem dX1_chartOf_22 : decode cX1_chartOf 22 = .ok (.iload_n 1, 1) := by decide +kernel
theorem dX1_chartOf_23 : decode cX1_chartOf 23 = .ok (.iconst 2, 1) := by decide +kernel
theorem dX1_chartOf_24 : decode cX1_chartOf 24 = .ok (.imul, 1) := by decide +kernel
theorem dX1_chartOf_25 : decode cX1_chartOf 25 = .ok (.iload 4, 2) := by decide +kernel
theorem dX1_chartOf_27 : decode cX1_chartOf 27 = .ok (.iadd, 1) := by decide +kernel
theorem dX1_chartOf_28 : decode cX1_chartOf 28 = .ok (.bipush 25, 2) := by decide +kernel
theorem dX1_chartOf_30 : decode cX1_chartOf 30 = .ok (.imul, 1) := by decide +kernel
theorem dX1_chartOf_31 : decode cX1_chartOf 31 = .ok (.iload_n 3, 1) := by decide +kernel
theorem dX1_chartOf_32 : decode cX1_chartOf 32 = .ok (.iadd, 1) := by decide +kernel
theorem dX1_chartOf_33 : decode cX1_chartOf 33 = .ok (.istore 5, 2) := by decide +kernel
theorem dX1_chartOf_35 : decode cX1_chartOf 35 = .ok (.iload 5, 2) := by decide +kernel
theorem dX1_chartOf_37 : decode cX1_chartOf 37 = .ok (.sipush 196, 3) := by decide +kernel
theorem dX1_chartOf_40 : decode cX1_chartOf 40 = .ok (.imul, 1) := by decide +kernel
theorem dX1_chartOf_41 : decode cX1_chartOf 41 = .ok (.istore 6, 2) := by decide +kernel
theorem dX1_chartOf_43 : decode cX1_chartOf 43 = .ok (.aload_n 0, 1) := by decide +kernel
theorem dX1_chartOf_44 : decode cX1_chartOf 44 = .ok (.getfield 21, 3) := by decide +kernel
theorem dX1_chartOf_47 : decode cX1_chartOf 47 = .ok (.iload 5, 2) := by decide +kernel
theorem dX1_chartOf_49 : decode cX1_chartOf 49 = .ok (.iconst 1, 1) := by decide +kernel
theorem dX1_chartOf_50 : decode cX1_chartOf 50 = .ok (.invokevirtual 51, 3) := by decide +kernel
theorem dX1_chartOf_53 : decode cX1_chartOf 53 = .ok (.ifCond .ne 22, 3) := by decide +kernel
theorem dX1_chartOf_56 : decode cX1_chartOf 56 = .ok (.aload_n 0, 1) := by decide +kernel
theorem dX1_chartOf_57 : decode cX1_chartOf 57 = .ok (.iload 6, 2) := by decide +kernel
theorem dX1_chartOf_59 : decode cX1_chartOf 59 = .ok (.iload_n 1, 1) := by decide +kernel
theorem dX1_chartOf_60 : decode cX1_chartOf 60 = .ok (.aload_n 0, 1) := by decide +kernel
theorem dX1_chartOf_61 : decode cX1_chartOf 61 = .ok (.getfield 31, 3) := by decide +kernel
theorem dX1_chartOf_64 : decode cX1_chartOf 64 = .ok (.getfield 55, 3) := by decide +kernel
theorem dX1_chartOf_67 : decode cX1_chartOf 67 = .ok (.iload_n 2, 1) := by decide +kernel
theorem dX1_chartOf_68 : decode cX1_chartOf 68 = .ok (.invokevirtual 47, 3) := by decide +kernel
theorem dX1_chartOf_71 : decode cX1_chartOf 71 = .ok (.iload_n 3, 1) := by decide +kernel
theorem dX1_chartOf_72 : decode cX1_chartOf 72 = .ok (.invokevirtual 60, 3) := by decide +kernel
theorem dX1_chartOf_75 : decode cX1_chartOf 75 = .ok (.iload 6, 2) := by decide +kernel
theorem dX1_chartOf_77 : decode cX1_chartOf 77 = .ok (.ireturn, 1) := by decide +kernel
theorem dX1_way_0 : decode cX1_way 0 = .ok (.aload_n 0, 1) := by decide +kernel
theorem dX1_way_1 : decode cX1_way 1 = .ok (.getfield 17, 3) := by decide +kernel
theorem dX1_way_4 : decode cX1_way 4 = .ok (.iload_n 1, 1) := by decide +kernel
theorem dX1_way_5 : decode cX1_way 5 = .ok (.iload_n 2, 1) := by decide +kernel
theorem dX1_way_6 : decode cX1_way 6 = .ok (.iadd, 1) := by decide +kernel
theorem dX1_way_7 : decode cX1_way 7 = .ok (.invokevirtual 47, 3) := by decide +kernel
theorem dX1_way_10 : decode cX1_way 10 = .ok (.ireturn, 1) := by decide +kernel
theorem dX1_nextStep_0 : decode cX1_nextStep 0 = .ok (.aload_n 0, 1) := by decide +kernel
theorem dX1_nextStep_1 : decode cX1_nextStep 1 = .ok (.iload_n 1, 1) := by decide +kernel
theorem dX1_nextStep_2 : decode cX1_nextStep 2 = .ok (.iload_n 2, 1) := by decide +kernel
theorem dX1_nextStep_3 : decode cX1_nextStep 3 = .ok (.invokevirtual 64, 3) := by decide +kernel
theorem dX1_nextStep_6 : decode cX1_nextStep 6 = .ok (.istore_n 3, 1) := by decide +kernel
theorem dX1_nextStep_7 : decode cX1_nextStep 7 = .ok (.iconst 0, 1) := by decide +kernel
theorem dX1_nextStep_8 : decode cX1_nextStep 8 = .ok (.istore 4, 2) := by decide +kernel
theorem dX1_nextStep_10 : decode cX1_nextStep 10 = .ok (.iload_n 3, 1) := by decide +kernel
theorem dX1_nextStep_11 : decode cX1_nextStep 11 = .ok (.ifCond .le 45, 3) := by decide +kernel
theorem dX1_nextStep_14 : decode cX1_nextStep 14 = .ok (.iload 4, 2) := by decide +kernel
theorem dX1_nextStep_16 : decode cX1_nextStep 16 = .ok (.iconst 4, 1) := by decide +kernel
theorem dX1_nextStep_17 : decode cX1_nextStep 17 = .ok (.if_icmp .ge 39, 3) := by decide +kernel
theorem dX1_nextStep_20 : decode cX1_nextStep 20 = .ok (.iload_n 2, 1) := by decide +kernel
theorem dX1_nextStep_21 : decode cX1_nextStep 21 = .ok (.iload 4, 2) := by decide +kernel
theorem dX1_nextStep_23 : decode cX1_nextStep 23 = .ok (.invokestatic 67, 3) := by decide +kernel
theorem dX1_nextStep_26 : decode cX1_nextStep 26 = .ok (.istore 5, 2) := by decide +kernel
theorem dX1_nextStep_28 : decode cX1_nextStep 28 = .ok (.iload 5, 2) := by decide +kernel
theorem dX1_nextStep_30 : decode cX1_nextStep 30 = .ok (.iconst (-1), 1) := by decide +kernel
theorem dX1_nextStep_31 : decode cX1_nextStep 31 = .ok (.if_icmp .eq 19, 3) := by decide +kernel
theorem dX1_nextStep_34 : decode cX1_nextStep 34 = .ok (.aload_n 0, 1) := by decide +kernel
theorem dX1_nextStep_35 : decode cX1_nextStep 35 = .ok (.iload_n 1, 1) := by decide +kernel
theorem dX1_nextStep_36 : decode cX1_nextStep 36 = .ok (.iload 5, 2) := by decide +kernel
theorem dX1_nextStep_38 : decode cX1_nextStep 38 = .ok (.invokevirtual 64, 3) := by decide +kernel
theorem dX1_nextStep_41 : decode cX1_nextStep 41 = .ok (.iload_n 3, 1) := by decide +kernel
theorem dX1_nextStep_42 : decode cX1_nextStep 42 = .ok (.iconst 1, 1) := by decide +kernel
theorem dX1_nextStep_43 : decode cX1_nextStep 43 = .ok (.isub, 1) := by decide +kernel
theorem dX1_nextStep_44 : decode cX1_nextStep 44 = .ok (.if_icmp .ne 6, 3) := by decide +kernel
theorem dX1_nextStep_47 : decode cX1_nextStep 47 = .ok (.iload 5, 2) := by decide +kernel
theorem dX1_nextStep_49 : decode cX1_nextStep 49 = .ok (.ireturn, 1) := by decide +kernel
theorem dX1_nextStep_50 : decode cX1_nextStep 50 = .ok (.iinc 4 1, 3) := by decide +kernel
theorem dX1_nextStep_53 : decode cX1_nextStep 53 = .ok (.goto (-43), 3) := by decide +kernel
theorem dX1_nextStep_56 : decode cX1_nextStep 56 = .ok (.iconst (-1), 1) := by decide +kernel
theorem dX1_nextStep_57 : decode cX1_nextStep 57 = .ok (.ireturn, 1) := by decide +kernel
theorem dX1_draw_0 : decode cX1_draw 0 = .ok (.iconst 0, 1) := by decide +kernel
theorem dX1_draw_1 : decode cX1_draw 1 = .ok (.istore 5, 2) := by decide +kernel
theorem dX1_draw_3 : decode cX1_draw 3 = .ok (.iload 5, 2) := by decide +kernel
theorem dX1_draw_5 : decode cX1_draw 5 = .ok (.sipush 196, 3) := by decide +kernel
theorem dX1_draw_8 : decode cX1_draw 8 = .ok (.if_icmp .ge 21, 3) := by decide +kernel
theorem dX1_draw_11 : decode cX1_draw 11 = .ok (.aload_n 0, 1) := by decide +kernel
theorem dX1_draw_12 : decode cX1_draw 12 = .ok (.getfield 17, 3) := by decide +kernel
theorem dX1_draw_15 : decode cX1_draw 15 = .ok (.iload_n 1, 1) := by decide +kernel
theorem dX1_draw_16 : decode cX1_draw 16 = .ok (.iload 5, 2) := by decide +kernel
theorem dX1_draw_18 : decode cX1_draw 18 = .ok (.iadd, 1) := by decide +kernel
theorem dX1_draw_19 : decode cX1_draw 19 = .ok (.iconst (-1), 1) := by decide +kernel
theorem dX1_draw_20 : decode cX1_draw 20 = .ok (.invokevirtual 72, 3) := by decide +kernel
theorem dX1_draw_23 : decode cX1_draw 23 = .ok (.iinc 5 1, 3) := by decide +kernel
theorem dX1_draw_26 : decode cX1_draw 26 = .ok (.goto (-23), 3) := by decide +kernel
theorem dX1_draw_29 : decode cX1_draw 29 = .ok (.aload_n 0, 1) := by decide +kernel
theorem dX1_draw_30 : decode cX1_draw 30 = .ok (.getfield 35, 3) := by decide +kernel
theorem dX1_draw_33 : decode cX1_draw 33 = .ok (.iload_n 2, 1) := by decide +kernel
theorem dX1_draw_34 : decode cX1_draw 34 = .ok (.aload_n 0, 1) := by decide +kernel
theorem dX1_draw_35 : decode cX1_draw 35 = .ok (.getfield 27, 3) := by decide +kernel
theorem dX1_draw_38 : decode cX1_draw 38 = .ok (.iload_n 3, 1) := by decide +kernel
theorem dX1_draw_39 : decode cX1_draw 39 = .ok (.iload 4, 2) := by decide +kernel
theorem dX1_draw_41 : decode cX1_draw 41 = .ok (.invokevirtual 76, 3) := by decide +kernel
theorem dX1_draw_44 : decode cX1_draw 44 = .ok (.invokevirtual 79, 3) := by decide +kernel
theorem dX1_draw_47 : decode cX1_draw 47 = .ok (.ifCond .ne 4, 3) := by decide +kernel
theorem dX1_draw_50 : decode cX1_draw 50 = .ok (.return_, 1) := by decide +kernel
theorem dX1_draw_51 : decode cX1_draw 51 = .ok (.aload_n 0, 1) := by decide +kernel
theorem dX1_draw_52 : decode cX1_draw 52 = .ok (.getfield 17, 3) := by decide +kernel
theorem dX1_draw_55 : decode cX1_draw 55 = .ok (.iload_n 1, 1) := by decide +kernel
theorem dX1_draw_56 : decode cX1_draw 56 = .ok (.iload_n 3, 1) := by decide +kernel
theorem dX1_draw_57 : decode cX1_draw 57 = .ok (.iadd, 1) := by decide +kernel
theorem dX1_draw_58 : decode cX1_draw 58 = .ok (.iconst 0, 1) := by decide +kernel
theorem dX1_draw_59 : decode cX1_draw 59 = .ok (.invokevirtual 72, 3) := by decide +kernel
theorem dX1_draw_62 : decode cX1_draw 62 = .ok (.aload_n 0, 1) := by decide +kernel
theorem dX1_draw_63 : decode cX1_draw 63 = .ok (.getfield 24, 3) := by decide +kernel
theorem dX1_draw_66 : decode cX1_draw 66 = .ok (.iconst 0, 1) := by decide +kernel
theorem dX1_draw_67 : decode cX1_draw 67 = .ok (.iload_n 3, 1) := by decide +kernel
theorem dX1_draw_68 : decode cX1_draw 68 = .ok (.invokevirtual 72, 3) := by decide +kernel
theorem dX1_draw_71 : decode cX1_draw 71 = .ok (.iconst 1, 1) := by decide +kernel
theorem dX1_draw_72 : decode cX1_draw 72 = .ok (.istore 5, 2) := by decide +kernel
theorem dX1_draw_74 : decode cX1_draw 74 = .ok (.iconst 0, 1) := by decide +kernel
theorem dX1_draw_75 : decode cX1_draw 75 = .ok (.istore 6, 2) := by decide +kernel
theorem dX1_draw_77 : decode cX1_draw 77 = .ok (.iload 6, 2) := by decide +kernel
theorem dX1_draw_79 : decode cX1_draw 79 = .ok (.iload 5, 2) := by decide +kernel
theorem dX1_draw_81 : decode cX1_draw 81 = .ok (.if_icmp .ge 133, 3) := by decide +kernel
theorem dX1_draw_84 : decode cX1_draw 84 = .ok (.iload 6, 2) := by decide +kernel
theorem dX1_draw_86 : decode cX1_draw 86 = .ok (.sipush 196, 3) := by decide +kernel
theorem dX1_draw_89 : decode cX1_draw 89 = .ok (.if_icmp .ge 125, 3) := by decide +kernel
theorem dX1_draw_92 : decode cX1_draw 92 = .ok (.aload_n 0, 1) := by decide +kernel
theorem dX1_draw_93 : decode cX1_draw 93 = .ok (.getfield 24, 3) := by decide +kernel
theorem dX1_draw_96 : decode cX1_draw 96 = .ok (.iload 6, 2) := by decide +kernel
theorem dX1_draw_98 : decode cX1_draw 98 = .ok (.invokevirtual 47, 3) := by decide +kernel
theorem dX1_draw_101 : decode cX1_draw 101 = .ok (.istore 7, 2) := by decide +kernel
theorem dX1_draw_103 : decode cX1_draw 103 = .ok (.iconst 0, 1) := by decide +kernel
theorem dX1_draw_104 : decode cX1_draw 104 = .ok (.istore 8, 2) := by decide +kernel
theorem dX1_draw_106 : decode cX1_draw 106 = .ok (.iload 8, 2) := by decide +kernel
theorem dX1_draw_108 : decode cX1_draw 108 = .ok (.iconst 4, 1) := by decide +kernel
theorem dX1_draw_109 : decode cX1_draw 109 = .ok (.if_icmp .ge 99, 3) := by decide +kernel
theorem dX1_draw_112 : decode cX1_draw 112 = .ok (.iload 7, 2) := by decide +kernel
theorem dX1_draw_114 : decode cX1_draw 114 = .ok (.iload 8, 2) := by decide +kernel
theorem dX1_draw_116 : decode cX1_draw 116 = .ok (.invokestatic 67, 3) := by decide +kernel
theorem dX1_draw_119 : decode cX1_draw 119 = .ok (.istore 9, 2) := by decide +kernel
theorem dX1_draw_121 : decode cX1_draw 121 = .ok (.iload 9, 2) := by decide +kernel
theorem dX1_draw_123 : decode cX1_draw 123 = .ok (.iconst (-1), 1) := by decide +kernel
theorem dX1_draw_124 : decode cX1_draw 124 = .ok (.if_icmp .eq 78, 3) := by decide +kernel
theorem dX1_draw_127 : decode cX1_draw 127 = .ok (.aload_n 0, 1) := by decide +kernel
theorem dX1_draw_128 : decode cX1_draw 128 = .ok (.getfield 17, 3) := by decide +kernel
theorem dX1_draw_131 : decode cX1_draw 131 = .ok (.iload_n 1, 1) := by decide +kernel
theorem dX1_draw_132 : decode cX1_draw 132 = .ok (.iload 9, 2) := by decide +kernel
theorem dX1_draw_134 : decode cX1_draw 134 = .ok (.iadd, 1) := by decide +kernel
theorem dX1_draw_135 : decode cX1_draw 135 = .ok (.invokevirtual 47, 3) := by decide +kernel
theorem dX1_draw_138 : decode cX1_draw 138 = .ok (.iconst (-1), 1) := by decide +kernel
theorem dX1_draw_139 : decode cX1_draw 139 = .ok (.if_icmp .ne 63, 3) := by decide +kernel
theorem dX1_draw_142 : decode cX1_draw 142 = .ok (.aload_n 0, 1) := by decide +kernel
theorem dX1_draw_143 : decode cX1_draw 143 = .ok (.getfield 35, 3) := by decide +kernel
theorem dX1_draw_146 : decode cX1_draw 146 = .ok (.iload_n 2, 1) := by decide +kernel
theorem dX1_draw_147 : decode cX1_draw 147 = .ok (.aload_n 0, 1) := by decide +kernel
theorem dX1_draw_148 : decode cX1_draw 148 = .ok (.getfield 27, 3) := by decide +kernel
theorem dX1_draw_151 : decode cX1_draw 151 = .ok (.iload 9, 2) := by decide +kernel
theorem dX1_draw_153 : decode cX1_draw 153 = .ok (.iload 4, 2) := by decide +kernel
theorem dX1_draw_155 : decode cX1_draw 155 = .ok (.invokevirtual 76, 3) := by decide +kernel
theorem dX1_draw_158 : decode cX1_draw 158 = .ok (.invokevirtual 79, 3) := by decide +kernel
theorem dX1_draw_161 : decode cX1_draw 161 = .ok (.ifCond .eq 41, 3) := by decide +kernel
theorem dX1_draw_164 : decode cX1_draw 164 = .ok (.aload_n 0, 1) := by decide +kernel
theorem dX1_draw_165 : decode cX1_draw 165 = .ok (.getfield 17, 3) := by decide +kernel
theorem dX1_draw_168 : decode cX1_draw 168 = .ok (.iload_n 1, 1) := by decide +kernel
theorem dX1_draw_169 : decode cX1_draw 169 = .ok (.iload 9, 2) := by decide +kernel
theorem dX1_draw_171 : decode cX1_draw 171 = .ok (.iadd, 1) := by decide +kernel
theorem dX1_draw_172 : decode cX1_draw 172 = .ok (.aload_n 0, 1) := by decide +kernel
theorem dX1_draw_173 : decode cX1_draw 173 = .ok (.getfield 17, 3) := by decide +kernel
theorem dX1_draw_176 : decode cX1_draw 176 = .ok (.iload_n 1, 1) := by decide +kernel
theorem dX1_draw_177 : decode cX1_draw 177 = .ok (.iload 7, 2) := by decide +kernel
theorem dX1_draw_179 : decode cX1_draw 179 = .ok (.iadd, 1) := by decide +kernel
theorem dX1_draw_180 : decode cX1_draw 180 = .ok (.invokevirtual 47, 3) := by decide +kernel
theorem dX1_draw_183 : decode cX1_draw 183 = .ok (.iconst 1, 1) := by decide +kernel
theorem dX1_draw_184 : decode cX1_draw 184 = .ok (.iadd, 1) := by decide +kernel
theorem dX1_draw_185 : decode cX1_draw 185 = .ok (.invokevirtual 72, 3) := by decide +kernel
theorem dX1_draw_188 : decode cX1_draw 188 = .ok (.aload_n 0, 1) := by decide +kernel
theorem dX1_draw_189 : decode cX1_draw 189 = .ok (.getfield 24, 3) := by decide +kernel
theorem dX1_draw_192 : decode cX1_draw 192 = .ok (.iload 5, 2) := by decide +kernel
theorem dX1_draw_194 : decode cX1_draw 194 = .ok (.iload 9, 2) := by decide +kernel
theorem dX1_draw_196 : decode cX1_draw 196 = .ok (.invokevirtual 72, 3) := by decide +kernel
theorem dX1_draw_199 : decode cX1_draw 199 = .ok (.iinc 5 1, 3) := by decide +kernel
theorem dX1_draw_202 : decode cX1_draw 202 = .ok (.iinc 8 1, 3) := by decide +kernel
theorem dX1_draw_205 : decode cX1_draw 205 = .ok (.goto (-99), 3) := by decide +kernel
theorem dX1_draw_208 : decode cX1_draw 208 = .ok (.iinc 6 1, 3) := by decide +kernel
theorem dX1_draw_211 : decode cX1_draw 211 = .ok (.goto (-134), 3) := by decide +kernel
theorem dX1_draw_214 : decode cX1_draw 214 = .ok (.return_, 1) := by decide +kernel
theorem dX2_init_0 : decode cX2_init 0 = .ok (.aload_n 0, 1) := by decide +kernel
theorem dX2_init_1 : decode cX2_init 1 = .ok (.invokespecial 3, 3) := by decide +kernel
theorem dX2_init_4 : decode cX2_init 4 = .ok (.aload_n 0, 1) := by decide +kernel
theorem dX2_init_5 : decode cX2_init 5 = .ok (.new 9, 3) := by decide +kernel
theorem dX2_init_8 : decode cX2_init 8 = .ok (.dup, 1) := by decide +kernel
theorem dX2_init_9 : decode cX2_init 9 = .ok (.bipush 6, 2) := by decide +kernel
theorem dX2_init_11 : decode cX2_init 11 = .ok (.invokespecial 11, 3) := by decide +kernel
theorem dX2_init_14 : decode cX2_init 14 = .ok (.putfield 14, 3) := by decide +kernel
theorem dX2_init_17 : decode cX2_init 17 = .ok (.aload_n 0, 1) := by decide +kernel
theorem dX2_init_18 : decode cX2_init 18 = .ok (.new 9, 3) := by decide +kernel
theorem dX2_init_21 : decode cX2_init 21 = .ok (.dup, 1) := by decide +kernel
theorem dX2_init_22 : decode cX2_init 22 = .ok (.bipush 6, 2) := by decide +kernel
theorem dX2_init_24 : decode cX2_init 24 = .ok (.invokespecial 11, 3) := by decide +kernel
theorem dX2_init_27 : decode cX2_init 27 = .ok (.putfield 20, 3) := by decide +kernel
theorem dX2_init_30 : decode cX2_init 30 = .ok (.aload_n 0, 1) := by decide +kernel
theorem dX2_init_31 : decode cX2_init 31 = .ok (.new 9, 3) := by decide +kernel
theorem dX2_init_34 : decode cX2_init 34 = .ok (.dup, 1) := by decide +kernel
theorem dX2_init_35 : decode cX2_init 35 = .ok (.bipush 6, 2) := by decide +kernel
theorem dX2_init_37 : decode cX2_init 37 = .ok (.invokespecial 11, 3) := by decide +kernel
theorem dX2_init_40 : decode cX2_init 40 = .ok (.putfield 23, 3) := by decide +kernel
theorem dX2_init_43 : decode cX2_init 43 = .ok (.aload_n 0, 1) := by decide +kernel
theorem dX2_init_44 : decode cX2_init 44 = .ok (.new 9, 3) := by decide +kernel
theorem dX2_init_47 : decode cX2_init 47 = .ok (.dup, 1) := by decide +kernel
theorem dX2_init_48 : decode cX2_init 48 = .ok (.bipush 6, 2) := by decide +kernel
theorem dX2_init_50 : decode cX2_init 50 = .ok (.invokespecial 11, 3) := by decide +kernel
theorem dX2_init_53 : decode cX2_init 53 = .ok (.putfield 26, 3) := by decide +kernel
theorem dX2_init_56 : decode cX2_init 56 = .ok (.aload_n 0, 1) := by decide +kernel
theorem dX2_init_57 : decode cX2_init 57 = .ok (.new 9, 3) := by decide +kernel
theorem dX2_init_60 : decode cX2_init 60 = .ok (.dup, 1) := by decide +kernel
theorem dX2_init_61 : decode cX2_init 61 = .ok (.bipush 6, 2) := by decide +kernel
theorem dX2_init_63 : decode cX2_init 63 = .ok (.invokespecial 11, 3) := by decide +kernel
theorem dX2_init_66 : decode cX2_init 66 = .ok (.putfield 29, 3) := by decide +kernel
theorem dX2_init_69 : decode cX2_init 69 = .ok (.aload_n 0, 1) := by decide +kernel
theorem dX2_init_70 : decode cX2_init 70 = .ok (.new 9, 3) := by decide +kernel
theorem dX2_init_73 : decode cX2_init 73 = .ok (.dup, 1) := by decide +kernel
theorem dX2_init_74 : decode cX2_init 74 = .ok (.bipush 6, 2) := by decide +kernel
theorem dX2_init_76 : decode cX2_init 76 = .ok (.invokespecial 11, 3) := by decide +kernel
theorem dX2_init_79 : decode cX2_init 79 = .ok (.putfield 32, 3) := by decide +kernel
theorem dX2_init_82 : decode cX2_init 82 = .ok (.return_, 1) := by decide +kernel
theorem dX2_add_0 : decode cX2_add 0 = .ok (.aload_n 0, 1) := by decide +kernel
theorem dX2_add_1 : decode cX2_add 1 = .ok (.getfield 35, 3) := by decide +kernel
theorem dX2_add_4 : decode cX2_add 4 = .ok (.istore_n 3, 1) := by decide +kernel
theorem dX2_add_5 : decode cX2_add 5 = .ok (.aload_n 0, 1) := by decide +kernel
theorem dX2_add_6 : decode cX2_add 6 = .ok (.getfield 14, 3) := by decide +kernel
theorem dX2_add_9 : decode cX2_add 9 = .ok (.iload_n 3, 1) := by decide +kernel
theorem dX2_add_10 : decode cX2_add 10 = .ok (.iload_n 1, 1) := by decide +kernel
theorem dX2_add_11 : decode cX2_add 11 = .ok (.invokevirtual 39, 3) := by decide +kernel
theorem dX2_add_14 : decode cX2_add 14 = .ok (.aload_n 0, 1) := by decide +kernel
theorem dX2_add_15 : decode cX2_add 15 = .ok (.getfield 20, 3) := by decide +kernel
theorem dX2_add_18 : decode cX2_add 18 = .ok (.iload_n 3, 1) := by decide +kernel
theorem dX2_add_19 : decode cX2_add 19 = .ok (.iload_n 2, 1) := by decide +kernel
theorem dX2_add_20 : decode cX2_add 20 = .ok (.invokevirtual 39, 3) := by decide +kernel
theorem dX2_add_23 : decode cX2_add 23 = .ok (.aload_n 0, 1) := by decide +kernel
theorem dX2_add_24 : decode cX2_add 24 = .ok (.dup, 1) := by decide +kernel
theorem dX2_add_25 : decode cX2_add 25 = .ok (.getfield 35, 3) := by decide +kernel
theorem dX2_add_28 : decode cX2_add 28 = .ok (.iconst 1, 1) := by decide +kernel
theorem dX2_add_29 : decode cX2_add 29 = .ok (.iadd, 1) := by decide +kernel
theorem dX2_add_30 : decode cX2_add 30 = .ok (.putfield 35, 3) := by decide +kernel
theorem dX2_add_33 : decode cX2_add 33 = .ok (.iload_n 3, 1) := by decide +kernel
theorem dX2_add_34 : decode cX2_add 34 = .ok (.ireturn, 1) := by decide +kernel
theorem dX2_fitOut_0 : decode cX2_fitOut 0 = .ok (.aload_n 0, 1) := by decide +kernel
theorem dX2_fitOut_1 : decode cX2_fitOut 1 = .ok (.getfield 23, 3) := by decide +kernel
theorem dX2_fitOut_4 : decode cX2_fitOut 4 = .ok (.iload_n 1, 1) := by decide +kernel
theorem dX2_fitOut_5 : decode cX2_fitOut 5 = .ok (.iload_n 2, 1) := by decide +kernel
theorem dX2_fitOut_6 : decode cX2_fitOut 6 = .ok (.invokevirtual 39, 3) := by decide +kernel
theorem dX2_fitOut_9 : decode cX2_fitOut 9 = .ok (.aload_n 0, 1) := by decide +kernel
theorem dX2_fitOut_10 : decode cX2_fitOut 10 = .ok (.getfield 26, 3) := by decide +kernel
theorem dX2_fitOut_13 : decode cX2_fitOut 13 = .ok (.iload_n 1, 1) := by decide +kernel
theorem dX2_fitOut_14 : decode cX2_fitOut 14 = .ok (.iload_n 3, 1) := by decide +kernel
theorem dX2_fitOut_15 : decode cX2_fitOut 15 = .ok (.invokevirtual 39, 3) := by decide +kernel
theorem dX2_fitOut_18 : decode cX2_fitOut 18 = .ok (.aload_n 0, 1) := by decide +kernel
theorem dX2_fitOut_19 : decode cX2_fitOut 19 = .ok (.getfield 29, 3) := by decide +kernel
theorem dX2_fitOut_22 : decode cX2_fitOut 22 = .ok (.iload_n 1, 1) := by decide +kernel
theorem dX2_fitOut_23 : decode cX2_fitOut 23 = .ok (.iload 4, 2) := by decide +kernel
theorem dX2_fitOut_25 : decode cX2_fitOut 25 = .ok (.invokevirtual 39, 3) := by decide +kernel
theorem dX2_fitOut_28 : decode cX2_fitOut 28 = .ok (.aload_n 0, 1) := by decide +kernel
theorem dX2_fitOut_29 : decode cX2_fitOut 29 = .ok (.getfield 32, 3) := by decide +kernel
theorem dX2_fitOut_32 : decode cX2_fitOut 32 = .ok (.iload_n 1, 1) := by decide +kernel
theorem dX2_fitOut_33 : decode cX2_fitOut 33 = .ok (.iload 5, 2) := by decide +kernel
theorem dX2_fitOut_35 : decode cX2_fitOut 35 = .ok (.invokevirtual 39, 3) := by decide +kernel
theorem dX2_fitOut_38 : decode cX2_fitOut 38 = .ok (.return_, 1) := by decide +kernel
theorem dX2_floats_0 : decode cX2_floats 0 = .ok (.iload_n 2, 1) := by decide +kernel
theorem dX2_floats_1 : decode cX2_floats 1 = .ok (.aload_n 0, 1) := by decide +kernel
theorem dX2_floats_2 : decode cX2_floats 2 = .ok (.getfield 23, 3) := by decide +kernel
theorem dX2_floats_5 : decode cX2_floats 5 = .ok (.iload_n 1, 1) := by decide +kernel
theorem dX2_floats_6 : decode cX2_floats 6 = .ok (.invokevirtual 43, 3) := by decide +kernel
theorem dX2_floats_9 : decode cX2_floats 9 = .ok (.if_icmp .lt 19, 3) := by decide +kernel
theorem dX2_floats_12 : decode cX2_floats 12 = .ok (.iload_n 2, 1) := by decide +kernel
theorem dX2_floats_13 : decode cX2_floats 13 = .ok (.aload_n 0, 1) := by decide +kernel
theorem dX2_floats_14 : decode cX2_floats 14 = .ok (.getfield 26, 3) := by decide +kernel
theorem dX2_floats_17 : decode cX2_floats 17 = .ok (.iload_n 1, 1) := by decide +kernel
theorem dX2_floats_18 : decode cX2_floats 18 = .ok (.invokevirtual 43, 3) := by decide +kernel
theorem dX2_floats_21 : decode cX2_floats 21 = .ok (.if_icmp .gt 7, 3) := by decide +kernel
theorem dX2_floats_24 : decode cX2_floats 24 = .ok (.iconst 1, 1) := by decide +kernel
theorem dX2_floats_25 : decode cX2_floats 25 = .ok (.goto 4, 3) := by decide +kernel
theorem dX2_floats_28 : decode cX2_floats 28 = .ok (.iconst 0, 1) := by decide +kernel
theorem dX2_floats_29 : decode cX2_floats 29 = .ok (.ireturn, 1) := by decide +kernel
theorem dX2_goesFrom_0 : decode cX2_goesFrom 0 = .ok (.aload_n 0, 1) := by decide +kernel
theorem dX2_goesFrom_1 : decode cX2_goesFrom 1 = .ok (.getfield 14, 3) := by decide +kernel
theorem dX2_goesFrom_4 : decode cX2_goesFrom 4 = .ok (.iload_n 1, 1) := by decide +kernel
theorem dX2_goesFrom_5 : decode cX2_goesFrom 5 = .ok (.invokevirtual 43, 3) := by decide +kernel
theorem dX2_goesFrom_8 : decode cX2_goesFrom 8 = .ok (.iload_n 2, 1) := by decide +kernel
theorem dX2_goesFrom_9 : decode cX2_goesFrom 9 = .ok (.if_icmp .eq 15, 3) := by decide +kernel
theorem dX2_goesFrom_12 : decode cX2_goesFrom 12 = .ok (.aload_n 0, 1) := by decide +kernel
theorem dX2_goesFrom_13 : decode cX2_goesFrom 13 = .ok (.getfield 20, 3) := by decide +kernel
theorem dX2_goesFrom_16 : decode cX2_goesFrom 16 = .ok (.iload_n 1, 1) := by decide +kernel
theorem dX2_goesFrom_17 : decode cX2_goesFrom 17 = .ok (.invokevirtual 43, 3) := by decide +kernel
theorem dX2_goesFrom_20 : decode cX2_goesFrom 20 = .ok (.iload_n 2, 1) := by decide +kernel
theorem dX2_goesFrom_21 : decode cX2_goesFrom 21 = .ok (.if_icmp .ne 7, 3) := by decide +kernel
theorem dX2_goesFrom_24 : decode cX2_goesFrom 24 = .ok (.iconst 1, 1) := by decide +kernel
theorem dX2_goesFrom_25 : decode cX2_goesFrom 25 = .ok (.goto 4, 3) := by decide +kernel
theorem dX2_goesFrom_28 : decode cX2_goesFrom 28 = .ok (.iconst 0, 1) := by decide +kernel
theorem dX2_goesFrom_29 : decode cX2_goesFrom 29 = .ok (.ireturn, 1) := by decide +kernel
theorem dX2_otherEnd_0 : decode cX2_otherEnd 0 = .ok (.aload_n 0, 1) := by decide +kernel
theorem dX2_otherEnd_1 : decode cX2_otherEnd 1 = .ok (.getfield 14, 3) := by decide +kernel
theorem dX2_otherEnd_4 : decode cX2_otherEnd 4 = .ok (.iload_n 1, 1) := by decide +kernel
theorem dX2_otherEnd_5 : decode cX2_otherEnd 5 = .ok (.invokevirtual 43, 3) := by decide +kernel
theorem dX2_otherEnd_8 : decode cX2_otherEnd 8 = .ok (.iload_n 2, 1) := by decide +kernel
theorem dX2_otherEnd_9 : decode cX2_otherEnd 9 = .ok (.if_icmp .ne 14, 3) := by decide +kernel
theorem dX2_otherEnd_12 : decode cX2_otherEnd 12 = .ok (.aload_n 0, 1) := by decide +kernel
theorem dX2_otherEnd_13 : decode cX2_otherEnd 13 = .ok (.getfield 20, 3) := by decide +kernel
theorem dX2_otherEnd_16 : decode cX2_otherEnd 16 = .ok (.iload_n 1, 1) := by decide +kernel
theorem dX2_otherEnd_17 : decode cX2_otherEnd 17 = .ok (.invokevirtual 43, 3) := by decide +kernel
theorem dX2_otherEnd_20 : decode cX2_otherEnd 20 = .ok (.goto 11, 3) := by decide +kernel
theorem dX2_otherEnd_23 : decode cX2_otherEnd 23 = .ok (.aload_n 0, 1) := by decide +kernel
theorem dX2_otherEnd_24 : decode cX2_otherEnd 24 = .ok (.getfield 14, 3) := by decide +kernel
theorem dX2_otherEnd_27 : decode cX2_otherEnd 27 = .ok (.iload_n 1, 1) := by decide +kernel
theorem dX2_otherEnd_28 : decode cX2_otherEnd 28 = .ok (.invokevirtual 43, 3) := by decide +kernel
theorem dX2_otherEnd_31 : decode cX2_otherEnd 31 = .ok (.ireturn, 1) := by decide +kernel
theorem dX2_puntsFrom_0 : decode cX2_puntsFrom 0 = .ok (.aload_n 0, 1) := by decide +kernel
theorem dX2_puntsFrom_1 : decode cX2_puntsFrom 1 = .ok (.getfield 14, 3) := by decide +kernel
theorem dX2_puntsFrom_4 : decode cX2_puntsFrom 4 = .ok (.iload_n 1, 1) := by decide +kernel
theorem dX2_puntsFrom_5 : decode cX2_puntsFrom 5 = .ok (.aload_n 0, 1) := by decide +kernel
theorem dX2_puntsFrom_6 : decode cX2_puntsFrom 6 = .ok (.getfield 35, 3) := by decide +kernel
theorem dX2_puntsFrom_9 : decode cX2_puntsFrom 9 = .ok (.invokevirtual 47, 3) := by decide +kernel
theorem dX2_puntsFrom_12 : decode cX2_puntsFrom 12 = .ok (.aload_n 0, 1) := by decide +kernel
theorem dX2_puntsFrom_13 : decode cX2_puntsFrom 13 = .ok (.getfield 20, 3) := by decide +kernel
theorem dX2_puntsFrom_16 : decode cX2_puntsFrom 16 = .ok (.iload_n 1, 1) := by decide +kernel
theorem dX2_puntsFrom_17 : decode cX2_puntsFrom 17 = .ok (.aload_n 0, 1) := by decide +kernel
theorem dX2_puntsFrom_18 : decode cX2_puntsFrom 18 = .ok (.getfield 35, 3) := by decide +kernel
theorem dX2_puntsFrom_21 : decode cX2_puntsFrom 21 = .ok (.invokevirtual 47, 3) := by decide +kernel
theorem dX2_puntsFrom_24 : decode cX2_puntsFrom 24 = .ok (.iadd, 1) := by decide +kernel
theorem dX2_puntsFrom_25 : decode cX2_puntsFrom 25 = .ok (.ireturn, 1) := by decide +kernel
theorem dX3_init_0 : decode cX3_init 0 = .ok (.aload_n 0, 1) := by decide +kernel
theorem dX3_init_1 : decode cX3_init 1 = .ok (.invokespecial 3, 3) := by decide +kernel
theorem dX3_init_4 : decode cX3_init 4 = .ok (.aload_n 0, 1) := by decide +kernel
theorem dX3_init_5 : decode cX3_init 5 = .ok (.new 9, 3) := by decide +kernel
theorem dX3_init_8 : decode cX3_init 8 = .ok (.dup, 1) := by decide +kernel
theorem dX3_init_9 : decode cX3_init 9 = .ok (.bipush 8, 2) := by decide +kernel
theorem dX3_init_11 : decode cX3_init 11 = .ok (.invokespecial 11, 3) := by decide +kernel
theorem dX3_init_14 : decode cX3_init 14 = .ok (.putfield 14, 3) := by decide +kernel
theorem dX3_init_17 : decode cX3_init 17 = .ok (.return_, 1) := by decide +kernel
theorem dX3_add_0 : decode cX3_add 0 = .ok (.aload_n 0, 1) := by decide +kernel
theorem dX3_add_1 : decode cX3_add 1 = .ok (.getfield 20, 3) := by decide +kernel
theorem dX3_add_4 : decode cX3_add 4 = .ok (.istore_n 2, 1) := by decide +kernel
theorem dX3_add_5 : decode cX3_add 5 = .ok (.aload_n 0, 1) := by decide +kernel
theorem dX3_add_6 : decode cX3_add 6 = .ok (.getfield 14, 3) := by decide +kernel
theorem dX3_add_9 : decode cX3_add 9 = .ok (.iload_n 2, 1) := by decide +kernel
theorem dX3_add_10 : decode cX3_add 10 = .ok (.iload_n 1, 1) := by decide +kernel
theorem dX3_add_11 : decode cX3_add 11 = .ok (.invokevirtual 24, 3) := by decide +kernel
theorem dX3_add_14 : decode cX3_add 14 = .ok (.aload_n 0, 1) := by decide +kernel
theorem dX3_add_15 : decode cX3_add 15 = .ok (.dup, 1) := by decide +kernel
theorem dX3_add_16 : decode cX3_add 16 = .ok (.getfield 20, 3) := by decide +kernel
theorem dX3_add_19 : decode cX3_add 19 = .ok (.iconst 1, 1) := by decide +kernel
theorem dX3_add_20 : decode cX3_add 20 = .ok (.iadd, 1) := by decide +kernel
theorem dX3_add_21 : decode cX3_add 21 = .ok (.putfield 20, 3) := by decide +kernel
theorem dX3_add_24 : decode cX3_add 24 = .ok (.iload_n 2, 1) := by decide +kernel
theorem dX3_add_25 : decode cX3_add 25 = .ok (.ireturn, 1) := by decide +kernel
theorem dX3_on_0 : decode cX3_on 0 = .ok (.iconst 0, 1) := by decide +kernel
theorem dX3_on_1 : decode cX3_on 1 = .ok (.istore_n 2, 1) := by decide +kernel
theorem dX3_on_2 : decode cX3_on 2 = .ok (.iload_n 2, 1) := by decide +kernel
theorem dX3_on_3 : decode cX3_on 3 = .ok (.aload_n 0, 1) := by decide +kernel
theorem dX3_on_4 : decode cX3_on 4 = .ok (.getfield 20, 3) := by decide +kernel
theorem dX3_on_7 : decode cX3_on 7 = .ok (.if_icmp .ge 23, 3) := by decide +kernel
theorem dX3_on_10 : decode cX3_on 10 = .ok (.aload_n 0, 1) := by decide +kernel
theorem dX3_on_11 : decode cX3_on 11 = .ok (.getfield 14, 3) := by decide +kernel
theorem dX3_on_14 : decode cX3_on 14 = .ok (.iload_n 2, 1) := by decide +kernel
theorem dX3_on_15 : decode cX3_on 15 = .ok (.invokevirtual 28, 3) := by decide +kernel
theorem dX3_on_18 : decode cX3_on 18 = .ok (.iload_n 1, 1) := by decide +kernel
theorem dX3_on_19 : decode cX3_on 19 = .ok (.if_icmp .ne 5, 3) := by decide +kernel
theorem dX3_on_22 : decode cX3_on 22 = .ok (.iload_n 2, 1) := by decide +kernel
theorem dX3_on_23 : decode cX3_on 23 = .ok (.ireturn, 1) := by decide +kernel
theorem dX3_on_24 : decode cX3_on 24 = .ok (.iinc 2 1, 3) := by decide +kernel
theorem dX3_on_27 : decode cX3_on 27 = .ok (.goto (-25), 3) := by decide +kernel
theorem dX3_on_30 : decode cX3_on 30 = .ok (.iconst (-1), 1) := by decide +kernel
theorem dX3_on_31 : decode cX3_on 31 = .ok (.ireturn, 1) := by decide +kernel
theorem dX4_init_0 : decode cX4_init 0 = .ok (.aload_n 0, 1) := by decide +kernel
theorem dX4_init_1 : decode cX4_init 1 = .ok (.invokespecial 3, 3) := by decide +kernel
theorem dX4_init_4 : decode cX4_init 4 = .ok (.aload_n 0, 1) := by decide +kernel
theorem dX4_init_5 : decode cX4_init 5 = .ok (.new 9, 3) := by decide +kernel
theorem dX4_init_8 : decode cX4_init 8 = .ok (.dup, 1) := by decide +kernel
theorem dX4_init_9 : decode cX4_init 9 = .ok (.sipush 196, 3) := by decide +kernel
theorem dX4_init_12 : decode cX4_init 12 = .ok (.invokespecial 11, 3) := by decide +kernel
theorem dX4_init_15 : decode cX4_init 15 = .ok (.putfield 14, 3) := by decide +kernel
theorem dX4_init_18 : decode cX4_init 18 = .ok (.aload_n 0, 1) := by decide +kernel
theorem dX4_init_19 : decode cX4_init 19 = .ok (.new 9, 3) := by decide +kernel
theorem dX4_init_22 : decode cX4_init 22 = .ok (.dup, 1) := by decide +kernel
theorem dX4_init_23 : decode cX4_init 23 = .ok (.sipush 196, 3) := by decide +kernel
theorem dX4_init_26 : decode cX4_init 26 = .ok (.invokespecial 11, 3) := by decide +kernel
theorem dX4_init_29 : decode cX4_init 29 = .ok (.putfield 20, 3) := by decide +kernel
theorem dX4_init_32 : decode cX4_init 32 = .ok (.aload_n 0, 1) := by decide +kernel
theorem dX4_init_33 : decode cX4_init 33 = .ok (.new 9, 3) := by decide +kernel
theorem dX4_init_36 : decode cX4_init 36 = .ok (.dup, 1) := by decide +kernel
theorem dX4_init_37 : decode cX4_init 37 = .ok (.bipush 12, 2) := by decide +kernel
theorem dX4_init_39 : decode cX4_init 39 = .ok (.invokespecial 11, 3) := by decide +kernel
theorem dX4_init_42 : decode cX4_init 42 = .ok (.putfield 23, 3) := by decide +kernel
theorem dX4_init_45 : decode cX4_init 45 = .ok (.aload_n 0, 1) := by decide +kernel
theorem dX4_init_46 : decode cX4_init 46 = .ok (.getfield 14, 3) := by decide +kernel
theorem dX4_init_49 : decode cX4_init 49 = .ok (.iconst 5, 1) := by decide +kernel
theorem dX4_init_50 : decode cX4_init 50 = .ok (.invokevirtual 26, 3) := by decide +kernel
theorem dX4_init_53 : decode cX4_init 53 = .ok (.aload_n 0, 1) := by decide +kernel
theorem dX4_init_54 : decode cX4_init 54 = .ok (.getfield 23, 3) := by decide +kernel
theorem dX4_init_57 : decode cX4_init 57 = .ok (.bipush 8, 2) := by decide +kernel
theorem dX4_init_59 : decode cX4_init 59 = .ok (.invokevirtual 26, 3) := by decide +kernel
theorem dX4_init_62 : decode cX4_init 62 = .ok (.return_, 1) := by decide +kernel
theorem dX4_levelAt_0 : decode cX4_levelAt 0 = .ok (.aload_n 0, 1) := by decide +kernel
theorem dX4_levelAt_1 : decode cX4_levelAt 1 = .ok (.getfield 23, 3) := by decide +kernel
theorem dX4_levelAt_4 : decode cX4_levelAt 4 = .ok (.iload_n 1, 1) := by decide +kernel
theorem dX4_levelAt_5 : decode cX4_levelAt 5 = .ok (.bipush 12, 2) := by decide +kernel
theorem dX4_levelAt_7 : decode cX4_levelAt 7 = .ok (.irem, 1) := by decide +kernel
theorem dX4_levelAt_8 : decode cX4_levelAt 8 = .ok (.invokevirtual 29, 3) := by decide +kernel
theorem dX4_levelAt_11 : decode cX4_levelAt 11 = .ok (.ireturn, 1) := by decide +kernel
theorem dX4_depth_0 : decode cX4_depth 0 = .ok (.iconst 0, 1) := by decide +kernel
theorem dX4_depth_1 : decode cX4_depth 1 = .ok (.iload_n 2, 1) := by decide +kernel
theorem dX4_depth_2 : decode cX4_depth 2 = .ok (.aload_n 0, 1) := by decide +kernel
theorem dX4_depth_3 : decode cX4_depth 3 = .ok (.getfield 14, 3) := by decide +kernel
theorem dX4_depth_6 : decode cX4_depth 6 = .ok (.iload_n 1, 1) := by decide +kernel
theorem dX4_depth_7 : decode cX4_depth 7 = .ok (.invokevirtual 29, 3) := by decide +kernel
theorem dX4_depth_10 : decode cX4_depth 10 = .ok (.isub, 1) := by decide +kernel
theorem dX4_depth_11 : decode cX4_depth 11 = .ok (.invokestatic 33, 3) := by decide +kernel
theorem dX4_depth_14 : decode cX4_depth 14 = .ok (.ireturn, 1) := by decide +kernel
theorem dX4_showsStake_0 : decode cX4_showsStake 0 = .ok (.aload_n 0, 1) := by decide +kernel
theorem dX4_showsStake_1 : decode cX4_showsStake 1 = .ok (.iload_n 1, 1) := by decide +kernel
theorem dX4_showsStake_2 : decode cX4_showsStake 2 = .ok (.iload_n 2, 1) := by decide +kernel
theorem dX4_showsStake_3 : decode cX4_showsStake 3 = .ok (.invokevirtual 39, 3) := by decide +kernel
theorem dX4_showsStake_6 : decode cX4_showsStake 6 = .ok (.aload_n 0, 1) := by decide +kernel
theorem dX4_showsStake_7 : decode cX4_showsStake 7 = .ok (.getfield 20, 3) := by decide +kernel
theorem dX4_showsStake_10 : decode cX4_showsStake 10 = .ok (.iload_n 1, 1) := by decide +kernel
theorem dX4_showsStake_11 : decode cX4_showsStake 11 = .ok (.invokevirtual 29, 3) := by decide +kernel
theorem dX4_showsStake_14 : decode cX4_showsStake 14 = .ok (.if_icmp .ge 7, 3) := by decide +kernel
theorem dX4_showsStake_17 : decode cX4_showsStake 17 = .ok (.iconst 1, 1) := by decide +kernel
theorem dX4_showsStake_18 : decode cX4_showsStake 18 = .ok (.goto 4, 3) := by decide +kernel
theorem dX4_showsStake_21 : decode cX4_showsStake 21 = .ok (.iconst 0, 1) := by decide +kernel
theorem dX4_showsStake_22 : decode cX4_showsStake 22 = .ok (.ireturn, 1) := by decide +kernel
theorem dX4_stakesShown_0 : decode cX4_stakesShown 0 = .ok (.iconst 0, 1) := by decide +kernel
theorem dX4_stakesShown_1 : decode cX4_stakesShown 1 = .ok (.istore_n 2, 1) := by decide +kernel
theorem dX4_stakesShown_2 : decode cX4_stakesShown 2 = .ok (.iconst 0, 1) := by decide +kernel
theorem dX4_stakesShown_3 : decode cX4_stakesShown 3 = .ok (.istore_n 3, 1) := by decide +kernel
theorem dX4_stakesShown_4 : decode cX4_stakesShown 4 = .ok (.iload_n 3, 1) := by decide +kernel
theorem dX4_stakesShown_5 : decode cX4_stakesShown 5 = .ok (.sipush 196, 3) := by decide +kernel
theorem dX4_stakesShown_8 : decode cX4_stakesShown 8 = .ok (.if_icmp .ge 21, 3) := by decide +kernel
theorem dX4_stakesShown_11 : decode cX4_stakesShown 11 = .ok (.aload_n 0, 1) := by decide +kernel
theorem dX4_stakesShown_12 : decode cX4_stakesShown 12 = .ok (.iload_n 3, 1) := by decide +kernel
theorem dX4_stakesShown_13 : decode cX4_stakesShown 13 = .ok (.iload_n 1, 1) := by decide +kernel
theorem dX4_stakesShown_14 : decode cX4_stakesShown 14 = .ok (.invokevirtual 42, 3) := by decide +kernel
theorem dX4_stakesShown_17 : decode cX4_stakesShown 17 = .ok (.ifCond .eq 6, 3) := by decide +kernel
theorem dX4_stakesShown_20 : decode cX4_stakesShown 20 = .ok (.iinc 2 1, 3) := by decide +kernel
theorem dX4_stakesShown_23 : decode cX4_stakesShown 23 = .ok (.iinc 3 1, 3) := by decide +kernel
theorem dX4_stakesShown_26 : decode cX4_stakesShown 26 = .ok (.goto (-22), 3) := by decide +kernel
theorem dX4_stakesShown_29 : decode cX4_stakesShown 29 = .ok (.iload_n 2, 1) := by decide +kernel
theorem dX4_stakesShown_30 : decode cX4_stakesShown 30 = .ok (.ireturn, 1) := by decide +kernel
theorem dX4_beside_0 : decode cX4_beside 0 = .ok (.iload_n 1, 1) := by decide +kernel
theorem dX4_beside_1 : decode cX4_beside 1 = .ok (.tableswitch 75 0 2 #[27, 43, 58], 27) := by decide +kernel
theorem dX4_beside_28 : decode cX4_beside 28 = .ok (.iload_n 0, 1) := by decide +kernel
theorem dX4_beside_29 : decode cX4_beside 29 = .ok (.invokestatic 46, 3) := by decide +kernel
theorem dX4_beside_32 : decode cX4_beside 32 = .ok (.ifCond .ne 7, 3) := by decide +kernel
theorem dX4_beside_35 : decode cX4_beside 35 = .ok (.iconst (-1), 1) := by decide +kernel
theorem dX4_beside_36 : decode cX4_beside 36 = .ok (.goto 7, 3) := by decide +kernel
theorem dX4_beside_39 : decode cX4_beside 39 = .ok (.iload_n 0, 1) := by decide +kernel
theorem dX4_beside_40 : decode cX4_beside 40 = .ok (.bipush 14, 2) := by decide +kernel
theorem dX4_beside_42 : decode cX4_beside 42 = .ok (.isub, 1) := by decide +kernel
theorem dX4_beside_43 : decode cX4_beside 43 = .ok (.ireturn, 1) := by decide +kernel
theorem dX4_beside_44 : decode cX4_beside 44 = .ok (.iload_n 0, 1) := by decide +kernel
theorem dX4_beside_45 : decode cX4_beside 45 = .ok (.invokestatic 49, 3) := by decide +kernel
theorem dX4_beside_48 : decode cX4_beside 48 = .ok (.ifCond .ne 7, 3) := by decide +kernel
theorem dX4_beside_51 : decode cX4_beside 51 = .ok (.iconst (-1), 1) := by decide +kernel
theorem dX4_beside_52 : decode cX4_beside 52 = .ok (.goto 6, 3) := by decide +kernel
theorem dX4_beside_55 : decode cX4_beside 55 = .ok (.iload_n 0, 1) := by decide +kernel
theorem dX4_beside_56 : decode cX4_beside 56 = .ok (.iconst 1, 1) := by decide +kernel
theorem dX4_beside_57 : decode cX4_beside 57 = .ok (.isub, 1) := by decide +kernel
theorem dX4_beside_58 : decode cX4_beside 58 = .ok (.ireturn, 1) := by decide +kernel
theorem dX4_beside_59 : decode cX4_beside 59 = .ok (.iload_n 0, 1) := by decide +kernel
theorem dX4_beside_60 : decode cX4_beside 60 = .ok (.invokestatic 49, 3) := by decide +kernel
theorem dX4_beside_63 : decode cX4_beside 63 = .ok (.bipush 13, 2) := by decide +kernel
theorem dX4_beside_65 : decode cX4_beside 65 = .ok (.if_icmp .ne 7, 3) := by decide +kernel
theorem dX4_beside_68 : decode cX4_beside 68 = .ok (.iconst (-1), 1) := by decide +kernel
theorem dX4_beside_69 : decode cX4_beside 69 = .ok (.goto 6, 3) := by decide +kernel
theorem dX4_beside_72 : decode cX4_beside 72 = .ok (.iload_n 0, 1) := by decide +kernel
theorem dX4_beside_73 : decode cX4_beside 73 = .ok (.iconst 1, 1) := by decide +kernel
theorem dX4_beside_74 : decode cX4_beside 74 = .ok (.iadd, 1) := by decide +kernel
theorem dX4_beside_75 : decode cX4_beside 75 = .ok (.ireturn, 1) := by decide +kernel
theorem dX4_beside_76 : decode cX4_beside 76 = .ok (.iload_n 0, 1) := by decide +kernel
theorem dX4_beside_77 : decode cX4_beside 77 = .ok (.invokestatic 46, 3) := by decide +kernel
theorem dX4_beside_80 : decode cX4_beside 80 = .ok (.bipush 13, 2) := by decide +kernel
theorem dX4_beside_82 : decode cX4_beside 82 = .ok (.if_icmp .ne 7, 3) := by decide +kernel
theorem dX4_beside_85 : decode cX4_beside 85 = .ok (.iconst (-1), 1) := by decide +kernel
theorem dX4_beside_86 : decode cX4_beside 86 = .ok (.goto 7, 3) := by decide +kernel
theorem dX4_beside_89 : decode cX4_beside 89 = .ok (.iload_n 0, 1) := by decide +kernel
theorem dX4_beside_90 : decode cX4_beside 90 = .ok (.bipush 14, 2) := by decide +kernel
theorem dX4_beside_92 : decode cX4_beside 92 = .ok (.iadd, 1) := by decide +kernel
theorem dX4_beside_93 : decode cX4_beside 93 = .ok (.ireturn, 1) := by decide +kernel
theorem dX5_init_0 : decode cX5_init 0 = .ok (.aload_n 0, 1) := by decide +kernel
theorem dX5_init_1 : decode cX5_init 1 = .ok (.invokespecial 1, 3) := by decide +kernel
theorem dX5_init_4 : decode cX5_init 4 = .ok (.aload_n 0, 1) := by decide +kernel
theorem dX5_init_5 : decode cX5_init 5 = .ok (.iload_n 1, 1) := by decide +kernel
theorem dX5_init_6 : decode cX5_init 6 = .ok (.ifCond .ge 7, 3) := by decide +kernel
theorem dX5_init_9 : decode cX5_init 9 = .ok (.iconst 0, 1) := by decide +kernel
theorem dX5_init_10 : decode cX5_init 10 = .ok (.goto 4, 3) := by decide +kernel
theorem dX5_init_13 : decode cX5_init 13 = .ok (.iload_n 1, 1) := by decide +kernel
theorem dX5_init_14 : decode cX5_init 14 = .ok (.newarray .int, 2) := by decide +kernel
theorem dX5_init_16 : decode cX5_init 16 = .ok (.putfield 7, 3) := by decide +kernel
theorem dX5_init_19 : decode cX5_init 19 = .ok (.return_, 1) := by decide +kernel
theorem dX5_get_0 : decode cX5_get 0 = .ok (.iload_n 1, 1) := by decide +kernel
theorem dX5_get_1 : decode cX5_get 1 = .ok (.ifCond .lt 21, 3) := by decide +kernel
theorem dX5_get_4 : decode cX5_get 4 = .ok (.iload_n 1, 1) := by decide +kernel
theorem dX5_get_5 : decode cX5_get 5 = .ok (.aload_n 0, 1) := by decide +kernel
theorem dX5_get_6 : decode cX5_get 6 = .ok (.getfield 7, 3) := by decide +kernel
theorem dX5_get_9 : decode cX5_get 9 = .ok (.arraylength, 1) := by decide +kernel
theorem dX5_get_10 : decode cX5_get 10 = .ok (.if_icmp .ge 12, 3) := by decide +kernel
theorem dX5_get_13 : decode cX5_get 13 = .ok (.aload_n 0, 1) := by decide +kernel
theorem dX5_get_14 : decode cX5_get 14 = .ok (.getfield 7, 3) := by decide +kernel
theorem dX5_get_17 : decode cX5_get 17 = .ok (.iload_n 1, 1) := by decide +kernel
theorem dX5_get_18 : decode cX5_get 18 = .ok (.iaload, 1) := by decide +kernel
theorem dX5_get_19 : decode cX5_get 19 = .ok (.goto 4, 3) := by decide +kernel
theorem dX5_get_22 : decode cX5_get 22 = .ok (.iconst 0, 1) := by decide +kernel
theorem dX5_get_23 : decode cX5_get 23 = .ok (.ireturn, 1) := by decide +kernel
theorem dX5_set_0 : decode cX5_set 0 = .ok (.iload_n 1, 1) := by decide +kernel
theorem dX5_set_1 : decode cX5_set 1 = .ok (.ifCond .lt 19, 3) := by decide +kernel
theorem dX5_set_4 : decode cX5_set 4 = .ok (.iload_n 1, 1) := by decide +kernel
theorem dX5_set_5 : decode cX5_set 5 = .ok (.aload_n 0, 1) := by decide +kernel
theorem dX5_set_6 : decode cX5_set 6 = .ok (.getfield 7, 3) := by decide +kernel
theorem dX5_set_9 : decode cX5_set 9 = .ok (.arraylength, 1) := by decide +kernel
theorem dX5_set_10 : decode cX5_set 10 = .ok (.if_icmp .ge 10, 3) := by decide +kernel
theorem dX5_set_13 : decode cX5_set 13 = .ok (.aload_n 0, 1) := by decide +kernel
theorem dX5_set_14 : decode cX5_set 14 = .ok (.getfield 7, 3) := by decide +kernel
theorem dX5_set_17 : decode cX5_set 17 = .ok (.iload_n 1, 1) := by decide +kernel
theorem dX5_set_18 : decode cX5_set 18 = .ok (.iload_n 2, 1) := by decide +kernel
theorem dX5_set_19 : decode cX5_set 19 = .ok (.iastore, 1) := by decide +kernel
theorem dX5_set_20 : decode cX5_set 20 = .ok (.return_, 1) := by decide +kernel
theorem dX5_put_0 : decode cX5_put 0 = .ok (.aload_n 0, 1) := by decide +kernel
theorem dX5_put_1 : decode cX5_put 1 = .ok (.iload_n 1, 1) := by decide +kernel
theorem dX5_put_2 : decode cX5_put 2 = .ok (.invokevirtual 13, 3) := by decide +kernel
theorem dX5_put_5 : decode cX5_put 5 = .ok (.istore_n 3, 1) := by decide +kernel
theorem dX5_put_6 : decode cX5_put 6 = .ok (.aload_n 0, 1) := by decide +kernel
theorem dX5_put_7 : decode cX5_put 7 = .ok (.iload_n 1, 1) := by decide +kernel
theorem dX5_put_8 : decode cX5_put 8 = .ok (.iload_n 2, 1) := by decide +kernel
theorem dX5_put_9 : decode cX5_put 9 = .ok (.invokevirtual 17, 3) := by decide +kernel
theorem dX5_put_12 : decode cX5_put 12 = .ok (.iload_n 3, 1) := by decide +kernel
theorem dX5_put_13 : decode cX5_put 13 = .ok (.ireturn, 1) := by decide +kernel
theorem dX5_add_0 : decode cX5_add 0 = .ok (.aload_n 0, 1) := by decide +kernel
theorem dX5_add_1 : decode cX5_add 1 = .ok (.iload_n 1, 1) := by decide +kernel
theorem dX5_add_2 : decode cX5_add 2 = .ok (.aload_n 0, 1) := by decide +kernel
theorem dX5_add_3 : decode cX5_add 3 = .ok (.iload_n 1, 1) := by decide +kernel
theorem dX5_add_4 : decode cX5_add 4 = .ok (.invokevirtual 13, 3) := by decide +kernel
theorem dX5_add_7 : decode cX5_add 7 = .ok (.iload_n 2, 1) := by decide +kernel
theorem dX5_add_8 : decode cX5_add 8 = .ok (.iadd, 1) := by decide +kernel
theorem dX5_add_9 : decode cX5_add 9 = .ok (.invokevirtual 17, 3) := by decide +kernel
theorem dX5_add_12 : decode cX5_add 12 = .ok (.return_, 1) := by decide +kernel
theorem dX5_fill_0 : decode cX5_fill 0 = .ok (.aload_n 0, 1) := by decide +kernel
theorem dX5_fill_1 : decode cX5_fill 1 = .ok (.getfield 7, 3) := by decide +kernel
theorem dX5_fill_4 : decode cX5_fill 4 = .ok (.iload_n 1, 1) := by decide +kernel
theorem dX5_fill_5 : decode cX5_fill 5 = .ok (.invokestatic 21, 3) := by decide +kernel
theorem dX5_fill_8 : decode cX5_fill 8 = .ok (.return_, 1) := by decide +kernel
theorem dX5_howMany_0 : decode cX5_howMany 0 = .ok (.iconst 0, 1) := by decide +kernel
theorem dX5_howMany_1 : decode cX5_howMany 1 = .ok (.istore_n 3, 1) := by decide +kernel
theorem dX5_howMany_2 : decode cX5_howMany 2 = .ok (.iconst 0, 1) := by decide +kernel
theorem dX5_howMany_3 : decode cX5_howMany 3 = .ok (.istore 4, 2) := by decide +kernel
theorem dX5_howMany_5 : decode cX5_howMany 5 = .ok (.iload 4, 2) := by decide +kernel
theorem dX5_howMany_7 : decode cX5_howMany 7 = .ok (.iload_n 2, 1) := by decide +kernel
theorem dX5_howMany_8 : decode cX5_howMany 8 = .ok (.if_icmp .ge 33, 3) := by decide +kernel
theorem dX5_howMany_11 : decode cX5_howMany 11 = .ok (.iload 4, 2) := by decide +kernel
theorem dX5_howMany_13 : decode cX5_howMany 13 = .ok (.aload_n 0, 1) := by decide +kernel
theorem dX5_howMany_14 : decode cX5_howMany 14 = .ok (.getfield 7, 3) := by decide +kernel
theorem dX5_howMany_17 : decode cX5_howMany 17 = .ok (.arraylength, 1) := by decide +kernel
theorem dX5_howMany_18 : decode cX5_howMany 18 = .ok (.if_icmp .ge 23, 3) := by decide +kernel
theorem dX5_howMany_21 : decode cX5_howMany 21 = .ok (.aload_n 0, 1) := by decide +kernel
theorem dX5_howMany_22 : decode cX5_howMany 22 = .ok (.getfield 7, 3) := by decide +kernel
theorem dX5_howMany_25 : decode cX5_howMany 25 = .ok (.iload 4, 2) := by decide +kernel
theorem dX5_howMany_27 : decode cX5_howMany 27 = .ok (.iaload, 1) := by decide +kernel
theorem dX5_howMany_28 : decode cX5_howMany 28 = .ok (.iload_n 1, 1) := by decide +kernel
theorem dX5_howMany_29 : decode cX5_howMany 29 = .ok (.if_icmp .ne 6, 3) := by decide +kernel
theorem dX5_howMany_32 : decode cX5_howMany 32 = .ok (.iinc 3 1, 3) := by decide +kernel
theorem dX5_howMany_35 : decode cX5_howMany 35 = .ok (.iinc 4 1, 3) := by decide +kernel
theorem dX5_howMany_38 : decode cX5_howMany 38 = .ok (.goto (-33), 3) := by decide +kernel
theorem dX5_howMany_41 : decode cX5_howMany 41 = .ok (.iload_n 3, 1) := by decide +kernel
theorem dX5_howMany_42 : decode cX5_howMany 42 = .ok (.ireturn, 1) := by decide +kernel
theorem dX5_takeOver_0 : decode cX5_takeOver 0 = .ok (.iconst 0, 1) := by decide +kernel
theorem dX5_takeOver_1 : decode cX5_takeOver 1 = .ok (.istore_n 2, 1) := by decide +kernel
theorem dX5_takeOver_2 : decode cX5_takeOver 2 = .ok (.iload_n 2, 1) := by decide +kernel
theorem dX5_takeOver_3 : decode cX5_takeOver 3 = .ok (.aload_n 0, 1) := by decide +kernel
theorem dX5_takeOver_4 : decode cX5_takeOver 4 = .ok (.getfield 7, 3) := by decide +kernel
theorem dX5_takeOver_7 : decode cX5_takeOver 7 = .ok (.arraylength, 1) := by decide +kernel
theorem dX5_takeOver_8 : decode cX5_takeOver 8 = .ok (.if_icmp .ge 20, 3) := by decide +kernel
theorem dX5_takeOver_11 : decode cX5_takeOver 11 = .ok (.aload_n 0, 1) := by decide +kernel
theorem dX5_takeOver_12 : decode cX5_takeOver 12 = .ok (.getfield 7, 3) := by decide +kernel
theorem dX5_takeOver_15 : decode cX5_takeOver 15 = .ok (.iload_n 2, 1) := by decide +kernel
theorem dX5_takeOver_16 : decode cX5_takeOver 16 = .ok (.aload_n 1, 1) := by decide +kernel
theorem dX5_takeOver_17 : decode cX5_takeOver 17 = .ok (.iload_n 2, 1) := by decide +kernel
theorem dX5_takeOver_18 : decode cX5_takeOver 18 = .ok (.invokevirtual 13, 3) := by decide +kernel
theorem dX5_takeOver_21 : decode cX5_takeOver 21 = .ok (.iastore, 1) := by decide +kernel
theorem dX5_takeOver_22 : decode cX5_takeOver 22 = .ok (.iinc 2 1, 3) := by decide +kernel
theorem dX5_takeOver_25 : decode cX5_takeOver 25 = .ok (.goto (-23), 3) := by decide +kernel
theorem dX5_takeOver_28 : decode cX5_takeOver 28 = .ok (.return_, 1) := by decide +kernel
theorem dX6_init_0 : decode cX6_init 0 = .ok (.aload_n 0, 1) := by decide +kernel
theorem dX6_init_1 : decode cX6_init 1 = .ok (.invokespecial 3, 3) := by decide +kernel
theorem dX6_init_4 : decode cX6_init 4 = .ok (.aload_n 0, 1) := by decide +kernel
theorem dX6_init_5 : decode cX6_init 5 = .ok (.new 9, 3) := by decide +kernel
theorem dX6_init_8 : decode cX6_init 8 = .ok (.dup, 1) := by decide +kernel
theorem dX6_init_9 : decode cX6_init 9 = .ok (.bipush 6, 2) := by decide +kernel
theorem dX6_init_11 : decode cX6_init 11 = .ok (.invokespecial 11, 3) := by decide +kernel
theorem dX6_init_14 : decode cX6_init 14 = .ok (.putfield 14, 3) := by decide +kernel
theorem dX6_init_17 : decode cX6_init 17 = .ok (.aload_n 0, 1) := by decide +kernel
theorem dX6_init_18 : decode cX6_init 18 = .ok (.new 9, 3) := by decide +kernel
theorem dX6_init_21 : decode cX6_init 21 = .ok (.dup, 1) := by decide +kernel
theorem dX6_init_22 : decode cX6_init 22 = .ok (.bipush 6, 2) := by decide +kernel
theorem dX6_init_24 : decode cX6_init 24 = .ok (.invokespecial 11, 3) := by decide +kernel
theorem dX6_init_27 : decode cX6_init 27 = .ok (.putfield 20, 3) := by decide +kernel
theorem dX6_init_30 : decode cX6_init 30 = .ok (.aload_n 0, 1) := by decide +kernel
theorem dX6_init_31 : decode cX6_init 31 = .ok (.new 9, 3) := by decide +kernel
theorem dX6_init_34 : decode cX6_init 34 = .ok (.dup, 1) := by decide +kernel
theorem dX6_init_35 : decode cX6_init 35 = .ok (.bipush 6, 2) := by decide +kernel
theorem dX6_init_37 : decode cX6_init 37 = .ok (.invokespecial 11, 3) := by decide +kernel
theorem dX6_init_40 : decode cX6_init 40 = .ok (.putfield 23, 3) := by decide +kernel
theorem dX6_init_43 : decode cX6_init 43 = .ok (.aload_n 0, 1) := by decide +kernel
theorem dX6_init_44 : decode cX6_init 44 = .ok (.new 9, 3) := by decide +kernel
theorem dX6_init_47 : decode cX6_init 47 = .ok (.dup, 1) := by decide +kernel
theorem dX6_init_48 : decode cX6_init 48 = .ok (.bipush 6, 2) := by decide +kernel
theorem dX6_init_50 : decode cX6_init 50 = .ok (.invokespecial 11, 3) := by decide +kernel
theorem dX6_init_53 : decode cX6_init 53 = .ok (.putfield 26, 3) := by decide +kernel
theorem dX6_init_56 : decode cX6_init 56 = .ok (.aload_n 0, 1) := by decide +kernel
theorem dX6_init_57 : decode cX6_init 57 = .ok (.new 29, 3) := by decide +kernel
theorem dX6_init_60 : decode cX6_init 60 = .ok (.dup, 1) := by decide +kernel
theorem dX6_init_61 : decode cX6_init 61 = .ok (.invokespecial 31, 3) := by decide +kernel
theorem dX6_init_64 : decode cX6_init 64 = .ok (.putfield 32, 3) := by decide +kernel
theorem dX6_init_67 : decode cX6_init 67 = .ok (.aload_n 0, 1) := by decide +kernel
theorem dX6_init_68 : decode cX6_init 68 = .ok (.aload_n 1, 1) := by decide +kernel
theorem dX6_init_69 : decode cX6_init 69 = .ok (.putfield 36, 3) := by decide +kernel
theorem dX6_init_72 : decode cX6_init 72 = .ok (.aload_n 0, 1) := by decide +kernel
theorem dX6_init_73 : decode cX6_init 73 = .ok (.aload_n 2, 1) := by decide +kernel
theorem dX6_init_74 : decode cX6_init 74 = .ok (.putfield 40, 3) := by decide +kernel
theorem dX6_init_77 : decode cX6_init 77 = .ok (.aload_n 0, 1) := by decide +kernel
theorem dX6_init_78 : decode cX6_init 78 = .ok (.aload_n 3, 1) := by decide +kernel
theorem dX6_init_79 : decode cX6_init 79 = .ok (.putfield 44, 3) := by decide +kernel
theorem dX6_init_82 : decode cX6_init 82 = .ok (.aload_n 0, 1) := by decide +kernel
theorem dX6_init_83 : decode cX6_init 83 = .ok (.aload 4, 2) := by decide +kernel
theorem dX6_init_85 : decode cX6_init 85 = .ok (.putfield 48, 3) := by decide +kernel
theorem dX6_init_88 : decode cX6_init 88 = .ok (.aload_n 0, 1) := by decide +kernel
theorem dX6_init_89 : decode cX6_init 89 = .ok (.aload 5, 2) := by decide +kernel
theorem dX6_init_91 : decode cX6_init 91 = .ok (.putfield 52, 3) := by decide +kernel
theorem dX6_init_94 : decode cX6_init 94 = .ok (.return_, 1) := by decide +kernel
theorem dX6_takeOver_0 : decode cX6_takeOver 0 = .ok (.aload_n 0, 1) := by decide +kernel
theorem dX6_takeOver_1 : decode cX6_takeOver 1 = .ok (.aload_n 1, 1) := by decide +kernel
theorem dX6_takeOver_2 : decode cX6_takeOver 2 = .ok (.getfield 56, 3) := by decide +kernel
theorem dX6_takeOver_5 : decode cX6_takeOver 5 = .ok (.putfield 56, 3) := by decide +kernel
theorem dX6_takeOver_8 : decode cX6_takeOver 8 = .ok (.aload_n 0, 1) := by decide +kernel
theorem dX6_takeOver_9 : decode cX6_takeOver 9 = .ok (.getfield 14, 3) := by decide +kernel
theorem dX6_takeOver_12 : decode cX6_takeOver 12 = .ok (.aload_n 1, 1) := by decide +kernel
theorem dX6_takeOver_13 : decode cX6_takeOver 13 = .ok (.getfield 14, 3) := by decide +kernel
theorem dX6_takeOver_16 : decode cX6_takeOver 16 = .ok (.invokevirtual 60, 3) := by decide +kernel
theorem dX6_takeOver_19 : decode cX6_takeOver 19 = .ok (.aload_n 0, 1) := by decide +kernel
theorem dX6_takeOver_20 : decode cX6_takeOver 20 = .ok (.getfield 20, 3) := by decide +kernel
theorem dX6_takeOver_23 : decode cX6_takeOver 23 = .ok (.aload_n 1, 1) := by decide +kernel
theorem dX6_takeOver_24 : decode cX6_takeOver 24 = .ok (.getfield 20, 3) := by decide +kernel
theorem dX6_takeOver_27 : decode cX6_takeOver 27 = .ok (.invokevirtual 60, 3) := by decide +kernel
theorem dX6_takeOver_30 : decode cX6_takeOver 30 = .ok (.aload_n 0, 1) := by decide +kernel
theorem dX6_takeOver_31 : decode cX6_takeOver 31 = .ok (.getfield 23, 3) := by decide +kernel
theorem dX6_takeOver_34 : decode cX6_takeOver 34 = .ok (.aload_n 1, 1) := by decide +kernel
theorem dX6_takeOver_35 : decode cX6_takeOver 35 = .ok (.getfield 23, 3) := by decide +kernel
theorem dX6_takeOver_38 : decode cX6_takeOver 38 = .ok (.invokevirtual 60, 3) := by decide +kernel
theorem dX6_takeOver_41 : decode cX6_takeOver 41 = .ok (.aload_n 0, 1) := by decide +kernel
theorem dX6_takeOver_42 : decode cX6_takeOver 42 = .ok (.getfield 26, 3) := by decide +kernel
theorem dX6_takeOver_45 : decode cX6_takeOver 45 = .ok (.aload_n 1, 1) := by decide +kernel
theorem dX6_takeOver_46 : decode cX6_takeOver 46 = .ok (.getfield 26, 3) := by decide +kernel
theorem dX6_takeOver_49 : decode cX6_takeOver 49 = .ok (.invokevirtual 60, 3) := by decide +kernel
theorem dX6_takeOver_52 : decode cX6_takeOver 52 = .ok (.aload_n 0, 1) := by decide +kernel
theorem dX6_takeOver_53 : decode cX6_takeOver 53 = .ok (.getfield 32, 3) := by decide +kernel
theorem dX6_takeOver_56 : decode cX6_takeOver 56 = .ok (.aload_n 1, 1) := by decide +kernel
theorem dX6_takeOver_57 : decode cX6_takeOver 57 = .ok (.getfield 32, 3) := by decide +kernel
theorem dX6_takeOver_60 : decode cX6_takeOver 60 = .ok (.invokevirtual 64, 3) := by decide +kernel
theorem dX6_takeOver_63 : decode cX6_takeOver 63 = .ok (.return_, 1) := by decide +kernel
theorem dX6_place_0 : decode cX6_place 0 = .ok (.aload_n 0, 1) := by decide +kernel
theorem dX6_place_1 : decode cX6_place 1 = .ok (.getfield 14, 3) := by decide +kernel
theorem dX6_place_4 : decode cX6_place 4 = .ok (.iload_n 1, 1) := by decide +kernel
theorem dX6_place_5 : decode cX6_place 5 = .ok (.iload_n 2, 1) := by decide +kernel
theorem dX6_place_6 : decode cX6_place 6 = .ok (.invokevirtual 67, 3) := by decide +kernel
theorem dX6_place_9 : decode cX6_place 9 = .ok (.aload_n 0, 1) := by decide +kernel
theorem dX6_place_10 : decode cX6_place 10 = .ok (.getfield 20, 3) := by decide +kernel
theorem dX6_place_13 : decode cX6_place 13 = .ok (.iload_n 1, 1) := by decide +kernel
theorem dX6_place_14 : decode cX6_place 14 = .ok (.iload_n 3, 1) := by decide +kernel
theorem dX6_place_15 : decode cX6_place 15 = .ok (.invokevirtual 67, 3) := by decide +kernel
theorem dX6_place_18 : decode cX6_place 18 = .ok (.return_, 1) := by decide +kernel
theorem dX6_level_0 : decode cX6_level 0 = .ok (.aload_n 0, 1) := by decide +kernel
theorem dX6_level_1 : decode cX6_level 1 = .ok (.getfield 36, 3) := by decide +kernel
theorem dX6_level_4 : decode cX6_level 4 = .ok (.aload_n 0, 1) := by decide +kernel
theorem dX6_level_5 : decode cX6_level 5 = .ok (.getfield 56, 3) := by decide +kernel
theorem dX6_level_8 : decode cX6_level 8 = .ok (.invokevirtual 71, 3) := by decide +kernel
theorem dX6_level_11 : decode cX6_level 11 = .ok (.ireturn, 1) := by decide +kernel
theorem dX6_isAground_0 : decode cX6_isAground 0 = .ok (.aload_n 0, 1) := by decide +kernel
theorem dX6_isAground_1 : decode cX6_isAground 1 = .ok (.getfield 44, 3) := by decide +kernel
theorem dX6_isAground_4 : decode cX6_isAground 4 = .ok (.iload_n 1, 1) := by decide +kernel
theorem dX6_isAground_5 : decode cX6_isAground 5 = .ok (.aload_n 0, 1) := by decide +kernel
theorem dX6_isAground_6 : decode cX6_isAground 6 = .ok (.getfield 36, 3) := by decide +kernel
theorem dX6_isAground_9 : decode cX6_isAground 9 = .ok (.aload_n 0, 1) := by decide +kernel
theorem dX6_isAground_10 : decode cX6_isAground 10 = .ok (.getfield 14, 3) := by decide +kernel
theorem dX6_isAground_13 : decode cX6_isAground 13 = .ok (.iload_n 1, 1) := by decide +kernel
theorem dX6_isAground_14 : decode cX6_isAground 14 = .ok (.invokevirtual 77, 3) := by decide +kernel
theorem dX6_isAground_17 : decode cX6_isAground 17 = .ok (.aload_n 0, 1) := by decide +kernel
theorem dX6_isAground_18 : decode cX6_isAground 18 = .ok (.invokevirtual 80, 3) := by decide +kernel
theorem dX6_isAground_21 : decode cX6_isAground 21 = .ok (.invokevirtual 84, 3) := by decide +kernel
theorem dX6_isAground_24 : decode cX6_isAground 24 = .ok (.invokevirtual 88, 3) := by decide +kernel
theorem dX6_isAground_27 : decode cX6_isAground 27 = .ok (.ifCond .ne 7, 3) := by decide +kernel
theorem dX6_isAground_30 : decode cX6_isAground 30 = .ok (.iconst 1, 1) := by decide +kernel
theorem dX6_isAground_31 : decode cX6_isAground 31 = .ok (.goto 4, 3) := by decide +kernel
theorem dX6_isAground_34 : decode cX6_isAground 34 = .ok (.iconst 0, 1) := by decide +kernel
theorem dX6_isAground_35 : decode cX6_isAground 35 = .ok (.ireturn, 1) := by decide +kernel
theorem dX6_wayLeft_0 : decode cX6_wayLeft 0 = .ok (.aload_n 0, 1) := by decide +kernel
theorem dX6_wayLeft_1 : decode cX6_wayLeft 1 = .ok (.getfield 52, 3) := by decide +kernel
theorem dX6_wayLeft_4 : decode cX6_wayLeft 4 = .ok (.aload_n 0, 1) := by decide +kernel
theorem dX6_wayLeft_5 : decode cX6_wayLeft 5 = .ok (.getfield 52, 3) := by decide +kernel
theorem dX6_wayLeft_8 : decode cX6_wayLeft 8 = .ok (.iload_n 1, 1) := by decide +kernel
theorem dX6_wayLeft_9 : decode cX6_wayLeft 9 = .ok (.aload_n 0, 1) := by decide +kernel
theorem dX6_wayLeft_10 : decode cX6_wayLeft 10 = .ok (.getfield 20, 3) := by decide +kernel
theorem dX6_wayLeft_13 : decode cX6_wayLeft 13 = .ok (.iload_n 1, 1) := by decide +kernel
theorem dX6_wayLeft_14 : decode cX6_wayLeft 14 = .ok (.invokevirtual 77, 3) := by decide +kernel
theorem dX6_wayLeft_17 : decode cX6_wayLeft 17 = .ok (.aload_n 0, 1) := by decide +kernel
theorem dX6_wayLeft_18 : decode cX6_wayLeft 18 = .ok (.invokevirtual 80, 3) := by decide +kernel
theorem dX6_wayLeft_21 : decode cX6_wayLeft 21 = .ok (.invokevirtual 94, 3) := by decide +kernel
theorem dX6_wayLeft_24 : decode cX6_wayLeft 24 = .ok (.aload_n 0, 1) := by decide +kernel
theorem dX6_wayLeft_25 : decode cX6_wayLeft 25 = .ok (.getfield 14, 3) := by decide +kernel
theorem dX6_wayLeft_28 : decode cX6_wayLeft 28 = .ok (.iload_n 1, 1) := by decide +kernel
theorem dX6_wayLeft_29 : decode cX6_wayLeft 29 = .ok (.invokevirtual 77, 3) := by decide +kernel
theorem dX6_wayLeft_32 : decode cX6_wayLeft 32 = .ok (.invokevirtual 100, 3) := by decide +kernel
theorem dX6_wayLeft_35 : decode cX6_wayLeft 35 = .ok (.ireturn, 1) := by decide +kernel
theorem dX6_puntsAground_0 : decode cX6_puntsAground 0 = .ok (.iconst 0, 1) := by decide +kernel
theorem dX6_puntsAground_1 : decode cX6_puntsAground 1 = .ok (.istore_n 1, 1) := by decide +kernel
theorem dX6_puntsAground_2 : decode cX6_puntsAground 2 = .ok (.iconst 0, 1) := by decide +kernel
theorem dX6_puntsAground_3 : decode cX6_puntsAground 3 = .ok (.istore_n 2, 1) := by decide +kernel
theorem dX6_puntsAground_4 : decode cX6_puntsAground 4 = .ok (.iload_n 2, 1) := by decide +kernel
theorem dX6_puntsAground_5 : decode cX6_puntsAground 5 = .ok (.aload_n 0, 1) := by decide +kernel
theorem dX6_puntsAground_6 : decode cX6_puntsAground 6 = .ok (.getfield 44, 3) := by decide +kernel
theorem dX6_puntsAground_9 : decode cX6_puntsAground 9 = .ok (.getfield 103, 3) := by decide +kernel
theorem dX6_puntsAground_12 : decode cX6_puntsAground 12 = .ok (.if_icmp .ge 20, 3) := by decide +kernel
theorem dX6_puntsAground_15 : decode cX6_puntsAground 15 = .ok (.aload_n 0, 1) := by decide +kernel
theorem dX6_puntsAground_16 : decode cX6_puntsAground 16 = .ok (.iload_n 2, 1) := by decide +kernel
theorem dX6_puntsAground_17 : decode cX6_puntsAground 17 = .ok (.invokevirtual 106, 3) := by decide +kernel
theorem dX6_puntsAground_20 : decode cX6_puntsAground 20 = .ok (.ifCond .eq 6, 3) := by decide +kernel
theorem dX6_puntsAground_23 : decode cX6_puntsAground 23 = .ok (.iinc 1 1, 3) := by decide +kernel
theorem dX6_puntsAground_26 : decode cX6_puntsAground 26 = .ok (.iinc 2 1, 3) := by decide +kernel
theorem dX6_puntsAground_29 : decode cX6_puntsAground 29 = .ok (.goto (-25), 3) := by decide +kernel
theorem dX6_puntsAground_32 : decode cX6_puntsAground 32 = .ok (.iload_n 1, 1) := by decide +kernel
theorem dX6_puntsAground_33 : decode cX6_puntsAground 33 = .ok (.ireturn, 1) := by decide +kernel
theorem dX6_takingsInAll_0 : decode cX6_takingsInAll 0 = .ok (.iconst 0, 1) := by decide +kernel
theorem dX6_takingsInAll_1 : decode cX6_takingsInAll 1 = .ok (.istore_n 1, 1) := by decide +kernel
theorem dX6_takingsInAll_2 : decode cX6_takingsInAll 2 = .ok (.iconst 0, 1) := by decide +kernel
theorem dX6_takingsInAll_3 : decode cX6_takingsInAll 3 = .ok (.istore_n 2, 1) := by decide +kernel
theorem dX6_takingsInAll_4 : decode cX6_takingsInAll 4 = .ok (.iload_n 2, 1) := by decide +kernel
theorem dX6_takingsInAll_5 : decode cX6_takingsInAll 5 = .ok (.aload_n 0, 1) := by decide +kernel
theorem dX6_takingsInAll_6 : decode cX6_takingsInAll 6 = .ok (.getfield 44, 3) := by decide +kernel
theorem dX6_takingsInAll_9 : decode cX6_takingsInAll 9 = .ok (.getfield 103, 3) := by decide +kernel
theorem dX6_takingsInAll_12 : decode cX6_takingsInAll 12 = .ok (.if_icmp .ge 20, 3) := by decide +kernel
theorem dX6_takingsInAll_15 : decode cX6_takingsInAll 15 = .ok (.iload_n 1, 1) := by decide +kernel
theorem dX6_takingsInAll_16 : decode cX6_takingsInAll 16 = .ok (.aload_n 0, 1) := by decide +kernel
theorem dX6_takingsInAll_17 : decode cX6_takingsInAll 17 = .ok (.getfield 23, 3) := by decide +kernel
theorem dX6_takingsInAll_20 : decode cX6_takingsInAll 20 = .ok (.iload_n 2, 1) := by decide +kernel
theorem dX6_takingsInAll_21 : decode cX6_takingsInAll 21 = .ok (.invokevirtual 77, 3) := by decide +kernel
theorem dX6_takingsInAll_24 : decode cX6_takingsInAll 24 = .ok (.iadd, 1) := by decide +kernel
theorem dX6_takingsInAll_25 : decode cX6_takingsInAll 25 = .ok (.istore_n 1, 1) := by decide +kernel
theorem dX6_takingsInAll_26 : decode cX6_takingsInAll 26 = .ok (.iinc 2 1, 3) := by decide +kernel
theorem dX6_takingsInAll_29 : decode cX6_takingsInAll 29 = .ok (.goto (-25), 3) := by decide +kernel
theorem dX6_takingsInAll_32 : decode cX6_takingsInAll 32 = .ok (.iload_n 1, 1) := by decide +kernel
theorem dX6_takingsInAll_33 : decode cX6_takingsInAll 33 = .ok (.ireturn, 1) := by decide +kernel
theorem dX6_chainLeft_0 : decode cX6_chainLeft 0 = .ok (.aload_n 0, 1) := by decide +kernel
theorem dX6_chainLeft_1 : decode cX6_chainLeft 1 = .ok (.getfield 32, 3) := by decide +kernel
theorem dX6_chainLeft_4 : decode cX6_chainLeft 4 = .ok (.getfield 110, 3) := by decide +kernel
theorem dX6_chainLeft_7 : decode cX6_chainLeft 7 = .ok (.iload_n 1, 1) := by decide +kernel
theorem dX6_chainLeft_8 : decode cX6_chainLeft 8 = .ok (.invokevirtual 77, 3) := by decide +kernel
theorem dX6_chainLeft_11 : decode cX6_chainLeft 11 = .ok (.istore_n 2, 1) := by decide +kernel
theorem dX6_chainLeft_12 : decode cX6_chainLeft 12 = .ok (.aload_n 0, 1) := by decide +kernel
theorem dX6_chainLeft_13 : decode cX6_chainLeft 13 = .ok (.getfield 32, 3) := by decide +kernel
theorem dX6_chainLeft_16 : decode cX6_chainLeft 16 = .ok (.iload_n 1, 1) := by decide +kernel
theorem dX6_chainLeft_17 : decode cX6_chainLeft 17 = .ok (.invokevirtual 113, 3) := by decide +kernel
theorem dX6_chainLeft_20 : decode cX6_chainLeft 20 = .ok (.ifCond .ne 23, 3) := by decide +kernel
theorem dX6_chainLeft_23 : decode cX6_chainLeft 23 = .ok (.aload_n 0, 1) := by decide +kernel
theorem dX6_chainLeft_24 : decode cX6_chainLeft 24 = .ok (.getfield 48, 3) := by decide +kernel
theorem dX6_chainLeft_27 : decode cX6_chainLeft 27 = .ok (.aload_n 0, 1) := by decide +kernel
theorem dX6_chainLeft_28 : decode cX6_chainLeft 28 = .ok (.getfield 32, 3) := by decide +kernel
theorem dX6_chainLeft_31 : decode cX6_chainLeft 31 = .ok (.getfield 116, 3) := by decide +kernel
theorem dX6_chainLeft_34 : decode cX6_chainLeft 34 = .ok (.iload_n 1, 1) := by decide +kernel
theorem dX6_chainLeft_35 : decode cX6_chainLeft 35 = .ok (.invokevirtual 77, 3) := by decide +kernel
theorem dX6_chainLeft_38 : decode cX6_chainLeft 38 = .ok (.iload_n 2, 1) := by decide +kernel
theorem dX6_chainLeft_39 : decode cX6_chainLeft 39 = .ok (.invokevirtual 119, 3) := by decide +kernel
theorem dX6_chainLeft_42 : decode cX6_chainLeft 42 = .ok (.ireturn, 1) := by decide +kernel
theorem dX6_chainLeft_43 : decode cX6_chainLeft 43 = .ok (.aload_n 0, 1) := by decide +kernel
theorem dX6_chainLeft_44 : decode cX6_chainLeft 44 = .ok (.getfield 48, 3) := by decide +kernel
theorem dX6_chainLeft_47 : decode cX6_chainLeft 47 = .ok (.aload_n 0, 1) := by decide +kernel
theorem dX6_chainLeft_48 : decode cX6_chainLeft 48 = .ok (.getfield 20, 3) := by decide +kernel
theorem dX6_chainLeft_51 : decode cX6_chainLeft 51 = .ok (.aload_n 0, 1) := by decide +kernel
theorem dX6_chainLeft_52 : decode cX6_chainLeft 52 = .ok (.getfield 32, 3) := by decide +kernel
theorem dX6_chainLeft_55 : decode cX6_chainLeft 55 = .ok (.getfield 124, 3) := by decide +kernel
theorem dX6_chainLeft_58 : decode cX6_chainLeft 58 = .ok (.iload_n 1, 1) := by decide +kernel
theorem dX6_chainLeft_59 : decode cX6_chainLeft 59 = .ok (.invokevirtual 77, 3) := by decide +kernel
theorem dX6_chainLeft_62 : decode cX6_chainLeft 62 = .ok (.invokevirtual 77, 3) := by decide +kernel
theorem dX6_chainLeft_65 : decode cX6_chainLeft 65 = .ok (.iload_n 2, 1) := by decide +kernel
theorem dX6_chainLeft_66 : decode cX6_chainLeft 66 = .ok (.invokevirtual 119, 3) := by decide +kernel
theorem dX6_chainLeft_69 : decode cX6_chainLeft 69 = .ok (.istore_n 3, 1) := by decide +kernel
theorem dX6_chainLeft_70 : decode cX6_chainLeft 70 = .ok (.iload_n 3, 1) := by decide +kernel
theorem dX6_chainLeft_71 : decode cX6_chainLeft 71 = .ok (.iconst (-1), 1) := by decide +kernel
theorem dX6_chainLeft_72 : decode cX6_chainLeft 72 = .ok (.if_icmp .ne 7, 3) := by decide +kernel
theorem dX6_chainLeft_75 : decode cX6_chainLeft 75 = .ok (.iconst (-1), 1) := by decide +kernel
theorem dX6_chainLeft_76 : decode cX6_chainLeft 76 = .ok (.goto 6, 3) := by decide +kernel
theorem dX6_chainLeft_79 : decode cX6_chainLeft 79 = .ok (.iload_n 3, 1) := by decide +kernel
theorem dX6_chainLeft_80 : decode cX6_chainLeft 80 = .ok (.iconst 1, 1) := by decide +kernel
theorem dX6_chainLeft_81 : decode cX6_chainLeft 81 = .ok (.iadd, 1) := by decide +kernel
theorem dX6_chainLeft_82 : decode cX6_chainLeft 82 = .ok (.ireturn, 1) := by decide +kernel
theorem dX6_goOn_0 : decode cX6_goOn 0 = .ok (.iconst 0, 1) := by decide +kernel
theorem dX6_goOn_1 : decode cX6_goOn 1 = .ok (.istore_n 1, 1) := by decide +kernel
theorem dX6_goOn_2 : decode cX6_goOn 2 = .ok (.iconst 0, 1) := by decide +kernel
theorem dX6_goOn_3 : decode cX6_goOn 3 = .ok (.istore_n 2, 1) := by decide +kernel
theorem dX6_goOn_4 : decode cX6_goOn 4 = .ok (.iload_n 2, 1) := by decide +kernel
theorem dX6_goOn_5 : decode cX6_goOn 5 = .ok (.aload_n 0, 1) := by decide +kernel
theorem dX6_goOn_6 : decode cX6_goOn 6 = .ok (.getfield 44, 3) := by decide +kernel
theorem dX6_goOn_9 : decode cX6_goOn 9 = .ok (.getfield 103, 3) := by decide +kernel
theorem dX6_goOn_12 : decode cX6_goOn 12 = .ok (.if_icmp .ge 25, 3) := by decide +kernel
theorem dX6_goOn_15 : decode cX6_goOn 15 = .ok (.aload_n 0, 1) := by decide +kernel
theorem dX6_goOn_16 : decode cX6_goOn 16 = .ok (.iload_n 2, 1) := by decide +kernel
theorem dX6_goOn_17 : decode cX6_goOn 17 = .ok (.invokevirtual 127, 3) := by decide +kernel
theorem dX6_goOn_20 : decode cX6_goOn 20 = .ok (.ifCond .eq 11, 3) := by decide +kernel
theorem dX6_goOn_23 : decode cX6_goOn 23 = .ok (.iload_n 1, 1) := by decide +kernel
theorem dX6_goOn_24 : decode cX6_goOn 24 = .ok (.aload_n 0, 1) := by decide +kernel
theorem dX6_goOn_25 : decode cX6_goOn 25 = .ok (.iload_n 2, 1) := by decide +kernel
theorem dX6_goOn_26 : decode cX6_goOn 26 = .ok (.invokevirtual 130, 3) := by decide +kernel
theorem dX6_goOn_29 : decode cX6_goOn 29 = .ok (.iadd, 1) := by decide +kernel
theorem dX6_goOn_30 : decode cX6_goOn 30 = .ok (.istore_n 1, 1) := by decide +kernel
theorem dX6_goOn_31 : decode cX6_goOn 31 = .ok (.iinc 2 1, 3) := by decide +kernel
theorem dX6_goOn_34 : decode cX6_goOn 34 = .ok (.goto (-30), 3) := by decide +kernel
theorem dX6_goOn_37 : decode cX6_goOn 37 = .ok (.iconst 0, 1) := by decide +kernel
theorem dX6_goOn_38 : decode cX6_goOn 38 = .ok (.istore_n 2, 1) := by decide +kernel
theorem dX6_goOn_39 : decode cX6_goOn 39 = .ok (.iload_n 2, 1) := by decide +kernel
theorem dX6_goOn_40 : decode cX6_goOn 40 = .ok (.aload_n 0, 1) := by decide +kernel
theorem dX6_goOn_41 : decode cX6_goOn 41 = .ok (.getfield 44, 3) := by decide +kernel
theorem dX6_goOn_44 : decode cX6_goOn 44 = .ok (.getfield 103, 3) := by decide +kernel
theorem dX6_goOn_47 : decode cX6_goOn 47 = .ok (.if_icmp .ge 14, 3) := by decide +kernel
theorem dX6_goOn_50 : decode cX6_goOn 50 = .ok (.aload_n 0, 1) := by decide +kernel
theorem dX6_goOn_51 : decode cX6_goOn 51 = .ok (.iload_n 2, 1) := by decide +kernel
theorem dX6_goOn_52 : decode cX6_goOn 52 = .ok (.invokevirtual 133, 3) := by decide +kernel
theorem dX6_goOn_55 : decode cX6_goOn 55 = .ok (.iinc 2 1, 3) := by decide +kernel
theorem dX6_goOn_58 : decode cX6_goOn 58 = .ok (.goto (-19), 3) := by decide +kernel
theorem dX6_goOn_61 : decode cX6_goOn 61 = .ok (.aload_n 0, 1) := by decide +kernel
theorem dX6_goOn_62 : decode cX6_goOn 62 = .ok (.dup, 1) := by decide +kernel
theorem dX6_goOn_63 : decode cX6_goOn 63 = .ok (.getfield 56, 3) := by decide +kernel
theorem dX6_goOn_66 : decode cX6_goOn 66 = .ok (.iconst 1, 1) := by decide +kernel
theorem dX6_goOn_67 : decode cX6_goOn 67 = .ok (.iadd, 1) := by decide +kernel
theorem dX6_goOn_68 : decode cX6_goOn 68 = .ok (.putfield 56, 3) := by decide +kernel
theorem dX6_goOn_71 : decode cX6_goOn 71 = .ok (.iload_n 1, 1) := by decide +kernel
theorem dX6_goOn_72 : decode cX6_goOn 72 = .ok (.ireturn, 1) := by decide +kernel
theorem dX6_hasLanded_0 : decode cX6_hasLanded 0 = .ok (.aload_n 0, 1) := by decide +kernel
theorem dX6_hasLanded_1 : decode cX6_hasLanded 1 = .ok (.getfield 14, 3) := by decide +kernel
theorem dX6_hasLanded_4 : decode cX6_hasLanded 4 = .ok (.iload_n 1, 1) := by decide +kernel
theorem dX6_hasLanded_5 : decode cX6_hasLanded 5 = .ok (.invokevirtual 77, 3) := by decide +kernel
theorem dX6_hasLanded_8 : decode cX6_hasLanded 8 = .ok (.aload_n 0, 1) := by decide +kernel
theorem dX6_hasLanded_9 : decode cX6_hasLanded 9 = .ok (.getfield 40, 3) := by decide +kernel
theorem dX6_hasLanded_12 : decode cX6_hasLanded 12 = .ok (.getfield 136, 3) := by decide +kernel
theorem dX6_hasLanded_15 : decode cX6_hasLanded 15 = .ok (.aload_n 0, 1) := by decide +kernel
theorem dX6_hasLanded_16 : decode cX6_hasLanded 16 = .ok (.getfield 20, 3) := by decide +kernel
theorem dX6_hasLanded_19 : decode cX6_hasLanded 19 = .ok (.iload_n 1, 1) := by decide +kernel
theorem dX6_hasLanded_20 : decode cX6_hasLanded 20 = .ok (.invokevirtual 77, 3) := by decide +kernel
theorem dX6_hasLanded_23 : decode cX6_hasLanded 23 = .ok (.invokevirtual 77, 3) := by decide +kernel
theorem dX6_hasLanded_26 : decode cX6_hasLanded 26 = .ok (.if_icmp .ne 7, 3) := by decide +kernel
theorem dX6_hasLanded_29 : decode cX6_hasLanded 29 = .ok (.iconst 1, 1) := by decide +kernel
theorem dX6_hasLanded_30 : decode cX6_hasLanded 30 = .ok (.goto 4, 3) := by decide +kernel
theorem dX6_hasLanded_33 : decode cX6_hasLanded 33 = .ok (.iconst 0, 1) := by decide +kernel
theorem dX6_hasLanded_34 : decode cX6_hasLanded 34 = .ok (.ireturn, 1) := by decide +kernel
theorem dX6_turnRound_0 : decode cX6_turnRound 0 = .ok (.aload_n 0, 1) := by decide +kernel
theorem dX6_turnRound_1 : decode cX6_turnRound 1 = .ok (.getfield 20, 3) := by decide +kernel
theorem dX6_turnRound_4 : decode cX6_turnRound 4 = .ok (.iload_n 1, 1) := by decide +kernel
theorem dX6_turnRound_5 : decode cX6_turnRound 5 = .ok (.invokevirtual 77, 3) := by decide +kernel
theorem dX6_turnRound_8 : decode cX6_turnRound 8 = .ok (.istore_n 2, 1) := by decide +kernel
theorem dX6_turnRound_9 : decode cX6_turnRound 9 = .ok (.aload_n 0, 1) := by decide +kernel
theorem dX6_turnRound_10 : decode cX6_turnRound 10 = .ok (.getfield 32, 3) := by decide +kernel
theorem dX6_turnRound_13 : decode cX6_turnRound 13 = .ok (.iload_n 1, 1) := by decide +kernel
theorem dX6_turnRound_14 : decode cX6_turnRound 14 = .ok (.iload_n 2, 1) := by decide +kernel
theorem dX6_turnRound_15 : decode cX6_turnRound 15 = .ok (.aload_n 0, 1) := by decide +kernel
theorem dX6_turnRound_16 : decode cX6_turnRound 16 = .ok (.getfield 56, 3) := by decide +kernel
theorem dX6_turnRound_19 : decode cX6_turnRound 19 = .ok (.invokevirtual 139, 3) := by decide +kernel
theorem dX6_turnRound_22 : decode cX6_turnRound 22 = .ok (.istore_n 3, 1) := by decide +kernel
theorem dX6_turnRound_23 : decode cX6_turnRound 23 = .ok (.aload_n 0, 1) := by decide +kernel
theorem dX6_turnRound_24 : decode cX6_turnRound 24 = .ok (.getfield 20, 3) := by decide +kernel
theorem dX6_turnRound_27 : decode cX6_turnRound 27 = .ok (.iload_n 1, 1) := by decide +kernel
theorem dX6_turnRound_28 : decode cX6_turnRound 28 = .ok (.aload_n 0, 1) := by decide +kernel
theorem dX6_turnRound_29 : decode cX6_turnRound 29 = .ok (.getfield 44, 3) := by decide +kernel
theorem dX6_turnRound_32 : decode cX6_turnRound 32 = .ok (.iload_n 1, 1) := by decide +kernel
theorem dX6_turnRound_33 : decode cX6_turnRound 33 = .ok (.iload_n 2, 1) := by decide +kernel
theorem dX6_turnRound_34 : decode cX6_turnRound 34 = .ok (.invokevirtual 142, 3) := by decide +kernel
theorem dX6_turnRound_37 : decode cX6_turnRound 37 = .ok (.invokevirtual 67, 3) := by decide +kernel
theorem dX6_turnRound_40 : decode cX6_turnRound 40 = .ok (.aload_n 0, 1) := by decide +kernel
theorem dX6_turnRound_41 : decode cX6_turnRound 41 = .ok (.iload_n 1, 1) := by decide +kernel
theorem dX6_turnRound_42 : decode cX6_turnRound 42 = .ok (.iload_n 2, 1) := by decide +kernel
theorem dX6_turnRound_43 : decode cX6_turnRound 43 = .ok (.invokevirtual 145, 3) := by decide +kernel
theorem dX6_turnRound_46 : decode cX6_turnRound 46 = .ok (.iload_n 3, 1) := by decide +kernel
theorem dX6_turnRound_47 : decode cX6_turnRound 47 = .ok (.ireturn, 1) := by decide +kernel
theorem dX6_load_0 : decode cX6_load 0 = .ok (.aload_n 0, 1) := by decide +kernel
theorem dX6_load_1 : decode cX6_load 1 = .ok (.getfield 44, 3) := by decide +kernel
theorem dX6_load_4 : decode cX6_load 4 = .ok (.getfield 148, 3) := by decide +kernel
theorem dX6_load_7 : decode cX6_load 7 = .ok (.iload_n 1, 1) := by decide +kernel
theorem dX6_load_8 : decode cX6_load 8 = .ok (.invokevirtual 77, 3) := by decide +kernel
theorem dX6_load_11 : decode cX6_load 11 = .ok (.istore_n 3, 1) := by decide +kernel
theorem dX6_load_12 : decode cX6_load 12 = .ok (.aload_n 0, 1) := by decide +kernel
theorem dX6_load_13 : decode cX6_load 13 = .ok (.getfield 44, 3) := by decide +kernel
theorem dX6_load_16 : decode cX6_load 16 = .ok (.getfield 151, 3) := by decide +kernel
theorem dX6_load_19 : decode cX6_load 19 = .ok (.iload_n 1, 1) := by decide +kernel
theorem dX6_load_20 : decode cX6_load 20 = .ok (.invokevirtual 77, 3) := by decide +kernel
theorem dX6_load_23 : decode cX6_load 23 = .ok (.istore 4, 2) := by decide +kernel
theorem dX6_load_25 : decode cX6_load 25 = .ok (.iconst 0, 1) := by decide +kernel
theorem dX6_load_26 : decode cX6_load 26 = .ok (.istore 5, 2) := by decide +kernel
theorem dX6_load_28 : decode cX6_load 28 = .ok (.iload 5, 2) := by decide +kernel
theorem dX6_load_30 : decode cX6_load 30 = .ok (.aload_n 0, 1) := by decide +kernel
theorem dX6_load_31 : decode cX6_load 31 = .ok (.getfield 32, 3) := by decide +kernel
theorem dX6_load_34 : decode cX6_load 34 = .ok (.getfield 154, 3) := by decide +kernel
theorem dX6_load_37 : decode cX6_load 37 = .ok (.if_icmp .ge 64, 3) := by decide +kernel
theorem dX6_load_40 : decode cX6_load 40 = .ok (.iload 4, 2) := by decide +kernel
theorem dX6_load_42 : decode cX6_load 42 = .ok (.ifCond .le 59, 3) := by decide +kernel
theorem dX6_load_45 : decode cX6_load 45 = .ok (.aload_n 0, 1) := by decide +kernel
theorem dX6_load_46 : decode cX6_load 46 = .ok (.iload 5, 2) := by decide +kernel
theorem dX6_load_48 : decode cX6_load 48 = .ok (.iload_n 1, 1) := by decide +kernel
theorem dX6_load_49 : decode cX6_load 49 = .ok (.iload_n 2, 1) := by decide +kernel
theorem dX6_load_50 : decode cX6_load 50 = .ok (.invokevirtual 155, 3) := by decide +kernel
theorem dX6_load_53 : decode cX6_load 53 = .ok (.ifCond .eq 42, 3) := by decide +kernel
theorem dX6_load_56 : decode cX6_load 56 = .ok (.aload_n 0, 1) := by decide +kernel
theorem dX6_load_57 : decode cX6_load 57 = .ok (.getfield 32, 3) := by decide +kernel
theorem dX6_load_60 : decode cX6_load 60 = .ok (.getfield 159, 3) := by decide +kernel
theorem dX6_load_63 : decode cX6_load 63 = .ok (.iload 5, 2) := by decide +kernel
theorem dX6_load_65 : decode cX6_load 65 = .ok (.invokevirtual 77, 3) := by decide +kernel
theorem dX6_load_68 : decode cX6_load 68 = .ok (.iload_n 3, 1) := by decide +kernel
theorem dX6_load_69 : decode cX6_load 69 = .ok (.if_icmp .lt 26, 3) := by decide +kernel
theorem dX6_load_72 : decode cX6_load 72 = .ok (.aload_n 0, 1) := by decide +kernel
theorem dX6_load_73 : decode cX6_load 73 = .ok (.getfield 32, 3) := by decide +kernel
theorem dX6_load_76 : decode cX6_load 76 = .ok (.iload 5, 2) := by decide +kernel
theorem dX6_load_78 : decode cX6_load 78 = .ok (.iload_n 1, 1) := by decide +kernel
theorem dX6_load_79 : decode cX6_load 79 = .ok (.iload_n 3, 1) := by decide +kernel
theorem dX6_load_80 : decode cX6_load 80 = .ok (.invokevirtual 162, 3) := by decide +kernel
theorem dX6_load_83 : decode cX6_load 83 = .ok (.aload_n 0, 1) := by decide +kernel
theorem dX6_load_84 : decode cX6_load 84 = .ok (.getfield 23, 3) := by decide +kernel
theorem dX6_load_87 : decode cX6_load 87 = .ok (.iload_n 1, 1) := by decide +kernel
theorem dX6_load_88 : decode cX6_load 88 = .ok (.iload_n 3, 1) := by decide +kernel
theorem dX6_load_89 : decode cX6_load 89 = .ok (.invokevirtual 166, 3) := by decide +kernel
theorem dX6_load_92 : decode cX6_load 92 = .ok (.iinc 4 (-1), 3) := by decide +kernel
theorem dX6_load_95 : decode cX6_load 95 = .ok (.iinc 5 1, 3) := by decide +kernel
theorem dX6_load_98 : decode cX6_load 98 = .ok (.goto (-70), 3) := by decide +kernel
theorem dX6_load_101 : decode cX6_load 101 = .ok (.return_, 1) := by decide +kernel
theorem dX6_takes_0 : decode cX6_takes 0 = .ok (.aload_n 0, 1) := by decide +kernel
theorem dX6_takes_1 : decode cX6_takes 1 = .ok (.getfield 32, 3) := by decide +kernel
theorem dX6_takes_4 : decode cX6_takes 4 = .ok (.iload_n 1, 1) := by decide +kernel
theorem dX6_takes_5 : decode cX6_takes 5 = .ok (.iload_n 3, 1) := by decide +kernel
theorem dX6_takes_6 : decode cX6_takes 6 = .ok (.invokevirtual 169, 3) := by decide +kernel
theorem dX6_takes_9 : decode cX6_takes 9 = .ok (.ifCond .eq 30, 3) := by decide +kernel
theorem dX6_takes_12 : decode cX6_takes 12 = .ok (.aload_n 0, 1) := by decide +kernel
theorem dX6_takes_13 : decode cX6_takes 13 = .ok (.getfield 48, 3) := by decide +kernel
theorem dX6_takes_16 : decode cX6_takes 16 = .ok (.iload_n 3, 1) := by decide +kernel
theorem dX6_takes_17 : decode cX6_takes 17 = .ok (.aload_n 0, 1) := by decide +kernel
theorem dX6_takes_18 : decode cX6_takes 18 = .ok (.getfield 32, 3) := by decide +kernel
theorem dX6_takes_21 : decode cX6_takes 21 = .ok (.getfield 110, 3) := by decide +kernel
theorem dX6_takes_24 : decode cX6_takes 24 = .ok (.iload_n 1, 1) := by decide +kernel
theorem dX6_takes_25 : decode cX6_takes 25 = .ok (.invokevirtual 77, 3) := by decide +kernel
theorem dX6_takes_28 : decode cX6_takes 28 = .ok (.invokevirtual 172, 3) := by decide +kernel
theorem dX6_takes_31 : decode cX6_takes 31 = .ok (.iload_n 2, 1) := by decide +kernel
theorem dX6_takes_32 : decode cX6_takes 32 = .ok (.if_icmp .ne 7, 3) := by decide +kernel
theorem dX6_takes_35 : decode cX6_takes 35 = .ok (.iconst 1, 1) := by decide +kernel
theorem dX6_takes_36 : decode cX6_takes 36 = .ok (.goto 4, 3) := by decide +kernel
theorem dX6_takes_39 : decode cX6_takes 39 = .ok (.iconst 0, 1) := by decide +kernel
theorem dX6_takes_40 : decode cX6_takes 40 = .ok (.ireturn, 1) := by decide +kernel
theorem dX6_stepOn_0 : decode cX6_stepOn 0 = .ok (.aload_n 0, 1) := by decide +kernel
theorem dX6_stepOn_1 : decode cX6_stepOn 1 = .ok (.getfield 52, 3) := by decide +kernel
theorem dX6_stepOn_4 : decode cX6_stepOn 4 = .ok (.iload_n 1, 1) := by decide +kernel
theorem dX6_stepOn_5 : decode cX6_stepOn 5 = .ok (.aload_n 0, 1) := by decide +kernel
theorem dX6_stepOn_6 : decode cX6_stepOn 6 = .ok (.getfield 20, 3) := by decide +kernel
theorem dX6_stepOn_9 : decode cX6_stepOn 9 = .ok (.iload_n 1, 1) := by decide +kernel
theorem dX6_stepOn_10 : decode cX6_stepOn 10 = .ok (.invokevirtual 77, 3) := by decide +kernel
theorem dX6_stepOn_13 : decode cX6_stepOn 13 = .ok (.aload_n 0, 1) := by decide +kernel
theorem dX6_stepOn_14 : decode cX6_stepOn 14 = .ok (.invokevirtual 80, 3) := by decide +kernel
theorem dX6_stepOn_17 : decode cX6_stepOn 17 = .ok (.invokevirtual 94, 3) := by decide +kernel
theorem dX6_stepOn_20 : decode cX6_stepOn 20 = .ok (.istore_n 2, 1) := by decide +kernel
theorem dX6_stepOn_21 : decode cX6_stepOn 21 = .ok (.aload_n 0, 1) := by decide +kernel
theorem dX6_stepOn_22 : decode cX6_stepOn 22 = .ok (.getfield 52, 3) := by decide +kernel
theorem dX6_stepOn_25 : decode cX6_stepOn 25 = .ok (.iload_n 2, 1) := by decide +kernel
theorem dX6_stepOn_26 : decode cX6_stepOn 26 = .ok (.aload_n 0, 1) := by decide +kernel
theorem dX6_stepOn_27 : decode cX6_stepOn 27 = .ok (.getfield 14, 3) := by decide +kernel
theorem dX6_stepOn_30 : decode cX6_stepOn 30 = .ok (.iload_n 1, 1) := by decide +kernel
theorem dX6_stepOn_31 : decode cX6_stepOn 31 = .ok (.invokevirtual 77, 3) := by decide +kernel
theorem dX6_stepOn_34 : decode cX6_stepOn 34 = .ok (.invokevirtual 175, 3) := by decide +kernel
theorem dX6_stepOn_37 : decode cX6_stepOn 37 = .ok (.istore_n 3, 1) := by decide +kernel
theorem dX6_stepOn_38 : decode cX6_stepOn 38 = .ok (.iload_n 3, 1) := by decide +kernel
theorem dX6_stepOn_39 : decode cX6_stepOn 39 = .ok (.iconst (-1), 1) := by decide +kernel
theorem dX6_stepOn_40 : decode cX6_stepOn 40 = .ok (.if_icmp .eq 21, 3) := by decide +kernel
theorem dX6_stepOn_43 : decode cX6_stepOn 43 = .ok (.aload_n 0, 1) := by decide +kernel
theorem dX6_stepOn_44 : decode cX6_stepOn 44 = .ok (.getfield 14, 3) := by decide +kernel
theorem dX6_stepOn_47 : decode cX6_stepOn 47 = .ok (.iload_n 1, 1) := by decide +kernel
theorem dX6_stepOn_48 : decode cX6_stepOn 48 = .ok (.iload_n 3, 1) := by decide +kernel
theorem dX6_stepOn_49 : decode cX6_stepOn 49 = .ok (.invokevirtual 67, 3) := by decide +kernel
theorem dX6_stepOn_52 : decode cX6_stepOn 52 = .ok (.aload_n 0, 1) := by decide +kernel
theorem dX6_stepOn_53 : decode cX6_stepOn 53 = .ok (.getfield 26, 3) := by decide +kernel
theorem dX6_stepOn_56 : decode cX6_stepOn 56 = .ok (.iload_n 1, 1) := by decide +kernel
theorem dX6_stepOn_57 : decode cX6_stepOn 57 = .ok (.iconst 1, 1) := by decide +kernel
theorem dX6_stepOn_58 : decode cX6_stepOn 58 = .ok (.invokevirtual 166, 3) := by decide +kernel
theorem dX6_stepOn_61 : decode cX6_stepOn 61 = .ok (.return_, 1) := by decide +kernel
theorem dX7_init_0 : decode cX7_init 0 = .ok (.aload_n 0, 1) := by decide +kernel
theorem dX7_init_1 : decode cX7_init 1 = .ok (.invokespecial 3, 3) := by decide +kernel
theorem dX7_init_4 : decode cX7_init 4 = .ok (.aload_n 0, 1) := by decide +kernel
theorem dX7_init_5 : decode cX7_init 5 = .ok (.new 9, 3) := by decide +kernel
theorem dX7_init_8 : decode cX7_init 8 = .ok (.dup, 1) := by decide +kernel
theorem dX7_init_9 : decode cX7_init 9 = .ok (.bipush 30, 2) := by decide +kernel
theorem dX7_init_11 : decode cX7_init 11 = .ok (.invokespecial 11, 3) := by decide +kernel
theorem dX7_init_14 : decode cX7_init 14 = .ok (.putfield 14, 3) := by decide +kernel
theorem dX7_init_17 : decode cX7_init 17 = .ok (.aload_n 0, 1) := by decide +kernel
theorem dX7_init_18 : decode cX7_init 18 = .ok (.new 9, 3) := by decide +kernel
theorem dX7_init_21 : decode cX7_init 21 = .ok (.dup, 1) := by decide +kernel
theorem dX7_init_22 : decode cX7_init 22 = .ok (.bipush 30, 2) := by decide +kernel
theorem dX7_init_24 : decode cX7_init 24 = .ok (.invokespecial 11, 3) := by decide +kernel
theorem dX7_init_27 : decode cX7_init 27 = .ok (.putfield 20, 3) := by decide +kernel
theorem dX7_init_30 : decode cX7_init 30 = .ok (.aload_n 0, 1) := by decide +kernel
theorem dX7_init_31 : decode cX7_init 31 = .ok (.new 9, 3) := by decide +kernel
theorem dX7_init_34 : decode cX7_init 34 = .ok (.dup, 1) := by decide +kernel
theorem dX7_init_35 : decode cX7_init 35 = .ok (.bipush 30, 2) := by decide +kernel
theorem dX7_init_37 : decode cX7_init 37 = .ok (.invokespecial 11, 3) := by decide +kernel
theorem dX7_init_40 : decode cX7_init 40 = .ok (.putfield 23, 3) := by decide +kernel
theorem dX7_init_43 : decode cX7_init 43 = .ok (.aload_n 0, 1) := by decide +kernel
theorem dX7_init_44 : decode cX7_init 44 = .ok (.new 9, 3) := by decide +kernel
theorem dX7_init_47 : decode cX7_init 47 = .ok (.dup, 1) := by decide +kernel
theorem dX7_init_48 : decode cX7_init 48 = .ok (.bipush 30, 2) := by decide +kernel
theorem dX7_init_50 : decode cX7_init 50 = .ok (.invokespecial 11, 3) := by decide +kernel
theorem dX7_init_53 : decode cX7_init 53 = .ok (.putfield 26, 3) := by decide +kernel
theorem dX7_init_56 : decode cX7_init 56 = .ok (.aload_n 0, 1) := by decide +kernel
theorem dX7_init_57 : decode cX7_init 57 = .ok (.new 9, 3) := by decide +kernel
theorem dX7_init_60 : decode cX7_init 60 = .ok (.dup, 1) := by decide +kernel
theorem dX7_init_61 : decode cX7_init 61 = .ok (.bipush 30, 2) := by decide +kernel
theorem dX7_init_63 : decode cX7_init 63 = .ok (.invokespecial 11, 3) := by decide +kernel
theorem dX7_init_66 : decode cX7_init 66 = .ok (.putfield 29, 3) := by decide +kernel
theorem dX7_init_69 : decode cX7_init 69 = .ok (.return_, 1) := by decide +kernel
theorem dX7_takeOver_0 : decode cX7_takeOver 0 = .ok (.aload_n 0, 1) := by decide +kernel
theorem dX7_takeOver_1 : decode cX7_takeOver 1 = .ok (.aload_n 1, 1) := by decide +kernel
theorem dX7_takeOver_2 : decode cX7_takeOver 2 = .ok (.getfield 32, 3) := by decide +kernel
theorem dX7_takeOver_5 : decode cX7_takeOver 5 = .ok (.putfield 32, 3) := by decide +kernel
theorem dX7_takeOver_8 : decode cX7_takeOver 8 = .ok (.aload_n 0, 1) := by decide +kernel
theorem dX7_takeOver_9 : decode cX7_takeOver 9 = .ok (.getfield 14, 3) := by decide +kernel
theorem dX7_takeOver_12 : decode cX7_takeOver 12 = .ok (.aload_n 1, 1) := by decide +kernel
theorem dX7_takeOver_13 : decode cX7_takeOver 13 = .ok (.getfield 14, 3) := by decide +kernel
theorem dX7_takeOver_16 : decode cX7_takeOver 16 = .ok (.invokevirtual 36, 3) := by decide +kernel
theorem dX7_takeOver_19 : decode cX7_takeOver 19 = .ok (.aload_n 0, 1) := by decide +kernel
theorem dX7_takeOver_20 : decode cX7_takeOver 20 = .ok (.getfield 20, 3) := by decide +kernel
theorem dX7_takeOver_23 : decode cX7_takeOver 23 = .ok (.aload_n 1, 1) := by decide +kernel
theorem dX7_takeOver_24 : decode cX7_takeOver 24 = .ok (.getfield 20, 3) := by decide +kernel
theorem dX7_takeOver_27 : decode cX7_takeOver 27 = .ok (.invokevirtual 36, 3) := by decide +kernel
theorem dX7_takeOver_30 : decode cX7_takeOver 30 = .ok (.aload_n 0, 1) := by decide +kernel
theorem dX7_takeOver_31 : decode cX7_takeOver 31 = .ok (.getfield 23, 3) := by decide +kernel
theorem dX7_takeOver_34 : decode cX7_takeOver 34 = .ok (.aload_n 1, 1) := by decide +kernel
theorem dX7_takeOver_35 : decode cX7_takeOver 35 = .ok (.getfield 23, 3) := by decide +kernel
theorem dX7_takeOver_38 : decode cX7_takeOver 38 = .ok (.invokevirtual 36, 3) := by decide +kernel
theorem dX7_takeOver_41 : decode cX7_takeOver 41 = .ok (.aload_n 0, 1) := by decide +kernel
theorem dX7_takeOver_42 : decode cX7_takeOver 42 = .ok (.getfield 26, 3) := by decide +kernel
theorem dX7_takeOver_45 : decode cX7_takeOver 45 = .ok (.aload_n 1, 1) := by decide +kernel
theorem dX7_takeOver_46 : decode cX7_takeOver 46 = .ok (.getfield 26, 3) := by decide +kernel
theorem dX7_takeOver_49 : decode cX7_takeOver 49 = .ok (.invokevirtual 36, 3) := by decide +kernel
theorem dX7_takeOver_52 : decode cX7_takeOver 52 = .ok (.aload_n 0, 1) := by decide +kernel
theorem dX7_takeOver_53 : decode cX7_takeOver 53 = .ok (.getfield 29, 3) := by decide +kernel
theorem dX7_takeOver_56 : decode cX7_takeOver 56 = .ok (.aload_n 1, 1) := by decide +kernel
theorem dX7_takeOver_57 : decode cX7_takeOver 57 = .ok (.getfield 29, 3) := by decide +kernel
theorem dX7_takeOver_60 : decode cX7_takeOver 60 = .ok (.invokevirtual 36, 3) := by decide +kernel
theorem dX7_takeOver_63 : decode cX7_takeOver 63 = .ok (.return_, 1) := by decide +kernel
theorem dX7_add_0 : decode cX7_add 0 = .ok (.aload_n 0, 1) := by decide +kernel
theorem dX7_add_1 : decode cX7_add 1 = .ok (.getfield 32, 3) := by decide +kernel
theorem dX7_add_4 : decode cX7_add 4 = .ok (.istore 4, 2) := by decide +kernel
theorem dX7_add_6 : decode cX7_add 6 = .ok (.aload_n 0, 1) := by decide +kernel
theorem dX7_add_7 : decode cX7_add 7 = .ok (.getfield 14, 3) := by decide +kernel
theorem dX7_add_10 : decode cX7_add 10 = .ok (.iload 4, 2) := by decide +kernel
theorem dX7_add_12 : decode cX7_add 12 = .ok (.iload_n 2, 1) := by decide +kernel
theorem dX7_add_13 : decode cX7_add 13 = .ok (.invokevirtual 40, 3) := by decide +kernel
theorem dX7_add_16 : decode cX7_add 16 = .ok (.aload_n 0, 1) := by decide +kernel
theorem dX7_add_17 : decode cX7_add 17 = .ok (.getfield 20, 3) := by decide +kernel
theorem dX7_add_20 : decode cX7_add 20 = .ok (.iload 4, 2) := by decide +kernel
theorem dX7_add_22 : decode cX7_add 22 = .ok (.iload_n 3, 1) := by decide +kernel
theorem dX7_add_23 : decode cX7_add 23 = .ok (.invokevirtual 40, 3) := by decide +kernel
theorem dX7_add_26 : decode cX7_add 26 = .ok (.aload_n 0, 1) := by decide +kernel
theorem dX7_add_27 : decode cX7_add 27 = .ok (.getfield 23, 3) := by decide +kernel
theorem dX7_add_30 : decode cX7_add 30 = .ok (.iload 4, 2) := by decide +kernel
theorem dX7_add_32 : decode cX7_add 32 = .ok (.iload_n 1, 1) := by decide +kernel
theorem dX7_add_33 : decode cX7_add 33 = .ok (.invokevirtual 40, 3) := by decide +kernel
theorem dX7_add_36 : decode cX7_add 36 = .ok (.aload_n 0, 1) := by decide +kernel
theorem dX7_add_37 : decode cX7_add 37 = .ok (.getfield 26, 3) := by decide +kernel
theorem dX7_add_40 : decode cX7_add 40 = .ok (.iload 4, 2) := by decide +kernel
theorem dX7_add_42 : decode cX7_add 42 = .ok (.iconst (-1), 1) := by decide +kernel
theorem dX7_add_43 : decode cX7_add 43 = .ok (.invokevirtual 40, 3) := by decide +kernel
theorem dX7_add_46 : decode cX7_add 46 = .ok (.aload_n 0, 1) := by decide +kernel
theorem dX7_add_47 : decode cX7_add 47 = .ok (.getfield 29, 3) := by decide +kernel
theorem dX7_add_50 : decode cX7_add 50 = .ok (.iload 4, 2) := by decide +kernel
theorem dX7_add_52 : decode cX7_add 52 = .ok (.iconst (-1), 1) := by decide +kernel
theorem dX7_add_53 : decode cX7_add 53 = .ok (.invokevirtual 40, 3) := by decide +kernel
theorem dX7_add_56 : decode cX7_add 56 = .ok (.aload_n 0, 1) := by decide +kernel
theorem dX7_add_57 : decode cX7_add 57 = .ok (.dup, 1) := by decide +kernel
theorem dX7_add_58 : decode cX7_add 58 = .ok (.getfield 32, 3) := by decide +kernel
theorem dX7_add_61 : decode cX7_add 61 = .ok (.iconst 1, 1) := by decide +kernel
theorem dX7_add_62 : decode cX7_add 62 = .ok (.iadd, 1) := by decide +kernel
theorem dX7_add_63 : decode cX7_add 63 = .ok (.putfield 32, 3) := by decide +kernel
theorem dX7_add_66 : decode cX7_add 66 = .ok (.iload 4, 2) := by decide +kernel
theorem dX7_add_68 : decode cX7_add 68 = .ok (.ireturn, 1) := by decide +kernel
theorem dX7_hasCome_0 : decode cX7_hasCome 0 = .ok (.aload_n 0, 1) := by decide +kernel
theorem dX7_hasCome_1 : decode cX7_hasCome 1 = .ok (.getfield 29, 3) := by decide +kernel
theorem dX7_hasCome_4 : decode cX7_hasCome 4 = .ok (.iload_n 1, 1) := by decide +kernel
theorem dX7_hasCome_5 : decode cX7_hasCome 5 = .ok (.invokevirtual 44, 3) := by decide +kernel
theorem dX7_hasCome_8 : decode cX7_hasCome 8 = .ok (.iconst (-1), 1) := by decide +kernel
theorem dX7_hasCome_9 : decode cX7_hasCome 9 = .ok (.if_icmp .eq 7, 3) := by decide +kernel
theorem dX7_hasCome_12 : decode cX7_hasCome 12 = .ok (.iconst 1, 1) := by decide +kernel
theorem dX7_hasCome_13 : decode cX7_hasCome 13 = .ok (.goto 4, 3) := by decide +kernel
theorem dX7_hasCome_16 : decode cX7_hasCome 16 = .ok (.iconst 0, 1) := by decide +kernel
theorem dX7_hasCome_17 : decode cX7_hasCome 17 = .ok (.ireturn, 1) := by decide +kernel
theorem dX7_rides_0 : decode cX7_rides 0 = .ok (.aload_n 0, 1) := by decide +kernel
theorem dX7_rides_1 : decode cX7_rides 1 = .ok (.getfield 26, 3) := by decide +kernel
theorem dX7_rides_4 : decode cX7_rides 4 = .ok (.iload_n 1, 1) := by decide +kernel
theorem dX7_rides_5 : decode cX7_rides 5 = .ok (.invokevirtual 44, 3) := by decide +kernel
theorem dX7_rides_8 : decode cX7_rides 8 = .ok (.iconst (-1), 1) := by decide +kernel
theorem dX7_rides_9 : decode cX7_rides 9 = .ok (.if_icmp .eq 7, 3) := by decide +kernel
theorem dX7_rides_12 : decode cX7_rides 12 = .ok (.iconst 1, 1) := by decide +kernel
theorem dX7_rides_13 : decode cX7_rides 13 = .ok (.goto 4, 3) := by decide +kernel
theorem dX7_rides_16 : decode cX7_rides 16 = .ok (.iconst 0, 1) := by decide +kernel
theorem dX7_rides_17 : decode cX7_rides 17 = .ok (.ireturn, 1) := by decide +kernel
theorem dX7_waitsAt_0 : decode cX7_waitsAt 0 = .ok (.aload_n 0, 1) := by decide +kernel
theorem dX7_waitsAt_1 : decode cX7_waitsAt 1 = .ok (.getfield 23, 3) := by decide +kernel
theorem dX7_waitsAt_4 : decode cX7_waitsAt 4 = .ok (.iload_n 1, 1) := by decide +kernel
theorem dX7_waitsAt_5 : decode cX7_waitsAt 5 = .ok (.invokevirtual 44, 3) := by decide +kernel
theorem dX7_waitsAt_8 : decode cX7_waitsAt 8 = .ok (.iload_n 2, 1) := by decide +kernel
theorem dX7_waitsAt_9 : decode cX7_waitsAt 9 = .ok (.if_icmp .ne 19, 3) := by decide +kernel
theorem dX7_waitsAt_12 : decode cX7_waitsAt 12 = .ok (.aload_n 0, 1) := by decide +kernel
theorem dX7_waitsAt_13 : decode cX7_waitsAt 13 = .ok (.getfield 29, 3) := by decide +kernel
theorem dX7_waitsAt_16 : decode cX7_waitsAt 16 = .ok (.iload_n 1, 1) := by decide +kernel
theorem dX7_waitsAt_17 : decode cX7_waitsAt 17 = .ok (.invokevirtual 44, 3) := by decide +kernel
theorem dX7_waitsAt_20 : decode cX7_waitsAt 20 = .ok (.iconst (-1), 1) := by decide +kernel
theorem dX7_waitsAt_21 : decode cX7_waitsAt 21 = .ok (.if_icmp .ne 7, 3) := by decide +kernel
theorem dX7_waitsAt_24 : decode cX7_waitsAt 24 = .ok (.iconst 1, 1) := by decide +kernel
theorem dX7_waitsAt_25 : decode cX7_waitsAt 25 = .ok (.goto 4, 3) := by decide +kernel
theorem dX7_waitsAt_28 : decode cX7_waitsAt 28 = .ok (.iconst 0, 1) := by decide +kernel
theorem dX7_waitsAt_29 : decode cX7_waitsAt 29 = .ok (.ireturn, 1) := by decide +kernel
theorem dX7_getIn_0 : decode cX7_getIn 0 = .ok (.aload_n 0, 1) := by decide +kernel
theorem dX7_getIn_1 : decode cX7_getIn 1 = .ok (.getfield 20, 3) := by decide +kernel
theorem dX7_getIn_4 : decode cX7_getIn 4 = .ok (.iload_n 1, 1) := by decide +kernel
theorem dX7_getIn_5 : decode cX7_getIn 5 = .ok (.iload_n 3, 1) := by decide +kernel
theorem dX7_getIn_6 : decode cX7_getIn 6 = .ok (.ineg, 1) := by decide +kernel
theorem dX7_getIn_7 : decode cX7_getIn 7 = .ok (.invokevirtual 48, 3) := by decide +kernel
theorem dX7_getIn_10 : decode cX7_getIn 10 = .ok (.aload_n 0, 1) := by decide +kernel
theorem dX7_getIn_11 : decode cX7_getIn 11 = .ok (.getfield 23, 3) := by decide +kernel
theorem dX7_getIn_14 : decode cX7_getIn 14 = .ok (.iload_n 1, 1) := by decide +kernel
theorem dX7_getIn_15 : decode cX7_getIn 15 = .ok (.iconst (-1), 1) := by decide +kernel
theorem dX7_getIn_16 : decode cX7_getIn 16 = .ok (.invokevirtual 40, 3) := by decide +kernel
theorem dX7_getIn_19 : decode cX7_getIn 19 = .ok (.aload_n 0, 1) := by decide +kernel
theorem dX7_getIn_20 : decode cX7_getIn 20 = .ok (.getfield 26, 3) := by decide +kernel
theorem dX7_getIn_23 : decode cX7_getIn 23 = .ok (.iload_n 1, 1) := by decide +kernel
theorem dX7_getIn_24 : decode cX7_getIn 24 = .ok (.iload_n 2, 1) := by decide +kernel
theorem dX7_getIn_25 : decode cX7_getIn 25 = .ok (.invokevirtual 40, 3) := by decide +kernel
theorem dX7_getIn_28 : decode cX7_getIn 28 = .ok (.return_, 1) := by decide +kernel
theorem dX7_getOut_0 : decode cX7_getOut 0 = .ok (.iconst 0, 1) := by decide +kernel
theorem dX7_getOut_1 : decode cX7_getOut 1 = .ok (.istore 4, 2) := by decide +kernel
theorem dX7_getOut_3 : decode cX7_getOut 3 = .ok (.iconst 0, 1) := by decide +kernel
theorem dX7_getOut_4 : decode cX7_getOut 4 = .ok (.istore 5, 2) := by decide +kernel
theorem dX7_getOut_6 : decode cX7_getOut 6 = .ok (.iload 5, 2) := by decide +kernel
theorem dX7_getOut_8 : decode cX7_getOut 8 = .ok (.aload_n 0, 1) := by decide +kernel
theorem dX7_getOut_9 : decode cX7_getOut 9 = .ok (.getfield 32, 3) := by decide +kernel
theorem dX7_getOut_12 : decode cX7_getOut 12 = .ok (.if_icmp .ge 68, 3) := by decide +kernel
theorem dX7_getOut_15 : decode cX7_getOut 15 = .ok (.aload_n 0, 1) := by decide +kernel
theorem dX7_getOut_16 : decode cX7_getOut 16 = .ok (.getfield 26, 3) := by decide +kernel
theorem dX7_getOut_19 : decode cX7_getOut 19 = .ok (.iload 5, 2) := by decide +kernel
theorem dX7_getOut_21 : decode cX7_getOut 21 = .ok (.invokevirtual 44, 3) := by decide +kernel
theorem dX7_getOut_24 : decode cX7_getOut 24 = .ok (.iload_n 1, 1) := by decide +kernel
theorem dX7_getOut_25 : decode cX7_getOut 25 = .ok (.if_icmp .ne 49, 3) := by decide +kernel
theorem dX7_getOut_28 : decode cX7_getOut 28 = .ok (.aload_n 0, 1) := by decide +kernel
theorem dX7_getOut_29 : decode cX7_getOut 29 = .ok (.getfield 26, 3) := by decide +kernel
theorem dX7_getOut_32 : decode cX7_getOut 32 = .ok (.iload 5, 2) := by decide +kernel
theorem dX7_getOut_34 : decode cX7_getOut 34 = .ok (.iconst (-1), 1) := by decide +kernel
theorem dX7_getOut_35 : decode cX7_getOut 35 = .ok (.invokevirtual 40, 3) := by decide +kernel
theorem dX7_getOut_38 : decode cX7_getOut 38 = .ok (.aload_n 0, 1) := by decide +kernel
theorem dX7_getOut_39 : decode cX7_getOut 39 = .ok (.getfield 23, 3) := by decide +kernel
theorem dX7_getOut_42 : decode cX7_getOut 42 = .ok (.iload 5, 2) := by decide +kernel
theorem dX7_getOut_44 : decode cX7_getOut 44 = .ok (.iload_n 2, 1) := by decide +kernel
theorem dX7_getOut_45 : decode cX7_getOut 45 = .ok (.invokevirtual 40, 3) := by decide +kernel
theorem dX7_getOut_48 : decode cX7_getOut 48 = .ok (.aload_n 0, 1) := by decide +kernel
theorem dX7_getOut_49 : decode cX7_getOut 49 = .ok (.getfield 14, 3) := by decide +kernel
theorem dX7_getOut_52 : decode cX7_getOut 52 = .ok (.iload 5, 2) := by decide +kernel
theorem dX7_getOut_54 : decode cX7_getOut 54 = .ok (.invokevirtual 44, 3) := by decide +kernel
theorem dX7_getOut_57 : decode cX7_getOut 57 = .ok (.iload_n 2, 1) := by decide +kernel
theorem dX7_getOut_58 : decode cX7_getOut 58 = .ok (.if_icmp .ne 16, 3) := by decide +kernel
theorem dX7_getOut_61 : decode cX7_getOut 61 = .ok (.aload_n 0, 1) := by decide +kernel
theorem dX7_getOut_62 : decode cX7_getOut 62 = .ok (.getfield 29, 3) := by decide +kernel
theorem dX7_getOut_65 : decode cX7_getOut 65 = .ok (.iload 5, 2) := by decide +kernel
theorem dX7_getOut_67 : decode cX7_getOut 67 = .ok (.iload_n 3, 1) := by decide +kernel
theorem dX7_getOut_68 : decode cX7_getOut 68 = .ok (.invokevirtual 40, 3) := by decide +kernel
theorem dX7_getOut_71 : decode cX7_getOut 71 = .ok (.iinc 4 1, 3) := by decide +kernel
theorem dX7_getOut_74 : decode cX7_getOut 74 = .ok (.iinc 5 1, 3) := by decide +kernel
theorem dX7_getOut_77 : decode cX7_getOut 77 = .ok (.goto (-71), 3) := by decide +kernel
theorem dX7_getOut_80 : decode cX7_getOut 80 = .ok (.iload 4, 2) := by decide +kernel
theorem dX7_getOut_82 : decode cX7_getOut 82 = .ok (.ireturn, 1) := by decide +kernel
theorem dX7_waitingAt_0 : decode cX7_waitingAt 0 = .ok (.iconst 0, 1) := by decide +kernel
theorem dX7_waitingAt_1 : decode cX7_waitingAt 1 = .ok (.istore_n 2, 1) := by decide +kernel
theorem dX7_waitingAt_2 : decode cX7_waitingAt 2 = .ok (.iconst 0, 1) := by decide +kernel
theorem dX7_waitingAt_3 : decode cX7_waitingAt 3 = .ok (.istore_n 3, 1) := by decide +kernel
theorem dX7_waitingAt_4 : decode cX7_waitingAt 4 = .ok (.iload_n 3, 1) := by decide +kernel
theorem dX7_waitingAt_5 : decode cX7_waitingAt 5 = .ok (.aload_n 0, 1) := by decide +kernel
theorem dX7_waitingAt_6 : decode cX7_waitingAt 6 = .ok (.getfield 32, 3) := by decide +kernel
theorem dX7_waitingAt_9 : decode cX7_waitingAt 9 = .ok (.if_icmp .ge 21, 3) := by decide +kernel
theorem dX7_waitingAt_12 : decode cX7_waitingAt 12 = .ok (.aload_n 0, 1) := by decide +kernel
theorem dX7_waitingAt_13 : decode cX7_waitingAt 13 = .ok (.iload_n 3, 1) := by decide +kernel
theorem dX7_waitingAt_14 : decode cX7_waitingAt 14 = .ok (.iload_n 1, 1) := by decide +kernel
theorem dX7_waitingAt_15 : decode cX7_waitingAt 15 = .ok (.invokevirtual 51, 3) := by decide +kernel
theorem dX7_waitingAt_18 : decode cX7_waitingAt 18 = .ok (.ifCond .eq 6, 3) := by decide +kernel
theorem dX7_waitingAt_21 : decode cX7_waitingAt 21 = .ok (.iinc 2 1, 3) := by decide +kernel
theorem dX7_waitingAt_24 : decode cX7_waitingAt 24 = .ok (.iinc 3 1, 3) := by decide +kernel
theorem dX7_waitingAt_27 : decode cX7_waitingAt 27 = .ok (.goto (-23), 3) := by decide +kernel
theorem dX7_waitingAt_30 : decode cX7_waitingAt 30 = .ok (.iload_n 2, 1) := by decide +kernel
theorem dX7_waitingAt_31 : decode cX7_waitingAt 31 = .ok (.ireturn, 1) := by decide +kernel
theorem dX7_comeTo_0 : decode cX7_comeTo 0 = .ok (.aload_n 0, 1) := by decide +kernel
theorem dX7_comeTo_1 : decode cX7_comeTo 1 = .ok (.getfield 23, 3) := by decide +kernel
theorem dX7_comeTo_4 : decode cX7_comeTo 4 = .ok (.iload_n 1, 1) := by decide +kernel
theorem dX7_comeTo_5 : decode cX7_comeTo 5 = .ok (.aload_n 0, 1) := by decide +kernel
theorem dX7_comeTo_6 : decode cX7_comeTo 6 = .ok (.getfield 32, 3) := by decide +kernel
theorem dX7_comeTo_9 : decode cX7_comeTo 9 = .ok (.invokevirtual 55, 3) := by decide +kernel
theorem dX7_comeTo_12 : decode cX7_comeTo 12 = .ok (.aload_n 0, 1) := by decide +kernel
theorem dX7_comeTo_13 : decode cX7_comeTo 13 = .ok (.iload_n 1, 1) := by decide +kernel
theorem dX7_comeTo_14 : decode cX7_comeTo 14 = .ok (.invokevirtual 59, 3) := by decide +kernel
theorem dX7_comeTo_17 : decode cX7_comeTo 17 = .ok (.isub, 1) := by decide +kernel
theorem dX7_comeTo_18 : decode cX7_comeTo 18 = .ok (.ireturn, 1) := by decide +kernel
theorem dX7_riding_0 : decode cX7_riding 0 = .ok (.aload_n 0, 1) := by decide +kernel
theorem dX7_riding_1 : decode cX7_riding 1 = .ok (.getfield 32, 3) := by decide +kernel
theorem dX7_riding_4 : decode cX7_riding 4 = .ok (.aload_n 0, 1) := by decide +kernel
theorem dX7_riding_5 : decode cX7_riding 5 = .ok (.getfield 26, 3) := by decide +kernel
theorem dX7_riding_8 : decode cX7_riding 8 = .ok (.iconst (-1), 1) := by decide +kernel
theorem dX7_riding_9 : decode cX7_riding 9 = .ok (.aload_n 0, 1) := by decide +kernel
theorem dX7_riding_10 : decode cX7_riding 10 = .ok (.getfield 32, 3) := by decide +kernel
theorem dX7_riding_13 : decode cX7_riding 13 = .ok (.invokevirtual 55, 3) := by decide +kernel
theorem dX7_riding_16 : decode cX7_riding 16 = .ok (.isub, 1) := by decide +kernel
theorem dX7_riding_17 : decode cX7_riding 17 = .ok (.ireturn, 1) := by decide +kernel
theorem dX7_come_0 : decode cX7_come 0 = .ok (.aload_n 0, 1) := by decide +kernel
theorem dX7_come_1 : decode cX7_come 1 = .ok (.getfield 32, 3) := by decide +kernel
theorem dX7_come_4 : decode cX7_come 4 = .ok (.aload_n 0, 1) := by decide +kernel
theorem dX7_come_5 : decode cX7_come 5 = .ok (.getfield 29, 3) := by decide +kernel
theorem dX7_come_8 : decode cX7_come 8 = .ok (.iconst (-1), 1) := by decide +kernel
theorem dX7_come_9 : decode cX7_come 9 = .ok (.aload_n 0, 1) := by decide +kernel
theorem dX7_come_10 : decode cX7_come 10 = .ok (.getfield 32, 3) := by decide +kernel
theorem dX7_come_13 : decode cX7_come 13 = .ok (.invokevirtual 55, 3) := by decide +kernel
theorem dX7_come_16 : decode cX7_come 16 = .ok (.isub, 1) := by decide +kernel
theorem dX7_come_17 : decode cX7_come 17 = .ok (.ireturn, 1) := by decide +kernel
theorem dX7_waiting_0 : decode cX7_waiting 0 = .ok (.aload_n 0, 1) := by decide +kernel
theorem dX7_waiting_1 : decode cX7_waiting 1 = .ok (.getfield 32, 3) := by decide +kernel
theorem dX7_waiting_4 : decode cX7_waiting 4 = .ok (.aload_n 0, 1) := by decide +kernel
theorem dX7_waiting_5 : decode cX7_waiting 5 = .ok (.invokevirtual 62, 3) := by decide +kernel
theorem dX7_waiting_8 : decode cX7_waiting 8 = .ok (.isub, 1) := by decide +kernel
theorem dX7_waiting_9 : decode cX7_waiting 9 = .ok (.aload_n 0, 1) := by decide +kernel
theorem dX7_waiting_10 : decode cX7_waiting 10 = .ok (.invokevirtual 66, 3) := by decide +kernel
theorem dX7_waiting_13 : decode cX7_waiting 13 = .ok (.isub, 1) := by decide +kernel
theorem dX7_waiting_14 : decode cX7_waiting 14 = .ok (.ireturn, 1) := by decide +kernel
theorem dX8_init_0 : decode cX8_init 0 = .ok (.aload_n 0, 1) := by decide +kernel
theorem dX8_init_1 : decode cX8_init 1 = .ok (.invokespecial 3, 3) := by decide +kernel
theorem dX8_init_4 : decode cX8_init 4 = .ok (.aload_n 0, 1) := by decide +kernel
theorem dX8_init_5 : decode cX8_init 5 = .ok (.new 9, 3) := by decide +kernel
theorem dX8_init_8 : decode cX8_init 8 = .ok (.dup, 1) := by decide +kernel
theorem dX8_init_9 : decode cX8_init 9 = .ok (.invokespecial 11, 3) := by decide +kernel
theorem dX8_init_12 : decode cX8_init 12 = .ok (.putfield 12, 3) := by decide +kernel
theorem dX8_init_15 : decode cX8_init 15 = .ok (.aload_n 0, 1) := by decide +kernel
theorem dX8_init_16 : decode cX8_init 16 = .ok (.new 16, 3) := by decide +kernel
theorem dX8_init_19 : decode cX8_init 19 = .ok (.dup, 1) := by decide +kernel
theorem dX8_init_20 : decode cX8_init 20 = .ok (.invokespecial 18, 3) := by decide +kernel
theorem dX8_init_23 : decode cX8_init 23 = .ok (.putfield 19, 3) := by decide +kernel
theorem dX8_init_26 : decode cX8_init 26 = .ok (.aload_n 0, 1) := by decide +kernel
theorem dX8_init_27 : decode cX8_init 27 = .ok (.new 23, 3) := by decide +kernel
theorem dX8_init_30 : decode cX8_init 30 = .ok (.dup, 1) := by decide +kernel
theorem dX8_init_31 : decode cX8_init 31 = .ok (.invokespecial 25, 3) := by decide +kernel
theorem dX8_init_34 : decode cX8_init 34 = .ok (.putfield 26, 3) := by decide +kernel
theorem dX8_init_37 : decode cX8_init 37 = .ok (.aload_n 0, 1) := by decide +kernel
theorem dX8_init_38 : decode cX8_init 38 = .ok (.new 30, 3) := by decide +kernel
theorem dX8_init_41 : decode cX8_init 41 = .ok (.dup, 1) := by decide +kernel
theorem dX8_init_42 : decode cX8_init 42 = .ok (.aload_n 0, 1) := by decide +kernel
theorem dX8_init_43 : decode cX8_init 43 = .ok (.getfield 26, 3) := by decide +kernel
theorem dX8_init_46 : decode cX8_init 46 = .ok (.invokespecial 32, 3) := by decide +kernel
theorem dX8_init_49 : decode cX8_init 49 = .ok (.putfield 35, 3) := by decide +kernel
theorem dX8_init_52 : decode cX8_init 52 = .ok (.aload_n 0, 1) := by decide +kernel
theorem dX8_init_53 : decode cX8_init 53 = .ok (.new 39, 3) := by decide +kernel
theorem dX8_init_56 : decode cX8_init 56 = .ok (.dup, 1) := by decide +kernel
theorem dX8_init_57 : decode cX8_init 57 = .ok (.aload_n 0, 1) := by decide +kernel
theorem dX8_init_58 : decode cX8_init 58 = .ok (.getfield 12, 3) := by decide +kernel
