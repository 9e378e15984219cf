theorem dX4_init_0 : decode cX4_init 0 = .ok (.aload_n 0, 1) := by decide +kernel
theorem dX4_init_1 : decode cX4_init 1 = .ok (.invokespecial 1, 3) := by decide +kernel
theorem dX4_init_4 : decode cX4_init 4 = .ok (.aload_n 0, 1) := by decide +kernel
theorem dX4_init_5 : decode cX4_init 5 = .ok (.bipush 12, 2) := by decide +kernel
theorem dX4_init_7 : decode cX4_init 7 = .ok (.newarray .int, 2) := by decide +kernel
theorem dX4_init_9 : decode cX4_init 9 = .ok (.putfield 7, 3) := by decide +kernel
theorem dX4_init_12 : decode cX4_init 12 = .ok (.aload_n 0, 1) := by decide +kernel
theorem dX4_init_13 : decode cX4_init 13 = .ok (.bipush 12, 2) := by decide +kernel
theorem dX4_init_15 : decode cX4_init 15 = .ok (.newarray .int, 2) := by decide +kernel
theorem dX4_init_17 : decode cX4_init 17 = .ok (.putfield 13, 3) := by decide +kernel
theorem dX4_init_20 : decode cX4_init 20 = .ok (.aload_n 0, 1) := by decide +kernel
theorem dX4_init_21 : decode cX4_init 21 = .ok (.bipush 12, 2) := by decide +kernel
theorem dX4_init_23 : decode cX4_init 23 = .ok (.newarray .int, 2) := by decide +kernel
theorem dX4_init_25 : decode cX4_init 25 = .ok (.putfield 16, 3) := by decide +kernel
theorem dX4_init_28 : decode cX4_init 28 = .ok (.aload_n 0, 1) := by decide +kernel
theorem dX4_init_29 : decode cX4_init 29 = .ok (.bipush 12, 2) := by decide +kernel
theorem dX4_init_31 : decode cX4_init 31 = .ok (.newarray .int, 2) := by decide +kernel
theorem dX4_init_33 : decode cX4_init 33 = .ok (.putfield 19, 3) := by decide +kernel
theorem dX4_init_36 : decode cX4_init 36 = .ok (.aload_n 0, 1) := by decide +kernel
theorem dX4_init_37 : decode cX4_init 37 = .ok (.bipush 12, 2) := by decide +kernel
theorem dX4_init_39 : decode cX4_init 39 = .ok (.newarray .int, 2) := by decide +kernel
theorem dX4_init_41 : decode cX4_init 41 = .ok (.putfield 22, 3) := by decide +kernel
theorem dX4_init_44 : decode cX4_init 44 = .ok (.aload_n 0, 1) := by decide +kernel
theorem dX4_init_45 : decode cX4_init 45 = .ok (.bipush 12, 2) := by decide +kernel
theorem dX4_init_47 : decode cX4_init 47 = .ok (.newarray .int, 2) := by decide +kernel
theorem dX4_init_49 : decode cX4_init 49 = .ok (.putfield 25, 3) := by decide +kernel
theorem dX4_init_52 : decode cX4_init 52 = .ok (.aload_n 0, 1) := by decide +kernel
theorem dX4_init_53 : decode cX4_init 53 = .ok (.bipush 12, 2) := by decide +kernel
theorem dX4_init_55 : decode cX4_init 55 = .ok (.newarray .int, 2) := by decide +kernel
theorem dX4_init_57 : decode cX4_init 57 = .ok (.putfield 28, 3) := by decide +kernel
theorem dX4_init_60 : decode cX4_init 60 = .ok (.aload_n 0, 1) := by decide +kernel
theorem dX4_init_61 : decode cX4_init 61 = .ok (.sipush 240, 3) := by decide +kernel
theorem dX4_init_64 : decode cX4_init 64 = .ok (.newarray .int, 2) := by decide +kernel
theorem dX4_init_66 : decode cX4_init 66 = .ok (.putfield 31, 3) := by decide +kernel
theorem dX4_init_69 : decode cX4_init 69 = .ok (.aload_n 0, 1) := by decide +kernel
theorem dX4_init_70 : decode cX4_init 70 = .ok (.bipush 12, 2) := by decide +kernel
theorem dX4_init_72 : decode cX4_init 72 = .ok (.newarray .int, 2) := by decide +kernel
theorem dX4_init_74 : decode cX4_init 74 = .ok (.putfield 34, 3) := by decide +kernel
theorem dX4_init_77 : decode cX4_init 77 = .ok (.aload_n 0, 1) := by decide +kernel
theorem dX4_init_78 : decode cX4_init 78 = .ok (.bipush 40, 2) := by decide +kernel
theorem dX4_init_80 : decode cX4_init 80 = .ok (.newarray .int, 2) := by decide +kernel
theorem dX4_init_82 : decode cX4_init 82 = .ok (.putfield 37, 3) := by decide +kernel
theorem dX4_init_85 : decode cX4_init 85 = .ok (.aload_n 0, 1) := by decide +kernel
theorem dX4_init_86 : decode cX4_init 86 = .ok (.bipush 12, 2) := by decide +kernel
theorem dX4_init_88 : decode cX4_init 88 = .ok (.newarray .int, 2) := by decide +kernel
theorem dX4_init_90 : decode cX4_init 90 = .ok (.putfield 40, 3) := by decide +kernel
theorem dX4_init_93 : decode cX4_init 93 = .ok (.aload_n 0, 1) := by decide +kernel
theorem dX4_init_94 : decode cX4_init 94 = .ok (.bipush 12, 2) := by decide +kernel
theorem dX4_init_96 : decode cX4_init 96 = .ok (.newarray .int, 2) := by decide +kernel
theorem dX4_init_98 : decode cX4_init 98 = .ok (.putfield 43, 3) := by decide +kernel
theorem dX4_init_101 : decode cX4_init 101 = .ok (.aload_n 0, 1) := by decide +kernel
theorem dX4_init_102 : decode cX4_init 102 = .ok (.bipush 12, 2) := by decide +kernel
theorem dX4_init_104 : decode cX4_init 104 = .ok (.newarray .int, 2) := by decide +kernel
theorem dX4_init_106 : decode cX4_init 106 = .ok (.putfield 46, 3) := by decide +kernel
theorem dX4_init_109 : decode cX4_init 109 = .ok (.aload_n 0, 1) := by decide +kernel
theorem dX4_init_110 : decode cX4_init 110 = .ok (.iconst 1, 1) := by decide +kernel
theorem dX4_init_111 : decode cX4_init 111 = .ok (.putfield 49, 3) := by decide +kernel
theorem dX4_init_114 : decode cX4_init 114 = .ok (.return_, 1) := by decide +kernel
theorem dX4_in_0 : decode cX4_in 0 = .ok (.lload_n 0, 1) := by decide +kernel
theorem dX4_in_1 : decode cX4_in 1 = .ok (.lload_n 2, 1) := by decide +kernel
theorem dX4_in_2 : decode cX4_in 2 = .ok (.lcmp, 1) := by decide +kernel
theorem dX4_in_3 : decode cX4_in 3 = .ok (.ifCond .lt 14, 3) := by decide +kernel
theorem dX4_in_6 : decode cX4_in 6 = .ok (.lload_n 0, 1) := by decide +kernel
theorem dX4_in_7 : decode cX4_in 7 = .ok (.lload 4, 2) := by decide +kernel
theorem dX4_in_9 : decode cX4_in 9 = .ok (.lcmp, 1) := by decide +kernel
theorem dX4_in_10 : decode cX4_in 10 = .ok (.ifCond .gt 7, 3) := by decide +kernel
theorem dX4_in_13 : decode cX4_in 13 = .ok (.iconst 1, 1) := by decide +kernel
theorem dX4_in_14 : decode cX4_in 14 = .ok (.goto 4, 3) := by decide +kernel
theorem dX4_in_17 : decode cX4_in 17 = .ok (.iconst 0, 1) := by decide +kernel
theorem dX4_in_18 : decode cX4_in 18 = .ok (.ireturn, 1) := by decide +kernel
theorem dX4_ones_0 : decode cX4_ones 0 = .ok (.iconst 0, 1) := by decide +kernel
theorem dX4_ones_1 : decode cX4_ones 1 = .ok (.istore_n 1, 1) := by decide +kernel
theorem dX4_ones_2 : decode cX4_ones 2 = .ok (.iconst 0, 1) := by decide +kernel
theorem dX4_ones_3 : decode cX4_ones 3 = .ok (.istore_n 2, 1) := by decide +kernel
theorem dX4_ones_4 : decode cX4_ones 4 = .ok (.iload_n 2, 1) := by decide +kernel
theorem dX4_ones_5 : decode cX4_ones 5 = .ok (.bipush 12, 2) := by decide +kernel
theorem dX4_ones_7 : decode cX4_ones 7 = .ok (.if_icmp .ge 17, 3) := by decide +kernel
theorem dX4_ones_10 : decode cX4_ones 10 = .ok (.iload_n 1, 1) := by decide +kernel
theorem dX4_ones_11 : decode cX4_ones 11 = .ok (.iload_n 0, 1) := by decide +kernel
theorem dX4_ones_12 : decode cX4_ones 12 = .ok (.iload_n 2, 1) := by decide +kernel
theorem dX4_ones_13 : decode cX4_ones 13 = .ok (.ishr, 1) := by decide +kernel
theorem dX4_ones_14 : decode cX4_ones 14 = .ok (.iconst 1, 1) := by decide +kernel
theorem dX4_ones_15 : decode cX4_ones 15 = .ok (.iand, 1) := by decide +kernel
theorem dX4_ones_16 : decode cX4_ones 16 = .ok (.iadd, 1) := by decide +kernel
theorem dX4_ones_17 : decode cX4_ones 17 = .ok (.istore_n 1, 1) := by decide +kernel
theorem dX4_ones_18 : decode cX4_ones 18 = .ok (.iinc 2 1, 3) := by decide +kernel
theorem dX4_ones_21 : decode cX4_ones 21 = .ok (.goto (-17), 3) := by decide +kernel
theorem dX4_ones_24 : decode cX4_ones 24 = .ok (.iload_n 1, 1) := by decide +kernel
theorem dX4_ones_25 : decode cX4_ones 25 = .ok (.ireturn, 1) := by decide +kernel
theorem dX4_isDay_0 : decode cX4_isDay 0 = .ok (.iload_n 0, 1) := by decide +kernel
theorem dX4_isDay_1 : decode cX4_isDay 1 = .ok (.i2l, 1) := by decide +kernel
theorem dX4_isDay_2 : decode cX4_isDay 2 = .ok (.lconst 0, 1) := by decide +kernel
theorem dX4_isDay_3 : decode cX4_isDay 3 = .ok (.ldc2_w 53, 3) := by decide +kernel
theorem dX4_isDay_6 : decode cX4_isDay 6 = .ok (.invokestatic 55, 3) := by decide +kernel
theorem dX4_isDay_9 : decode cX4_isDay 9 = .ok (.ireturn, 1) := by decide +kernel
theorem dX4_isWho_0 : decode cX4_isWho 0 = .ok (.iload_n 0, 1) := by decide +kernel
theorem dX4_isWho_1 : decode cX4_isWho 1 = .ok (.i2l, 1) := by decide +kernel
theorem dX4_isWho_2 : decode cX4_isWho 2 = .ok (.lconst 0, 1) := by decide +kernel
theorem dX4_isWho_3 : decode cX4_isWho 3 = .ok (.ldc2_w 59, 3) := by decide +kernel
theorem dX4_isWho_6 : decode cX4_isWho 6 = .ok (.invokestatic 55, 3) := by decide +kernel
theorem dX4_isWho_9 : decode cX4_isWho 9 = .ok (.ireturn, 1) := by decide +kernel
theorem dX4_isAct_0 : decode cX4_isAct 0 = .ok (.iload_n 1, 1) := by decide +kernel
theorem dX4_isAct_1 : decode cX4_isAct 1 = .ok (.i2l, 1) := by decide +kernel
theorem dX4_isAct_2 : decode cX4_isAct 2 = .ok (.lconst 0, 1) := by decide +kernel
theorem dX4_isAct_3 : decode cX4_isAct 3 = .ok (.aload_n 0, 1) := by decide +kernel
theorem dX4_isAct_4 : decode cX4_isAct 4 = .ok (.getfield 61, 3) := by decide +kernel
theorem dX4_isAct_7 : decode cX4_isAct 7 = .ok (.iconst 1, 1) := by decide +kernel
theorem dX4_isAct_8 : decode cX4_isAct 8 = .ok (.isub, 1) := by decide +kernel
theorem dX4_isAct_9 : decode cX4_isAct 9 = .ok (.i2l, 1) := by decide +kernel
theorem dX4_isAct_10 : decode cX4_isAct 10 = .ok (.invokestatic 55, 3) := by decide +kernel
theorem dX4_isAct_13 : decode cX4_isAct 13 = .ok (.ireturn, 1) := by decide +kernel
theorem dX4_act_0 : decode cX4_act 0 = .ok (.iload_n 2, 1) := by decide +kernel
theorem dX4_act_1 : decode cX4_act 1 = .ok (.invokestatic 64, 3) := by decide +kernel
theorem dX4_act_4 : decode cX4_act 4 = .ok (.ifCond .eq 15, 3) := by decide +kernel
theorem dX4_act_7 : decode cX4_act 7 = .ok (.iload_n 3, 1) := by decide +kernel
theorem dX4_act_8 : decode cX4_act 8 = .ok (.invokestatic 64, 3) := by decide +kernel
theorem dX4_act_11 : decode cX4_act 11 = .ok (.ifCond .eq 8, 3) := by decide +kernel
theorem dX4_act_14 : decode cX4_act 14 = .ok (.iload_n 2, 1) := by decide +kernel
theorem dX4_act_15 : decode cX4_act 15 = .ok (.iload_n 3, 1) := by decide +kernel
theorem dX4_act_16 : decode cX4_act 16 = .ok (.if_icmp .ne 5, 3) := by decide +kernel
theorem dX4_act_19 : decode cX4_act 19 = .ok (.iconst (-1), 1) := by decide +kernel
theorem dX4_act_20 : decode cX4_act 20 = .ok (.ireturn, 1) := by decide +kernel
theorem dX4_act_21 : decode cX4_act 21 = .ok (.iload_n 1, 1) := by decide +kernel
theorem dX4_act_22 : decode cX4_act 22 = .ok (.invokestatic 68, 3) := by decide +kernel
theorem dX4_act_25 : decode cX4_act 25 = .ok (.ifCond .eq 16, 3) := by decide +kernel
theorem dX4_act_28 : decode cX4_act 28 = .ok (.iload 4, 2) := by decide +kernel
theorem dX4_act_30 : decode cX4_act 30 = .ok (.i2l, 1) := by decide +kernel
theorem dX4_act_31 : decode cX4_act 31 = .ok (.lconst 0, 1) := by decide +kernel
theorem dX4_act_32 : decode cX4_act 32 = .ok (.ldc2_w 53, 3) := by decide +kernel
theorem dX4_act_35 : decode cX4_act 35 = .ok (.invokestatic 55, 3) := by decide +kernel
theorem dX4_act_38 : decode cX4_act 38 = .ok (.ifCond .ne 6, 3) := by decide +kernel
theorem dX4_act_41 : decode cX4_act 41 = .ok (.bipush (-2), 2) := by decide +kernel
theorem dX4_act_43 : decode cX4_act 43 = .ok (.ireturn, 1) := by decide +kernel
theorem dX4_act_44 : decode cX4_act 44 = .ok (.aload_n 0, 1) := by decide +kernel
theorem dX4_act_45 : decode cX4_act 45 = .ok (.getfield 61, 3) := by decide +kernel
theorem dX4_act_48 : decode cX4_act 48 = .ok (.bipush 12, 2) := by decide +kernel
theorem dX4_act_50 : decode cX4_act 50 = .ok (.if_icmp .ne 6, 3) := by decide +kernel
theorem dX4_act_53 : decode cX4_act 53 = .ok (.bipush (-4), 2) := by decide +kernel
theorem dX4_act_55 : decode cX4_act 55 = .ok (.ireturn, 1) := by decide +kernel
theorem dX4_act_56 : decode cX4_act 56 = .ok (.aload_n 0, 1) := by decide +kernel
theorem dX4_act_57 : decode cX4_act 57 = .ok (.getfield 7, 3) := by decide +kernel
theorem dX4_act_60 : decode cX4_act 60 = .ok (.aload_n 0, 1) := by decide +kernel
theorem dX4_act_61 : decode cX4_act 61 = .ok (.getfield 61, 3) := by decide +kernel
theorem dX4_act_64 : decode cX4_act 64 = .ok (.iload_n 1, 1) := by decide +kernel
theorem dX4_act_65 : decode cX4_act 65 = .ok (.iastore, 1) := by decide +kernel
theorem dX4_act_66 : decode cX4_act 66 = .ok (.aload_n 0, 1) := by decide +kernel
theorem dX4_act_67 : decode cX4_act 67 = .ok (.getfield 13, 3) := by decide +kernel
theorem dX4_act_70 : decode cX4_act 70 = .ok (.aload_n 0, 1) := by decide +kernel
theorem dX4_act_71 : decode cX4_act 71 = .ok (.getfield 61, 3) := by decide +kernel
theorem dX4_act_74 : decode cX4_act 74 = .ok (.iload_n 2, 1) := by decide +kernel
theorem dX4_act_75 : decode cX4_act 75 = .ok (.iastore, 1) := by decide +kernel
theorem dX4_act_76 : decode cX4_act 76 = .ok (.aload_n 0, 1) := by decide +kernel
theorem dX4_act_77 : decode cX4_act 77 = .ok (.getfield 16, 3) := by decide +kernel
theorem dX4_act_80 : decode cX4_act 80 = .ok (.aload_n 0, 1) := by decide +kernel
theorem dX4_act_81 : decode cX4_act 81 = .ok (.getfield 61, 3) := by decide +kernel
theorem dX4_act_84 : decode cX4_act 84 = .ok (.iload_n 3, 1) := by decide +kernel
theorem dX4_act_85 : decode cX4_act 85 = .ok (.iastore, 1) := by decide +kernel
theorem dX4_act_86 : decode cX4_act 86 = .ok (.aload_n 0, 1) := by decide +kernel
theorem dX4_act_87 : decode cX4_act 87 = .ok (.getfield 19, 3) := by decide +kernel
theorem dX4_act_90 : decode cX4_act 90 = .ok (.aload_n 0, 1) := by decide +kernel
theorem dX4_act_91 : decode cX4_act 91 = .ok (.getfield 61, 3) := by decide +kernel
theorem dX4_act_94 : decode cX4_act 94 = .ok (.iload 4, 2) := by decide +kernel
theorem dX4_act_96 : decode cX4_act 96 = .ok (.iastore, 1) := by decide +kernel
theorem dX4_act_97 : decode cX4_act 97 = .ok (.aload_n 0, 1) := by decide +kernel
theorem dX4_act_98 : decode cX4_act 98 = .ok (.getfield 25, 3) := by decide +kernel
theorem dX4_act_101 : decode cX4_act 101 = .ok (.aload_n 0, 1) := by decide +kernel
theorem dX4_act_102 : decode cX4_act 102 = .ok (.getfield 61, 3) := by decide +kernel
theorem dX4_act_105 : decode cX4_act 105 = .ok (.bipush 99, 2) := by decide +kernel
theorem dX4_act_107 : decode cX4_act 107 = .ok (.iastore, 1) := by decide +kernel
theorem dX4_act_108 : decode cX4_act 108 = .ok (.aload_n 0, 1) := by decide +kernel
theorem dX4_act_109 : decode cX4_act 109 = .ok (.getfield 28, 3) := by decide +kernel
theorem dX4_act_112 : decode cX4_act 112 = .ok (.aload_n 0, 1) := by decide +kernel
theorem dX4_act_113 : decode cX4_act 113 = .ok (.getfield 61, 3) := by decide +kernel
theorem dX4_act_116 : decode cX4_act 116 = .ok (.bipush (-6), 2) := by decide +kernel
theorem dX4_act_118 : decode cX4_act 118 = .ok (.iastore, 1) := by decide +kernel
theorem dX4_act_119 : decode cX4_act 119 = .ok (.aload_n 0, 1) := by decide +kernel
theorem dX4_act_120 : decode cX4_act 120 = .ok (.dup, 1) := by decide +kernel
theorem dX4_act_121 : decode cX4_act 121 = .ok (.getfield 61, 3) := by decide +kernel
theorem dX4_act_124 : decode cX4_act 124 = .ok (.iconst 1, 1) := by decide +kernel
theorem dX4_act_125 : decode cX4_act 125 = .ok (.iadd, 1) := by decide +kernel
theorem dX4_act_126 : decode cX4_act 126 = .ok (.putfield 61, 3) := by decide +kernel
theorem dX4_act_129 : decode cX4_act 129 = .ok (.aload_n 0, 1) := by decide +kernel
theorem dX4_act_130 : decode cX4_act 130 = .ok (.getfield 61, 3) := by decide +kernel
theorem dX4_act_133 : decode cX4_act 133 = .ok (.iconst 1, 1) := by decide +kernel
theorem dX4_act_134 : decode cX4_act 134 = .ok (.isub, 1) := by decide +kernel
theorem dX4_act_135 : decode cX4_act 135 = .ok (.ireturn, 1) := by decide +kernel
theorem dX4_set_0 : decode cX4_set 0 = .ok (.aload_n 0, 1) := by decide +kernel
theorem dX4_set_1 : decode cX4_set 1 = .ok (.iload_n 1, 1) := by decide +kernel
theorem dX4_set_2 : decode cX4_set 2 = .ok (.invokevirtual 71, 3) := by decide +kernel
theorem dX4_set_5 : decode cX4_set 5 = .ok (.ifCond .ne 5, 3) := by decide +kernel
theorem dX4_set_8 : decode cX4_set 8 = .ok (.iconst (-1), 1) := by decide +kernel
theorem dX4_set_9 : decode cX4_set 9 = .ok (.ireturn, 1) := by decide +kernel
theorem dX4_set_10 : decode cX4_set 10 = .ok (.iload_n 2, 1) := by decide +kernel
theorem dX4_set_11 : decode cX4_set 11 = .ok (.i2l, 1) := by decide +kernel
theorem dX4_set_12 : decode cX4_set 12 = .ok (.lconst 0, 1) := by decide +kernel
theorem dX4_set_13 : decode cX4_set 13 = .ok (.ldc2_w 59, 3) := by decide +kernel
theorem dX4_set_16 : decode cX4_set 16 = .ok (.invokestatic 55, 3) := by decide +kernel
theorem dX4_set_19 : decode cX4_set 19 = .ok (.ifCond .eq 45, 3) := by decide +kernel
theorem dX4_set_22 : decode cX4_set 22 = .ok (.iload_n 3, 1) := by decide +kernel
theorem dX4_set_23 : decode cX4_set 23 = .ok (.i2l, 1) := by decide +kernel
theorem dX4_set_24 : decode cX4_set 24 = .ok (.iload_n 2, 1) := by decide +kernel
theorem dX4_set_25 : decode cX4_set 25 = .ok (.iconst 2, 1) := by decide +kernel
theorem dX4_set_26 : decode cX4_set 26 = .ok (.if_icmp .ne 9, 3) := by decide +kernel
theorem dX4_set_29 : decode cX4_set 29 = .ok (.ldc2_w 74, 3) := by decide +kernel
theorem dX4_set_32 : decode cX4_set 32 = .ok (.goto 4, 3) := by decide +kernel
theorem dX4_set_35 : decode cX4_set 35 = .ok (.lconst 0, 1) := by decide +kernel
theorem dX4_set_36 : decode cX4_set 36 = .ok (.iload_n 2, 1) := by decide +kernel
theorem dX4_set_37 : decode cX4_set 37 = .ok (.ifCond .ne 9, 3) := by decide +kernel
theorem dX4_set_40 : decode cX4_set 40 = .ok (.ldc2_w 76, 3) := by decide +kernel
theorem dX4_set_43 : decode cX4_set 43 = .ok (.goto 15, 3) := by decide +kernel
theorem dX4_set_46 : decode cX4_set 46 = .ok (.iload_n 2, 1) := by decide +kernel
theorem dX4_set_47 : decode cX4_set 47 = .ok (.iconst 3, 1) := by decide +kernel
theorem dX4_set_48 : decode cX4_set 48 = .ok (.if_icmp .ne 7, 3) := by decide +kernel
theorem dX4_set_51 : decode cX4_set 51 = .ok (.lconst 1, 1) := by decide +kernel
theorem dX4_set_52 : decode cX4_set 52 = .ok (.goto 6, 3) := by decide +kernel
theorem dX4_set_55 : decode cX4_set 55 = .ok (.ldc2_w 53, 3) := by decide +kernel
theorem dX4_set_58 : decode cX4_set 58 = .ok (.invokestatic 55, 3) := by decide +kernel
theorem dX4_set_61 : decode cX4_set 61 = .ok (.ifCond .ne 6, 3) := by decide +kernel
theorem dX4_set_64 : decode cX4_set 64 = .ok (.bipush (-2), 2) := by decide +kernel
theorem dX4_set_66 : decode cX4_set 66 = .ok (.ireturn, 1) := by decide +kernel
theorem dX4_set_67 : decode cX4_set 67 = .ok (.iload_n 2, 1) := by decide +kernel
theorem dX4_set_68 : decode cX4_set 68 = .ok (.ifCond .ne 12, 3) := by decide +kernel
theorem dX4_set_71 : decode cX4_set 71 = .ok (.aload_n 0, 1) := by decide +kernel
theorem dX4_set_72 : decode cX4_set 72 = .ok (.getfield 22, 3) := by decide +kernel
theorem dX4_set_75 : decode cX4_set 75 = .ok (.iload_n 1, 1) := by decide +kernel
theorem dX4_set_76 : decode cX4_set 76 = .ok (.iaload, 1) := by decide +kernel
theorem dX4_set_77 : decode cX4_set 77 = .ok (.goto 39, 3) := by decide +kernel
theorem dX4_set_80 : decode cX4_set 80 = .ok (.iload_n 2, 1) := by decide +kernel
theorem dX4_set_81 : decode cX4_set 81 = .ok (.iconst 1, 1) := by decide +kernel
theorem dX4_set_82 : decode cX4_set 82 = .ok (.if_icmp .ne 12, 3) := by decide +kernel
theorem dX4_set_85 : decode cX4_set 85 = .ok (.aload_n 0, 1) := by decide +kernel
theorem dX4_set_86 : decode cX4_set 86 = .ok (.getfield 25, 3) := by decide +kernel
theorem dX4_set_89 : decode cX4_set 89 = .ok (.iload_n 1, 1) := by decide +kernel
theorem dX4_set_90 : decode cX4_set 90 = .ok (.iaload, 1) := by decide +kernel
theorem dX4_set_91 : decode cX4_set 91 = .ok (.goto 25, 3) := by decide +kernel
theorem dX4_set_94 : decode cX4_set 94 = .ok (.iload_n 2, 1) := by decide +kernel
theorem dX4_set_95 : decode cX4_set 95 = .ok (.iconst 2, 1) := by decide +kernel
theorem dX4_set_96 : decode cX4_set 96 = .ok (.if_icmp .ne 12, 3) := by decide +kernel
theorem dX4_set_99 : decode cX4_set 99 = .ok (.aload_n 0, 1) := by decide +kernel
theorem dX4_set_100 : decode cX4_set 100 = .ok (.getfield 28, 3) := by decide +kernel
theorem dX4_set_103 : decode cX4_set 103 = .ok (.iload_n 1, 1) := by decide +kernel
theorem dX4_set_104 : decode cX4_set 104 = .ok (.iaload, 1) := by decide +kernel
theorem dX4_set_105 : decode cX4_set 105 = .ok (.goto 11, 3) := by decide +kernel
theorem dX4_set_108 : decode cX4_set 108 = .ok (.aload_n 0, 1) := by decide +kernel
theorem dX4_set_109 : decode cX4_set 109 = .ok (.getfield 78, 3) := by decide +kernel
theorem dX4_set_112 : decode cX4_set 112 = .ok (.iload_n 1, 1) := by decide +kernel
theorem dX4_set_113 : decode cX4_set 113 = .ok (.ishr, 1) := by decide +kernel
theorem dX4_set_114 : decode cX4_set 114 = .ok (.iconst 1, 1) := by decide +kernel
theorem dX4_set_115 : decode cX4_set 115 = .ok (.iand, 1) := by decide +kernel
theorem dX4_set_116 : decode cX4_set 116 = .ok (.istore 4, 2) := by decide +kernel
theorem dX4_set_118 : decode cX4_set 118 = .ok (.iload_n 2, 1) := by decide +kernel
theorem dX4_set_119 : decode cX4_set 119 = .ok (.ifCond .ne 13, 3) := by decide +kernel
theorem dX4_set_122 : decode cX4_set 122 = .ok (.aload_n 0, 1) := by decide +kernel
theorem dX4_set_123 : decode cX4_set 123 = .ok (.getfield 22, 3) := by decide +kernel
theorem dX4_set_126 : decode cX4_set 126 = .ok (.iload_n 1, 1) := by decide +kernel
theorem dX4_set_127 : decode cX4_set 127 = .ok (.iload_n 3, 1) := by decide +kernel
theorem dX4_set_128 : decode cX4_set 128 = .ok (.iastore, 1) := by decide +kernel
theorem dX4_set_129 : decode cX4_set 129 = .ok (.goto 72, 3) := by decide +kernel
theorem dX4_set_132 : decode cX4_set 132 = .ok (.iload_n 2, 1) := by decide +kernel
theorem dX4_set_133 : decode cX4_set 133 = .ok (.iconst 1, 1) := by decide +kernel
theorem dX4_set_134 : decode cX4_set 134 = .ok (.if_icmp .ne 13, 3) := by decide +kernel
theorem dX4_set_137 : decode cX4_set 137 = .ok (.aload_n 0, 1) := by decide +kernel
theorem dX4_set_138 : decode cX4_set 138 = .ok (.getfield 25, 3) := by decide +kernel
theorem dX4_set_141 : decode cX4_set 141 = .ok (.iload_n 1, 1) := by decide +kernel
theorem dX4_set_142 : decode cX4_set 142 = .ok (.iload_n 3, 1) := by decide +kernel
theorem dX4_set_143 : decode cX4_set 143 = .ok (.iastore, 1) := by decide +kernel
theorem dX4_set_144 : decode cX4_set 144 = .ok (.goto 57, 3) := by decide +kernel
theorem dX4_set_147 : decode cX4_set 147 = .ok (.iload_n 2, 1) := by decide +kernel
theorem dX4_set_148 : decode cX4_set 148 = .ok (.iconst 2, 1) := by decide +kernel
theorem dX4_set_149 : decode cX4_set 149 = .ok (.if_icmp .ne 22, 3) := by decide +kernel
theorem dX4_set_152 : decode cX4_set 152 = .ok (.aload_n 0, 1) := by decide +kernel
theorem dX4_set_153 : decode cX4_set 153 = .ok (.getfield 28, 3) := by decide +kernel
theorem dX4_set_156 : decode cX4_set 156 = .ok (.iload_n 1, 1) := by decide +kernel
theorem dX4_set_157 : decode cX4_set 157 = .ok (.iload_n 3, 1) := by decide +kernel
theorem dX4_set_158 : decode cX4_set 158 = .ok (.ifCond .ge 8, 3) := by decide +kernel
theorem dX4_set_161 : decode cX4_set 161 = .ok (.bipush (-6), 2) := by decide +kernel
theorem dX4_set_163 : decode cX4_set 163 = .ok (.goto 4, 3) := by decide +kernel
theorem dX4_set_166 : decode cX4_set 166 = .ok (.iload_n 3, 1) := by decide +kernel
theorem dX4_set_167 : decode cX4_set 167 = .ok (.iastore, 1) := by decide +kernel
theorem dX4_set_168 : decode cX4_set 168 = .ok (.goto 33, 3) := by decide +kernel
theorem dX4_set_171 : decode cX4_set 171 = .ok (.aload_n 0, 1) := by decide +kernel
theorem dX4_set_172 : decode cX4_set 172 = .ok (.iload_n 3, 1) := by decide +kernel
theorem dX4_set_173 : decode cX4_set 173 = .ok (.iconst 1, 1) := by decide +kernel
theorem dX4_set_174 : decode cX4_set 174 = .ok (.if_icmp .ne 14, 3) := by decide +kernel
theorem dX4_set_177 : decode cX4_set 177 = .ok (.aload_n 0, 1) := by decide +kernel
theorem dX4_set_178 : decode cX4_set 178 = .ok (.getfield 78, 3) := by decide +kernel
theorem dX4_set_181 : decode cX4_set 181 = .ok (.iconst 1, 1) := by decide +kernel
theorem dX4_set_182 : decode cX4_set 182 = .ok (.iload_n 1, 1) := by decide +kernel
theorem dX4_set_183 : decode cX4_set 183 = .ok (.ishl, 1) := by decide +kernel
theorem dX4_set_184 : decode cX4_set 184 = .ok (.ior, 1) := by decide +kernel
theorem dX4_set_185 : decode cX4_set 185 = .ok (.goto 13, 3) := by decide +kernel
theorem dX4_set_188 : decode cX4_set 188 = .ok (.aload_n 0, 1) := by decide +kernel
theorem dX4_set_189 : decode cX4_set 189 = .ok (.getfield 78, 3) := by decide +kernel
theorem dX4_set_192 : decode cX4_set 192 = .ok (.iconst 1, 1) := by decide +kernel
theorem dX4_set_193 : decode cX4_set 193 = .ok (.iload_n 1, 1) := by decide +kernel
theorem dX4_set_194 : decode cX4_set 194 = .ok (.ishl, 1) := by decide +kernel
theorem dX4_set_195 : decode cX4_set 195 = .ok (.iconst (-1), 1) := by decide +kernel
theorem dX4_set_196 : decode cX4_set 196 = .ok (.ixor, 1) := by decide +kernel
theorem dX4_set_197 : decode cX4_set 197 = .ok (.iand, 1) := by decide +kernel
theorem dX4_set_198 : decode cX4_set 198 = .ok (.putfield 78, 3) := by decide +kernel
theorem dX4_set_201 : decode cX4_set 201 = .ok (.iload 4, 2) := by decide +kernel
theorem dX4_set_203 : decode cX4_set 203 = .ok (.ireturn, 1) := by decide +kernel
theorem dX4_law_0 : decode cX4_law 0 = .ok (.iload_n 1, 1) := by decide +kernel
theorem dX4_law_1 : decode cX4_law 1 = .ok (.i2l, 1) := by decide +kernel
theorem dX4_law_2 : decode cX4_law 2 = .ok (.lconst 0, 1) := by decide +kernel
theorem dX4_law_3 : decode cX4_law 3 = .ok (.lconst 1, 1) := by decide +kernel
theorem dX4_law_4 : decode cX4_law 4 = .ok (.invokestatic 55, 3) := by decide +kernel
theorem dX4_law_7 : decode cX4_law 7 = .ok (.ifCond .eq 23, 3) := by decide +kernel
theorem dX4_law_10 : decode cX4_law 10 = .ok (.iload_n 2, 1) := by decide +kernel
theorem dX4_law_11 : decode cX4_law 11 = .ok (.i2l, 1) := by decide +kernel
theorem dX4_law_12 : decode cX4_law 12 = .ok (.lconst 0, 1) := by decide +kernel
theorem dX4_law_13 : decode cX4_law 13 = .ok (.iload_n 1, 1) := by decide +kernel
theorem dX4_law_14 : decode cX4_law 14 = .ok (.ifCond .ne 7, 3) := by decide +kernel
theorem dX4_law_17 : decode cX4_law 17 = .ok (.lconst 1, 1) := by decide +kernel
theorem dX4_law_18 : decode cX4_law 18 = .ok (.goto 6, 3) := by decide +kernel
theorem dX4_law_21 : decode cX4_law 21 = .ok (.ldc2_w 81, 3) := by decide +kernel
theorem dX4_law_24 : decode cX4_law 24 = .ok (.invokestatic 55, 3) := by decide +kernel
theorem dX4_law_27 : decode cX4_law 27 = .ok (.ifCond .ne 6, 3) := by decide +kernel
theorem dX4_law_30 : decode cX4_law 30 = .ok (.bipush (-2), 2) := by decide +kernel
theorem dX4_law_32 : decode cX4_law 32 = .ok (.ireturn, 1) := by decide +kernel
theorem dX4_law_33 : decode cX4_law 33 = .ok (.iload_n 1, 1) := by decide +kernel
theorem dX4_law_34 : decode cX4_law 34 = .ok (.ifCond .ne 10, 3) := by decide +kernel
theorem dX4_law_37 : decode cX4_law 37 = .ok (.aload_n 0, 1) := by decide +kernel
theorem dX4_law_38 : decode cX4_law 38 = .ok (.getfield 83, 3) := by decide +kernel
theorem dX4_law_41 : decode cX4_law 41 = .ok (.goto 7, 3) := by decide +kernel
theorem dX4_law_44 : decode cX4_law 44 = .ok (.aload_n 0, 1) := by decide +kernel
theorem dX4_law_45 : decode cX4_law 45 = .ok (.getfield 49, 3) := by decide +kernel
theorem dX4_law_48 : decode cX4_law 48 = .ok (.istore_n 3, 1) := by decide +kernel
theorem dX4_law_49 : decode cX4_law 49 = .ok (.iload_n 1, 1) := by decide +kernel
theorem dX4_law_50 : decode cX4_law 50 = .ok (.ifCond .ne 11, 3) := by decide +kernel
theorem dX4_law_53 : decode cX4_law 53 = .ok (.aload_n 0, 1) := by decide +kernel
theorem dX4_law_54 : decode cX4_law 54 = .ok (.iload_n 2, 1) := by decide +kernel
theorem dX4_law_55 : decode cX4_law 55 = .ok (.putfield 83, 3) := by decide +kernel
theorem dX4_law_58 : decode cX4_law 58 = .ok (.goto 8, 3) := by decide +kernel
theorem dX4_law_61 : decode cX4_law 61 = .ok (.aload_n 0, 1) := by decide +kernel
theorem dX4_law_62 : decode cX4_law 62 = .ok (.iload_n 2, 1) := by decide +kernel
theorem dX4_law_63 : decode cX4_law 63 = .ok (.putfield 49, 3) := by decide +kernel
theorem dX4_law_66 : decode cX4_law 66 = .ok (.iload_n 3, 1) := by decide +kernel
theorem dX4_law_67 : decode cX4_law 67 = .ok (.ireturn, 1) := by decide +kernel
theorem dX4_say_0 : decode cX4_say 0 = .ok (.iload_n 1, 1) := by decide +kernel
theorem dX4_say_1 : decode cX4_say 1 = .ok (.i2l, 1) := by decide +kernel
theorem dX4_say_2 : decode cX4_say 2 = .ok (.ldc2_w 86, 3) := by decide +kernel
theorem dX4_say_5 : decode cX4_say 5 = .ok (.ldc2_w 88, 3) := by decide +kernel
theorem dX4_say_8 : decode cX4_say 8 = .ok (.invokestatic 55, 3) := by decide +kernel
theorem dX4_say_11 : decode cX4_say 11 = .ok (.ifCond .ne 6, 3) := by decide +kernel
theorem dX4_say_14 : decode cX4_say 14 = .ok (.bipush (-2), 2) := by decide +kernel
theorem dX4_say_16 : decode cX4_say 16 = .ok (.ireturn, 1) := by decide +kernel
theorem dX4_say_17 : decode cX4_say 17 = .ok (.aload_n 0, 1) := by decide +kernel
theorem dX4_say_18 : decode cX4_say 18 = .ok (.getfield 90, 3) := by decide +kernel
theorem dX4_say_21 : decode cX4_say 21 = .ok (.bipush 40, 2) := by decide +kernel
theorem dX4_say_23 : decode cX4_say 23 = .ok (.if_icmp .ne 6, 3) := by decide +kernel
theorem dX4_say_26 : decode cX4_say 26 = .ok (.bipush (-4), 2) := by decide +kernel
theorem dX4_say_28 : decode cX4_say 28 = .ok (.ireturn, 1) := by decide +kernel
theorem dX4_say_29 : decode cX4_say 29 = .ok (.aload_n 0, 1) := by decide +kernel
theorem dX4_say_30 : decode cX4_say 30 = .ok (.getfield 37, 3) := by decide +kernel
theorem dX4_say_33 : decode cX4_say 33 = .ok (.aload_n 0, 1) := by decide +kernel
theorem dX4_say_34 : decode cX4_say 34 = .ok (.getfield 90, 3) := by decide +kernel
theorem dX4_say_37 : decode cX4_say 37 = .ok (.iload_n 1, 1) := by decide +kernel
theorem dX4_say_38 : decode cX4_say 38 = .ok (.iastore, 1) := by decide +kernel
theorem dX4_say_39 : decode cX4_say 39 = .ok (.aload_n 0, 1) := by decide +kernel
theorem dX4_say_40 : decode cX4_say 40 = .ok (.dup, 1) := by decide +kernel
theorem dX4_say_41 : decode cX4_say 41 = .ok (.getfield 90, 3) := by decide +kernel
theorem dX4_say_44 : decode cX4_say 44 = .ok (.iconst 1, 1) := by decide +kernel
theorem dX4_say_45 : decode cX4_say 45 = .ok (.iadd, 1) := by decide +kernel
theorem dX4_say_46 : decode cX4_say 46 = .ok (.putfield 90, 3) := by decide +kernel
theorem dX4_say_49 : decode cX4_say 49 = .ok (.aload_n 0, 1) := by decide +kernel
theorem dX4_say_50 : decode cX4_say 50 = .ok (.getfield 90, 3) := by decide +kernel
theorem dX4_say_53 : decode cX4_say 53 = .ok (.ireturn, 1) := by decide +kernel
theorem dX4_wipe_0 : decode cX4_wipe 0 = .ok (.aload_n 0, 1) := by decide +kernel
theorem dX4_wipe_1 : decode cX4_wipe 1 = .ok (.getfield 90, 3) := by decide +kernel
theorem dX4_wipe_4 : decode cX4_wipe 4 = .ok (.istore_n 1, 1) := by decide +kernel
theorem dX4_wipe_5 : decode cX4_wipe 5 = .ok (.aload_n 0, 1) := by decide +kernel
theorem dX4_wipe_6 : decode cX4_wipe 6 = .ok (.iconst 0, 1) := by decide +kernel
theorem dX4_wipe_7 : decode cX4_wipe 7 = .ok (.putfield 90, 3) := by decide +kernel
theorem dX4_wipe_10 : decode cX4_wipe 10 = .ok (.iload_n 1, 1) := by decide +kernel
theorem dX4_wipe_11 : decode cX4_wipe 11 = .ok (.ireturn, 1) := by decide +kernel
theorem dX4_fault_0 : decode cX4_fault 0 = .ok (.iconst 0, 1) := by decide +kernel
theorem dX4_fault_1 : decode cX4_fault 1 = .ok (.istore_n 1, 1) := by decide +kernel
theorem dX4_fault_2 : decode cX4_fault 2 = .ok (.iload_n 1, 1) := by decide +kernel
theorem dX4_fault_3 : decode cX4_fault 3 = .ok (.aload_n 0, 1) := by decide +kernel
theorem dX4_fault_4 : decode cX4_fault 4 = .ok (.getfield 90, 3) := by decide +kernel
theorem dX4_fault_7 : decode cX4_fault 7 = .ok (.if_icmp .ge 60, 3) := by decide +kernel
theorem dX4_fault_10 : decode cX4_fault 10 = .ok (.aload_n 0, 1) := by decide +kernel
theorem dX4_fault_11 : decode cX4_fault 11 = .ok (.getfield 37, 3) := by decide +kernel
theorem dX4_fault_14 : decode cX4_fault 14 = .ok (.iload_n 1, 1) := by decide +kernel
theorem dX4_fault_15 : decode cX4_fault 15 = .ok (.iaload, 1) := by decide +kernel
theorem dX4_fault_16 : decode cX4_fault 16 = .ok (.istore_n 2, 1) := by decide +kernel
theorem dX4_fault_17 : decode cX4_fault 17 = .ok (.iload_n 1, 1) := by decide +kernel
theorem dX4_fault_18 : decode cX4_fault 18 = .ok (.iconst 2, 1) := by decide +kernel
theorem dX4_fault_19 : decode cX4_fault 19 = .ok (.irem, 1) := by decide +kernel
theorem dX4_fault_20 : decode cX4_fault 20 = .ok (.ifCond .ne 17, 3) := by decide +kernel
theorem dX4_fault_23 : decode cX4_fault 23 = .ok (.iload_n 2, 1) := by decide +kernel
theorem dX4_fault_24 : decode cX4_fault 24 = .ok (.i2l, 1) := by decide +kernel
theorem dX4_fault_25 : decode cX4_fault 25 = .ok (.ldc2_w 93, 3) := by decide +kernel
theorem dX4_fault_28 : decode cX4_fault 28 = .ok (.ldc2_w 95, 3) := by decide +kernel
theorem dX4_fault_31 : decode cX4_fault 31 = .ok (.invokestatic 55, 3) := by decide +kernel
theorem dX4_fault_34 : decode cX4_fault 34 = .ok (.goto 20, 3) := by decide +kernel
theorem dX4_fault_37 : decode cX4_fault 37 = .ok (.iload_n 2, 1) := by decide +kernel
theorem dX4_fault_38 : decode cX4_fault 38 = .ok (.bipush 43, 2) := by decide +kernel
theorem dX4_fault_40 : decode cX4_fault 40 = .ok (.if_icmp .eq 9, 3) := by decide +kernel
theorem dX4_fault_43 : decode cX4_fault 43 = .ok (.iload_n 2, 1) := by decide +kernel
theorem dX4_fault_44 : decode cX4_fault 44 = .ok (.bipush 124, 2) := by decide +kernel
theorem dX4_fault_46 : decode cX4_fault 46 = .ok (.if_icmp .ne 7, 3) := by decide +kernel
theorem dX4_fault_49 : decode cX4_fault 49 = .ok (.iconst 1, 1) := by decide +kernel
theorem dX4_fault_50 : decode cX4_fault 50 = .ok (.goto 4, 3) := by decide +kernel
theorem dX4_fault_53 : decode cX4_fault 53 = .ok (.iconst 0, 1) := by decide +kernel
theorem dX4_fault_54 : decode cX4_fault 54 = .ok (.istore_n 3, 1) := by decide +kernel
theorem dX4_fault_55 : decode cX4_fault 55 = .ok (.iload_n 3, 1) := by decide +kernel
theorem dX4_fault_56 : decode cX4_fault 56 = .ok (.ifCond .ne 5, 3) := by decide +kernel
theorem dX4_fault_59 : decode cX4_fault 59 = .ok (.iload_n 1, 1) := by decide +kernel
theorem dX4_fault_60 : decode cX4_fault 60 = .ok (.ireturn, 1) := by decide +kernel
theorem dX4_fault_61 : decode cX4_fault 61 = .ok (.iinc 1 1, 3) := by decide +kernel
theorem dX4_fault_64 : decode cX4_fault 64 = .ok (.goto (-62), 3) := by decide +kernel
theorem dX4_fault_67 : decode cX4_fault 67 = .ok (.aload_n 0, 1) := by decide +kernel
theorem dX4_fault_68 : decode cX4_fault 68 = .ok (.getfield 90, 3) := by decide +kernel
theorem dX4_fault_71 : decode cX4_fault 71 = .ok (.iconst 2, 1) := by decide +kernel
theorem dX4_fault_72 : decode cX4_fault 72 = .ok (.irem, 1) := by decide +kernel
theorem dX4_fault_73 : decode cX4_fault 73 = .ok (.iconst 1, 1) := by decide +kernel
theorem dX4_fault_74 : decode cX4_fault 74 = .ok (.if_icmp .ne 8, 3) := by decide +kernel
theorem dX4_fault_77 : decode cX4_fault 77 = .ok (.bipush (-6), 2) := by decide +kernel
theorem dX4_fault_79 : decode cX4_fault 79 = .ok (.goto 7, 3) := by decide +kernel
theorem dX4_fault_82 : decode cX4_fault 82 = .ok (.aload_n 0, 1) := by decide +kernel
theorem dX4_fault_83 : decode cX4_fault 83 = .ok (.getfield 90, 3) := by decide +kernel
theorem dX4_fault_86 : decode cX4_fault 86 = .ok (.ireturn, 1) := by decide +kernel
theorem dX4_leans_0 : decode cX4_leans 0 = .ok (.aload_n 0, 1) := by decide +kernel
theorem dX4_leans_1 : decode cX4_leans 1 = .ok (.iload_n 1, 1) := by decide +kernel
theorem dX4_leans_2 : decode cX4_leans 2 = .ok (.invokevirtual 71, 3) := by decide +kernel
theorem dX4_leans_5 : decode cX4_leans 5 = .ok (.ifCond .ne 5, 3) := by decide +kernel
theorem dX4_leans_8 : decode cX4_leans 8 = .ok (.iconst (-1), 1) := by decide +kernel
theorem dX4_leans_9 : decode cX4_leans 9 = .ok (.ireturn, 1) := by decide +kernel
theorem dX4_leans_10 : decode cX4_leans 10 = .ok (.aload_n 0, 1) := by decide +kernel
theorem dX4_leans_11 : decode cX4_leans 11 = .ok (.invokevirtual 97, 3) := by decide +kernel
theorem dX4_leans_14 : decode cX4_leans 14 = .ok (.ifCond .lt 6, 3) := by decide +kernel
theorem dX4_leans_17 : decode cX4_leans 17 = .ok (.bipush (-5), 2) := by decide +kernel
theorem dX4_leans_19 : decode cX4_leans 19 = .ok (.ireturn, 1) := by decide +kernel
theorem dX4_leans_20 : decode cX4_leans 20 = .ok (.aload_n 0, 1) := by decide +kernel
theorem dX4_leans_21 : decode cX4_leans 21 = .ok (.getfield 34, 3) := by decide +kernel
theorem dX4_leans_24 : decode cX4_leans 24 = .ok (.iload_n 1, 1) := by decide +kernel
theorem dX4_leans_25 : decode cX4_leans 25 = .ok (.iconst 0, 1) := by decide +kernel
theorem dX4_leans_26 : decode cX4_leans 26 = .ok (.iastore, 1) := by decide +kernel
theorem dX4_leans_27 : decode cX4_leans 27 = .ok (.iconst 0, 1) := by decide +kernel
theorem dX4_leans_28 : decode cX4_leans 28 = .ok (.istore_n 2, 1) := by decide +kernel
theorem dX4_leans_29 : decode cX4_leans 29 = .ok (.iconst 0, 1) := by decide +kernel
theorem dX4_leans_30 : decode cX4_leans 30 = .ok (.istore_n 3, 1) := by decide +kernel
theorem dX4_leans_31 : decode cX4_leans 31 = .ok (.iload_n 3, 1) := by decide +kernel
theorem dX4_leans_32 : decode cX4_leans 32 = .ok (.aload_n 0, 1) := by decide +kernel
theorem dX4_leans_33 : decode cX4_leans 33 = .ok (.getfield 90, 3) := by decide +kernel
theorem dX4_leans_36 : decode cX4_leans 36 = .ok (.if_icmp .ge 92, 3) := by decide +kernel
theorem dX4_leans_39 : decode cX4_leans 39 = .ok (.aload_n 0, 1) := by decide +kernel
theorem dX4_leans_40 : decode cX4_leans 40 = .ok (.getfield 37, 3) := by decide +kernel
theorem dX4_leans_43 : decode cX4_leans 43 = .ok (.iload_n 3, 1) := by decide +kernel
theorem dX4_leans_44 : decode cX4_leans 44 = .ok (.iaload, 1) := by decide +kernel
theorem dX4_leans_45 : decode cX4_leans 45 = .ok (.istore 4, 2) := by decide +kernel
theorem dX4_leans_47 : decode cX4_leans 47 = .ok (.iload_n 2, 1) := by decide +kernel
theorem dX4_leans_48 : decode cX4_leans 48 = .ok (.iload 4, 2) := by decide +kernel
theorem dX4_leans_50 : decode cX4_leans 50 = .ok (.i2l, 1) := by decide +kernel
theorem dX4_leans_51 : decode cX4_leans 51 = .ok (.ldc2_w 93, 3) := by decide +kernel
theorem dX4_leans_54 : decode cX4_leans 54 = .ok (.ldc2_w 95, 3) := by decide +kernel
theorem dX4_leans_57 : decode cX4_leans 57 = .ok (.invokestatic 55, 3) := by decide +kernel
theorem dX4_leans_60 : decode cX4_leans 60 = .ok (.ifCond .eq 13, 3) := by decide +kernel
theorem dX4_leans_63 : decode cX4_leans 63 = .ok (.iconst 1, 1) := by decide +kernel
theorem dX4_leans_64 : decode cX4_leans 64 = .ok (.iload 4, 2) := by decide +kernel
theorem dX4_leans_66 : decode cX4_leans 66 = .ok (.bipush 97, 2) := by decide +kernel
theorem dX4_leans_68 : decode cX4_leans 68 = .ok (.isub, 1) := by decide +kernel
theorem dX4_leans_69 : decode cX4_leans 69 = .ok (.ishl, 1) := by decide +kernel
theorem dX4_leans_70 : decode cX4_leans 70 = .ok (.goto 4, 3) := by decide +kernel
theorem dX4_leans_73 : decode cX4_leans 73 = .ok (.iconst 0, 1) := by decide +kernel
theorem dX4_leans_74 : decode cX4_leans 74 = .ok (.ior, 1) := by decide +kernel
theorem dX4_leans_75 : decode cX4_leans 75 = .ok (.istore_n 2, 1) := by decide +kernel
theorem dX4_leans_76 : decode cX4_leans 76 = .ok (.iload 4, 2) := by decide +kernel
theorem dX4_leans_78 : decode cX4_leans 78 = .ok (.bipush 124, 2) := by decide +kernel
theorem dX4_leans_80 : decode cX4_leans 80 = .ok (.if_icmp .eq 13, 3) := by decide +kernel
theorem dX4_leans_83 : decode cX4_leans 83 = .ok (.iload_n 3, 1) := by decide +kernel
theorem dX4_leans_84 : decode cX4_leans 84 = .ok (.aload_n 0, 1) := by decide +kernel
theorem dX4_leans_85 : decode cX4_leans 85 = .ok (.getfield 90, 3) := by decide +kernel
theorem dX4_leans_88 : decode cX4_leans 88 = .ok (.iconst 1, 1) := by decide +kernel
theorem dX4_leans_89 : decode cX4_leans 89 = .ok (.isub, 1) := by decide +kernel
theorem dX4_leans_90 : decode cX4_leans 90 = .ok (.if_icmp .ne 32, 3) := by decide +kernel
theorem dX4_leans_93 : decode cX4_leans 93 = .ok (.aload_n 0, 1) := by decide +kernel
theorem dX4_leans_94 : decode cX4_leans 94 = .ok (.getfield 31, 3) := by decide +kernel
theorem dX4_leans_97 : decode cX4_leans 97 = .ok (.bipush 20, 2) := by decide +kernel
theorem dX4_leans_99 : decode cX4_leans 99 = .ok (.iload_n 1, 1) := by decide +kernel
theorem dX4_leans_100 : decode cX4_leans 100 = .ok (.imul, 1) := by decide +kernel
theorem dX4_leans_101 : decode cX4_leans 101 = .ok (.aload_n 0, 1) := by decide +kernel
theorem dX4_leans_102 : decode cX4_leans 102 = .ok (.getfield 34, 3) := by decide +kernel
theorem dX4_leans_105 : decode cX4_leans 105 = .ok (.iload_n 1, 1) := by decide +kernel
theorem dX4_leans_106 : decode cX4_leans 106 = .ok (.iaload, 1) := by decide +kernel
theorem dX4_leans_107 : decode cX4_leans 107 = .ok (.iadd, 1) := by decide +kernel
theorem dX4_leans_108 : decode cX4_leans 108 = .ok (.iload_n 2, 1) := by decide +kernel
theorem dX4_leans_109 : decode cX4_leans 109 = .ok (.iastore, 1) := by decide +kernel
theorem dX4_leans_110 : decode cX4_leans 110 = .ok (.aload_n 0, 1) := by decide +kernel
theorem dX4_leans_111 : decode cX4_leans 111 = .ok (.getfield 34, 3) := by decide +kernel
theorem dX4_leans_114 : decode cX4_leans 114 = .ok (.iload_n 1, 1) := by decide +kernel
theorem dX4_leans_115 : decode cX4_leans 115 = .ok (.dup2, 1) := by decide +kernel
theorem dX4_leans_116 : decode cX4_leans 116 = .ok (.iaload, 1) := by decide +kernel
theorem dX4_leans_117 : decode cX4_leans 117 = .ok (.iconst 1, 1) := by decide +kernel
theorem dX4_leans_118 : decode cX4_leans 118 = .ok (.iadd, 1) := by decide +kernel
theorem dX4_leans_119 : decode cX4_leans 119 = .ok (.iastore, 1) := by decide +kernel
theorem dX4_leans_120 : decode cX4_leans 120 = .ok (.iconst 0, 1) := by decide +kernel
theorem dX4_leans_121 : decode cX4_leans 121 = .ok (.istore_n 2, 1) := by decide +kernel
theorem dX4_leans_122 : decode cX4_leans 122 = .ok (.iinc 3 1, 3) := by decide +kernel
theorem dX4_leans_125 : decode cX4_leans 125 = .ok (.goto (-94), 3) := by decide +kernel
theorem dX4_leans_128 : decode cX4_leans 128 = .ok (.aload_n 0, 1) := by decide +kernel
theorem dX4_leans_129 : decode cX4_leans 129 = .ok (.iconst 0, 1) := by decide +kernel
theorem dX4_leans_130 : decode cX4_leans 130 = .ok (.putfield 90, 3) := by decide +kernel
theorem dX4_leans_133 : decode cX4_leans 133 = .ok (.aload_n 0, 1) := by decide +kernel
theorem dX4_leans_134 : decode cX4_leans 134 = .ok (.getfield 34, 3) := by decide +kernel
theorem dX4_leans_137 : decode cX4_leans 137 = .ok (.iload_n 1, 1) := by decide +kernel
theorem dX4_leans_138 : decode cX4_leans 138 = .ok (.iaload, 1) := by decide +kernel
theorem dX4_leans_139 : decode cX4_leans 139 = .ok (.ireturn, 1) := by decide +kernel
theorem dX4_free_0 : decode cX4_free 0 = .ok (.aload_n 0, 1) := by decide +kernel
theorem dX4_free_1 : decode cX4_free 1 = .ok (.iload_n 1, 1) := by decide +kernel
theorem dX4_free_2 : decode cX4_free 2 = .ok (.invokevirtual 71, 3) := by decide +kernel
theorem dX4_free_5 : decode cX4_free 5 = .ok (.ifCond .ne 5, 3) := by decide +kernel
theorem dX4_free_8 : decode cX4_free 8 = .ok (.iconst (-1), 1) := by decide +kernel
theorem dX4_free_9 : decode cX4_free 9 = .ok (.ireturn, 1) := by decide +kernel
theorem dX4_free_10 : decode cX4_free 10 = .ok (.aload_n 0, 1) := by decide +kernel
theorem dX4_free_11 : decode cX4_free 11 = .ok (.getfield 34, 3) := by decide +kernel
theorem dX4_free_14 : decode cX4_free 14 = .ok (.iload_n 1, 1) := by decide +kernel
theorem dX4_free_15 : decode cX4_free 15 = .ok (.iaload, 1) := by decide +kernel
theorem dX4_free_16 : decode cX4_free 16 = .ok (.istore_n 2, 1) := by decide +kernel
theorem dX4_free_17 : decode cX4_free 17 = .ok (.aload_n 0, 1) := by decide +kernel
theorem dX4_free_18 : decode cX4_free 18 = .ok (.getfield 34, 3) := by decide +kernel
theorem dX4_free_21 : decode cX4_free 21 = .ok (.iload_n 1, 1) := by decide +kernel
theorem dX4_free_22 : decode cX4_free 22 = .ok (.iconst 0, 1) := by decide +kernel
theorem dX4_free_23 : decode cX4_free 23 = .ok (.iastore, 1) := by decide +kernel
theorem dX4_free_24 : decode cX4_free 24 = .ok (.iload_n 2, 1) := by decide +kernel
theorem dX4_free_25 : decode cX4_free 25 = .ok (.ireturn, 1) := by decide +kernel
theorem dX4_isHeld_0 : decode cX4_isHeld 0 = .ok (.aload_n 0, 1) := by decide +kernel
theorem dX4_isHeld_1 : decode cX4_isHeld 1 = .ok (.getfield 34, 3) := by decide +kernel
theorem dX4_isHeld_4 : decode cX4_isHeld 4 = .ok (.iload_n 1, 1) := by decide +kernel
theorem dX4_isHeld_5 : decode cX4_isHeld 5 = .ok (.iaload, 1) := by decide +kernel
theorem dX4_isHeld_6 : decode cX4_isHeld 6 = .ok (.ifCond .eq 23, 3) := by decide +kernel
theorem dX4_isHeld_9 : decode cX4_isHeld 9 = .ok (.aload_n 0, 1) := by decide +kernel
theorem dX4_isHeld_10 : decode cX4_isHeld 10 = .ok (.getfield 83, 3) := by decide +kernel
theorem dX4_isHeld_13 : decode cX4_isHeld 13 = .ok (.iconst 1, 1) := by decide +kernel
theorem dX4_isHeld_14 : decode cX4_isHeld 14 = .ok (.if_icmp .ne 19, 3) := by decide +kernel
theorem dX4_isHeld_17 : decode cX4_isHeld 17 = .ok (.aload_n 0, 1) := by decide +kernel
theorem dX4_isHeld_18 : decode cX4_isHeld 18 = .ok (.getfield 78, 3) := by decide +kernel
theorem dX4_isHeld_21 : decode cX4_isHeld 21 = .ok (.iload_n 1, 1) := by decide +kernel
theorem dX4_isHeld_22 : decode cX4_isHeld 22 = .ok (.ishr, 1) := by decide +kernel
theorem dX4_isHeld_23 : decode cX4_isHeld 23 = .ok (.iconst 1, 1) := by decide +kernel
theorem dX4_isHeld_24 : decode cX4_isHeld 24 = .ok (.iand, 1) := by decide +kernel
theorem dX4_isHeld_25 : decode cX4_isHeld 25 = .ok (.iconst 1, 1) := by decide +kernel
theorem dX4_isHeld_26 : decode cX4_isHeld 26 = .ok (.if_icmp .ne 7, 3) := by decide +kernel
theorem dX4_isHeld_29 : decode cX4_isHeld 29 = .ok (.iconst 1, 1) := by decide +kernel
theorem dX4_isHeld_30 : decode cX4_isHeld 30 = .ok (.goto 4, 3) := by decide +kernel
theorem dX4_isHeld_33 : decode cX4_isHeld 33 = .ok (.iconst 0, 1) := by decide +kernel
theorem dX4_isHeld_34 : decode cX4_isHeld 34 = .ok (.istore_n 3, 1) := by decide +kernel
theorem dX4_isHeld_35 : decode cX4_isHeld 35 = .ok (.iconst 0, 1) := by decide +kernel
theorem dX4_isHeld_36 : decode cX4_isHeld 36 = .ok (.istore 4, 2) := by decide +kernel
theorem dX4_isHeld_38 : decode cX4_isHeld 38 = .ok (.iload 4, 2) := by decide +kernel
theorem dX4_isHeld_40 : decode cX4_isHeld 40 = .ok (.aload_n 0, 1) := by decide +kernel
theorem dX4_isHeld_41 : decode cX4_isHeld 41 = .ok (.getfield 34, 3) := by decide +kernel
theorem dX4_isHeld_44 : decode cX4_isHeld 44 = .ok (.iload_n 1, 1) := by decide +kernel
theorem dX4_isHeld_45 : decode cX4_isHeld 45 = .ok (.iaload, 1) := by decide +kernel
theorem dX4_isHeld_46 : decode cX4_isHeld 46 = .ok (.if_icmp .ge 38, 3) := by decide +kernel
theorem dX4_isHeld_49 : decode cX4_isHeld 49 = .ok (.iload_n 3, 1) := by decide +kernel
theorem dX4_isHeld_50 : decode cX4_isHeld 50 = .ok (.ifCond .ne 22, 3) := by decide +kernel
theorem dX4_isHeld_53 : decode cX4_isHeld 53 = .ok (.aload_n 0, 1) := by decide +kernel
theorem dX4_isHeld_54 : decode cX4_isHeld 54 = .ok (.getfield 31, 3) := by decide +kernel
theorem dX4_isHeld_57 : decode cX4_isHeld 57 = .ok (.bipush 20, 2) := by decide +kernel
theorem dX4_isHeld_59 : decode cX4_isHeld 59 = .ok (.iload_n 1, 1) := by decide +kernel
theorem dX4_isHeld_60 : decode cX4_isHeld 60 = .ok (.imul, 1) := by decide +kernel
theorem dX4_isHeld_61 : decode cX4_isHeld 61 = .ok (.iload 4, 2) := by decide +kernel
theorem dX4_isHeld_63 : decode cX4_isHeld 63 = .ok (.iadd, 1) := by decide +kernel
theorem dX4_isHeld_64 : decode cX4_isHeld 64 = .ok (.iaload, 1) := by decide +kernel
theorem dX4_isHeld_65 : decode cX4_isHeld 65 = .ok (.iload_n 2, 1) := by decide +kernel
theorem dX4_isHeld_66 : decode cX4_isHeld 66 = .ok (.iconst (-1), 1) := by decide +kernel
theorem dX4_isHeld_67 : decode cX4_isHeld 67 = .ok (.ixor, 1) := by decide +kernel
theorem dX4_isHeld_68 : decode cX4_isHeld 68 = .ok (.iand, 1) := by decide +kernel
theorem dX4_isHeld_69 : decode cX4_isHeld 69 = .ok (.ifCond .ne 7, 3) := by decide +kernel
theorem dX4_isHeld_72 : decode cX4_isHeld 72 = .ok (.iconst 1, 1) := by decide +kernel
theorem dX4_isHeld_73 : decode cX4_isHeld 73 = .ok (.goto 4, 3) := by decide +kernel
theorem dX4_isHeld_76 : decode cX4_isHeld 76 = .ok (.iconst 0, 1) := by decide +kernel
theorem dX4_isHeld_77 : decode cX4_isHeld 77 = .ok (.istore_n 3, 1) := by decide +kernel
theorem dX4_isHeld_78 : decode cX4_isHeld 78 = .ok (.iinc 4 1, 3) := by decide +kernel
theorem dX4_isHeld_81 : decode cX4_isHeld 81 = .ok (.goto (-43), 3) := by decide +kernel
theorem dX4_isHeld_84 : decode cX4_isHeld 84 = .ok (.iload_n 3, 1) := by decide +kernel
theorem dX4_isHeld_85 : decode cX4_isHeld 85 = .ok (.ireturn, 1) := by decide +kernel
theorem dX4_ask_0 : decode cX4_ask 0 = .ok (.aload_n 0, 1) := by decide +kernel
theorem dX4_ask_1 : decode cX4_ask 1 = .ok (.iload_n 1, 1) := by decide +kernel
theorem dX4_ask_2 : decode cX4_ask 2 = .ok (.invokevirtual 71, 3) := by decide +kernel
theorem dX4_ask_5 : decode cX4_ask 5 = .ok (.ifCond .eq 10, 3) := by decide +kernel
theorem dX4_ask_8 : decode cX4_ask 8 = .ok (.iload_n 2, 1) := by decide +kernel
theorem dX4_ask_9 : decode cX4_ask 9 = .ok (.invokestatic 64, 3) := by decide +kernel
theorem dX4_ask_12 : decode cX4_ask 12 = .ok (.ifCond .ne 5, 3) := by decide +kernel
theorem dX4_ask_15 : decode cX4_ask 15 = .ok (.iconst (-1), 1) := by decide +kernel
theorem dX4_ask_16 : decode cX4_ask 16 = .ok (.ireturn, 1) := by decide +kernel
theorem dX4_ask_17 : decode cX4_ask 17 = .ok (.iload_n 3, 1) := by decide +kernel
theorem dX4_ask_18 : decode cX4_ask 18 = .ok (.invokestatic 68, 3) := by decide +kernel
theorem dX4_ask_21 : decode cX4_ask 21 = .ok (.ifCond .ne 6, 3) := by decide +kernel
theorem dX4_ask_24 : decode cX4_ask 24 = .ok (.bipush (-2), 2) := by decide +kernel
theorem dX4_ask_26 : decode cX4_ask 26 = .ok (.ireturn, 1) := by decide +kernel
theorem dX4_ask_27 : decode cX4_ask 27 = .ok (.aload_n 0, 1) := by decide +kernel
theorem dX4_ask_28 : decode cX4_ask 28 = .ok (.getfield 101, 3) := by decide +kernel
theorem dX4_ask_31 : decode cX4_ask 31 = .ok (.bipush 12, 2) := by decide +kernel
theorem dX4_ask_33 : decode cX4_ask 33 = .ok (.if_icmp .ne 6, 3) := by decide +kernel
theorem dX4_ask_36 : decode cX4_ask 36 = .ok (.bipush (-4), 2) := by decide +kernel
theorem dX4_ask_38 : decode cX4_ask 38 = .ok (.ireturn, 1) := by decide +kernel
theorem dX4_ask_39 : decode cX4_ask 39 = .ok (.aload_n 0, 1) := by decide +kernel
theorem dX4_ask_40 : decode cX4_ask 40 = .ok (.getfield 40, 3) := by decide +kernel
theorem dX4_ask_43 : decode cX4_ask 43 = .ok (.aload_n 0, 1) := by decide +kernel
theorem dX4_ask_44 : decode cX4_ask 44 = .ok (.getfield 101, 3) := by decide +kernel
theorem dX4_ask_47 : decode cX4_ask 47 = .ok (.iload_n 1, 1) := by decide +kernel
theorem dX4_ask_48 : decode cX4_ask 48 = .ok (.iastore, 1) := by decide +kernel
theorem dX4_ask_49 : decode cX4_ask 49 = .ok (.aload_n 0, 1) := by decide +kernel
theorem dX4_ask_50 : decode cX4_ask 50 = .ok (.getfield 43, 3) := by decide +kernel
theorem dX4_ask_53 : decode cX4_ask 53 = .ok (.aload_n 0, 1) := by decide +kernel
theorem dX4_ask_54 : decode cX4_ask 54 = .ok (.getfield 101, 3) := by decide +kernel
theorem dX4_ask_57 : decode cX4_ask 57 = .ok (.iload_n 2, 1) := by decide +kernel
theorem dX4_ask_58 : decode cX4_ask 58 = .ok (.iastore, 1) := by decide +kernel
theorem dX4_ask_59 : decode cX4_ask 59 = .ok (.aload_n 0, 1) := by decide +kernel
theorem dX4_ask_60 : decode cX4_ask 60 = .ok (.getfield 46, 3) := by decide +kernel
theorem dX4_ask_63 : decode cX4_ask 63 = .ok (.aload_n 0, 1) := by decide +kernel
theorem dX4_ask_64 : decode cX4_ask 64 = .ok (.getfield 101, 3) := by decide +kernel
theorem dX4_ask_67 : decode cX4_ask 67 = .ok (.iload_n 3, 1) := by decide +kernel
theorem dX4_ask_68 : decode cX4_ask 68 = .ok (.iastore, 1) := by decide +kernel
theorem dX4_ask_69 : decode cX4_ask 69 = .ok (.aload_n 0, 1) := by decide +kernel
theorem dX4_ask_70 : decode cX4_ask 70 = .ok (.dup, 1) := by decide +kernel
theorem dX4_ask_71 : decode cX4_ask 71 = .ok (.getfield 101, 3) := by decide +kernel
theorem dX4_ask_74 : decode cX4_ask 74 = .ok (.iconst 1, 1) := by decide +kernel
theorem dX4_ask_75 : decode cX4_ask 75 = .ok (.iadd, 1) := by decide +kernel
theorem dX4_ask_76 : decode cX4_ask 76 = .ok (.putfield 101, 3) := by decide +kernel
theorem dX4_ask_79 : decode cX4_ask 79 = .ok (.aload_n 0, 1) := by decide +kernel
theorem dX4_ask_80 : decode cX4_ask 80 = .ok (.getfield 101, 3) := by decide +kernel
theorem dX4_ask_83 : decode cX4_ask 83 = .ok (.iconst 1, 1) := by decide +kernel
theorem dX4_ask_84 : decode cX4_ask 84 = .ok (.isub, 1) := by decide +kernel
theorem dX4_ask_85 : decode cX4_ask 85 = .ok (.ireturn, 1) := by decide +kernel
theorem dX4_isHealed_0 : decode cX4_isHealed 0 = .ok (.aload_n 0, 1) := by decide +kernel
theorem dX4_isHealed_1 : decode cX4_isHealed 1 = .ok (.getfield 104, 3) := by decide +kernel
theorem dX4_isHealed_4 : decode cX4_isHealed 4 = .ok (.iload_n 1, 1) := by decide +kernel
theorem dX4_isHealed_5 : decode cX4_isHealed 5 = .ok (.ishr, 1) := by decide +kernel
theorem dX4_isHealed_6 : decode cX4_isHealed 6 = .ok (.iconst 1, 1) := by decide +kernel
theorem dX4_isHealed_7 : decode cX4_isHealed 7 = .ok (.iand, 1) := by decide +kernel
theorem dX4_isHealed_8 : decode cX4_isHealed 8 = .ok (.iconst 1, 1) := by decide +kernel
theorem dX4_isHealed_9 : decode cX4_isHealed 9 = .ok (.if_icmp .eq 22, 3) := by decide +kernel
theorem dX4_isHealed_12 : decode cX4_isHealed 12 = .ok (.aload_n 0, 1) := by decide +kernel
theorem dX4_isHealed_13 : decode cX4_isHealed 13 = .ok (.getfield 28, 3) := by decide +kernel
theorem dX4_isHealed_16 : decode cX4_isHealed 16 = .ok (.iload_n 1, 1) := by decide +kernel
theorem dX4_isHealed_17 : decode cX4_isHealed 17 = .ok (.iaload, 1) := by decide +kernel
theorem dX4_isHealed_18 : decode cX4_isHealed 18 = .ok (.ifCond .lt 17, 3) := by decide +kernel
theorem dX4_isHealed_21 : decode cX4_isHealed 21 = .ok (.aload_n 0, 1) := by decide +kernel
theorem dX4_isHealed_22 : decode cX4_isHealed 22 = .ok (.getfield 28, 3) := by decide +kernel
theorem dX4_isHealed_25 : decode cX4_isHealed 25 = .ok (.iload_n 1, 1) := by decide +kernel
theorem dX4_isHealed_26 : decode cX4_isHealed 26 = .ok (.iaload, 1) := by decide +kernel
theorem dX4_isHealed_27 : decode cX4_isHealed 27 = .ok (.iload_n 2, 1) := by decide +kernel
theorem dX4_isHealed_28 : decode cX4_isHealed 28 = .ok (.if_icmp .gt 7, 3) := by decide +kernel
theorem dX4_isHealed_31 : decode cX4_isHealed 31 = .ok (.iconst 1, 1) := by decide +kernel
theorem dX4_isHealed_32 : decode cX4_isHealed 32 = .ok (.goto 4, 3) := by decide +kernel
theorem dX4_isHealed_35 : decode cX4_isHealed 35 = .ok (.iconst 0, 1) := by decide +kernel
theorem dX4_isHealed_36 : decode cX4_isHealed 36 = .ok (.ireturn, 1) := by decide +kernel
theorem dX4_wouldCount_0 : decode cX4_wouldCount 0 = .ok (.aload_n 0, 1) := by decide +kernel
theorem dX4_wouldCount_1 : decode cX4_wouldCount 1 = .ok (.getfield 22, 3) := by decide +kernel
theorem dX4_wouldCount_4 : decode cX4_wouldCount 4 = .ok (.iload_n 1, 1) := by decide +kernel
theorem dX4_wouldCount_5 : decode cX4_wouldCount 5 = .ok (.iaload, 1) := by decide +kernel
theorem dX4_wouldCount_6 : decode cX4_wouldCount 6 = .ok (.istore 4, 2) := by decide +kernel
theorem dX4_wouldCount_8 : decode cX4_wouldCount 8 = .ok (.iload 4, 2) := by decide +kernel
theorem dX4_wouldCount_10 : decode cX4_wouldCount 10 = .ok (.iconst 4, 1) := by decide +kernel
theorem dX4_wouldCount_11 : decode cX4_wouldCount 11 = .ok (.if_icmp .eq 35, 3) := by decide +kernel
theorem dX4_wouldCount_14 : decode cX4_wouldCount 14 = .ok (.iload 4, 2) := by decide +kernel
theorem dX4_wouldCount_16 : decode cX4_wouldCount 16 = .ok (.iconst 2, 1) := by decide +kernel
theorem dX4_wouldCount_17 : decode cX4_wouldCount 17 = .ok (.if_icmp .ne 13, 3) := by decide +kernel
theorem dX4_wouldCount_20 : decode cX4_wouldCount 20 = .ok (.aload_n 0, 1) := by decide +kernel
theorem dX4_wouldCount_21 : decode cX4_wouldCount 21 = .ok (.getfield 13, 3) := by decide +kernel
theorem dX4_wouldCount_24 : decode cX4_wouldCount 24 = .ok (.iload_n 1, 1) := by decide +kernel
theorem dX4_wouldCount_25 : decode cX4_wouldCount 25 = .ok (.iaload, 1) := by decide +kernel
theorem dX4_wouldCount_26 : decode cX4_wouldCount 26 = .ok (.iload_n 2, 1) := by decide +kernel
theorem dX4_wouldCount_27 : decode cX4_wouldCount 27 = .ok (.if_icmp .eq 19, 3) := by decide +kernel
theorem dX4_wouldCount_30 : decode cX4_wouldCount 30 = .ok (.iload 4, 2) := by decide +kernel
theorem dX4_wouldCount_32 : decode cX4_wouldCount 32 = .ok (.iconst 3, 1) := by decide +kernel
theorem dX4_wouldCount_33 : decode cX4_wouldCount 33 = .ok (.if_icmp .ne 17, 3) := by decide +kernel
theorem dX4_wouldCount_36 : decode cX4_wouldCount 36 = .ok (.aload_n 0, 1) := by decide +kernel
theorem dX4_wouldCount_37 : decode cX4_wouldCount 37 = .ok (.getfield 16, 3) := by decide +kernel
theorem dX4_wouldCount_40 : decode cX4_wouldCount 40 = .ok (.iload_n 1, 1) := by decide +kernel
theorem dX4_wouldCount_41 : decode cX4_wouldCount 41 = .ok (.iaload, 1) := by decide +kernel
theorem dX4_wouldCount_42 : decode cX4_wouldCount 42 = .ok (.iload_n 2, 1) := by decide +kernel
theorem dX4_wouldCount_43 : decode cX4_wouldCount 43 = .ok (.if_icmp .ne 7, 3) := by decide +kernel
theorem dX4_wouldCount_46 : decode cX4_wouldCount 46 = .ok (.iconst 1, 1) := by decide +kernel
theorem dX4_wouldCount_47 : decode cX4_wouldCount 47 = .ok (.goto 4, 3) := by decide +kernel
theorem dX4_wouldCount_50 : decode cX4_wouldCount 50 = .ok (.iconst 0, 1) := by decide +kernel
theorem dX4_wouldCount_51 : decode cX4_wouldCount 51 = .ok (.istore 5, 2) := by decide +kernel
theorem dX4_wouldCount_53 : decode cX4_wouldCount 53 = .ok (.iload 5, 2) := by decide +kernel
theorem dX4_wouldCount_55 : decode cX4_wouldCount 55 = .ok (.ifCond .eq 45, 3) := by decide +kernel
theorem dX4_wouldCount_58 : decode cX4_wouldCount 58 = .ok (.iload_n 3, 1) := by decide +kernel
theorem dX4_wouldCount_59 : decode cX4_wouldCount 59 = .ok (.i2l, 1) := by decide +kernel
theorem dX4_wouldCount_60 : decode cX4_wouldCount 60 = .ok (.aload_n 0, 1) := by decide +kernel
theorem dX4_wouldCount_61 : decode cX4_wouldCount 61 = .ok (.getfield 7, 3) := by decide +kernel
theorem dX4_wouldCount_64 : decode cX4_wouldCount 64 = .ok (.iload_n 1, 1) := by decide +kernel
theorem dX4_wouldCount_65 : decode cX4_wouldCount 65 = .ok (.iaload, 1) := by decide +kernel
theorem dX4_wouldCount_66 : decode cX4_wouldCount 66 = .ok (.i2l, 1) := by decide +kernel
theorem dX4_wouldCount_67 : decode cX4_wouldCount 67 = .ok (.aload_n 0, 1) := by decide +kernel
theorem dX4_wouldCount_68 : decode cX4_wouldCount 68 = .ok (.getfield 7, 3) := by decide +kernel
theorem dX4_wouldCount_71 : decode cX4_wouldCount 71 = .ok (.iload_n 1, 1) := by decide +kernel
theorem dX4_wouldCount_72 : decode cX4_wouldCount 72 = .ok (.iaload, 1) := by decide +kernel
theorem dX4_wouldCount_73 : decode cX4_wouldCount 73 = .ok (.aload_n 0, 1) := by decide +kernel
theorem dX4_wouldCount_74 : decode cX4_wouldCount 74 = .ok (.getfield 25, 3) := by decide +kernel
theorem dX4_wouldCount_77 : decode cX4_wouldCount 77 = .ok (.iload_n 1, 1) := by decide +kernel
theorem dX4_wouldCount_78 : decode cX4_wouldCount 78 = .ok (.iaload, 1) := by decide +kernel
theorem dX4_wouldCount_79 : decode cX4_wouldCount 79 = .ok (.iadd, 1) := by decide +kernel
theorem dX4_wouldCount_80 : decode cX4_wouldCount 80 = .ok (.i2l, 1) := by decide +kernel
theorem dX4_wouldCount_81 : decode cX4_wouldCount 81 = .ok (.invokestatic 55, 3) := by decide +kernel
theorem dX4_wouldCount_84 : decode cX4_wouldCount 84 = .ok (.ifCond .eq 16, 3) := by decide +kernel
theorem dX4_wouldCount_87 : decode cX4_wouldCount 87 = .ok (.aload_n 0, 1) := by decide +kernel
theorem dX4_wouldCount_88 : decode cX4_wouldCount 88 = .ok (.iload_n 1, 1) := by decide +kernel
theorem dX4_wouldCount_89 : decode cX4_wouldCount 89 = .ok (.iload_n 3, 1) := by decide +kernel
theorem dX4_wouldCount_90 : decode cX4_wouldCount 90 = .ok (.invokevirtual 107, 3) := by decide +kernel
theorem dX4_wouldCount_93 : decode cX4_wouldCount 93 = .ok (.ifCond .ne 7, 3) := by decide +kernel
theorem dX4_wouldCount_96 : decode cX4_wouldCount 96 = .ok (.iconst 1, 1) := by decide +kernel
theorem dX4_wouldCount_97 : decode cX4_wouldCount 97 = .ok (.goto 4, 3) := by decide +kernel
theorem dX4_wouldCount_100 : decode cX4_wouldCount 100 = .ok (.iconst 0, 1) := by decide +kernel
theorem dX4_wouldCount_101 : decode cX4_wouldCount 101 = .ok (.ireturn, 1) := by decide +kernel
theorem dX4_counts_0 : decode cX4_counts 0 = .ok (.iload_n 1, 1) := by decide +kernel
theorem dX4_counts_1 : decode cX4_counts 1 = .ok (.i2l, 1) := by decide +kernel
theorem dX4_counts_2 : decode cX4_counts 2 = .ok (.lconst 0, 1) := by decide +kernel
theorem dX4_counts_3 : decode cX4_counts 3 = .ok (.aload_n 0, 1) := by decide +kernel
theorem dX4_counts_4 : decode cX4_counts 4 = .ok (.getfield 101, 3) := by decide +kernel
theorem dX4_counts_7 : decode cX4_counts 7 = .ok (.iconst 1, 1) := by decide +kernel
theorem dX4_counts_8 : decode cX4_counts 8 = .ok (.isub, 1) := by decide +kernel
theorem dX4_counts_9 : decode cX4_counts 9 = .ok (.i2l, 1) := by decide +kernel
theorem dX4_counts_10 : decode cX4_counts 10 = .ok (.invokestatic 55, 3) := by decide +kernel
theorem dX4_counts_13 : decode cX4_counts 13 = .ok (.ifCond .ne 5, 3) := by decide +kernel
theorem dX4_counts_16 : decode cX4_counts 16 = .ok (.iconst (-1), 1) := by decide +kernel
theorem dX4_counts_17 : decode cX4_counts 17 = .ok (.ireturn, 1) := by decide +kernel
theorem dX4_counts_18 : decode cX4_counts 18 = .ok (.aload_n 0, 1) := by decide +kernel
theorem dX4_counts_19 : decode cX4_counts 19 = .ok (.aload_n 0, 1) := by decide +kernel
theorem dX4_counts_20 : decode cX4_counts 20 = .ok (.getfield 40, 3) := by decide +kernel
theorem dX4_counts_23 : decode cX4_counts 23 = .ok (.iload_n 1, 1) := by decide +kernel
theorem dX4_counts_24 : decode cX4_counts 24 = .ok (.iaload, 1) := by decide +kernel
theorem dX4_counts_25 : decode cX4_counts 25 = .ok (.aload_n 0, 1) := by decide +kernel
theorem dX4_counts_26 : decode cX4_counts 26 = .ok (.getfield 43, 3) := by decide +kernel
theorem dX4_counts_29 : decode cX4_counts 29 = .ok (.iload_n 1, 1) := by decide +kernel
theorem dX4_counts_30 : decode cX4_counts 30 = .ok (.iaload, 1) := by decide +kernel
theorem dX4_counts_31 : decode cX4_counts 31 = .ok (.aload_n 0, 1) := by decide +kernel
theorem dX4_counts_32 : decode cX4_counts 32 = .ok (.getfield 46, 3) := by decide +kernel
theorem dX4_counts_35 : decode cX4_counts 35 = .ok (.iload_n 1, 1) := by decide +kernel
theorem dX4_counts_36 : decode cX4_counts 36 = .ok (.iaload, 1) := by decide +kernel
theorem dX4_counts_37 : decode cX4_counts 37 = .ok (.invokevirtual 111, 3) := by decide +kernel
theorem dX4_counts_40 : decode cX4_counts 40 = .ok (.ifCond .eq 7, 3) := by decide +kernel
theorem dX4_counts_43 : decode cX4_counts 43 = .ok (.iconst 1, 1) := by decide +kernel
theorem dX4_counts_44 : decode cX4_counts 44 = .ok (.goto 4, 3) := by decide +kernel
theorem dX4_counts_47 : decode cX4_counts 47 = .ok (.iconst 0, 1) := by decide +kernel
theorem dX4_counts_48 : decode cX4_counts 48 = .ok (.ireturn, 1) := by decide +kernel
theorem dX4_drop_0 : decode cX4_drop 0 = .ok (.aload_n 0, 1) := by decide +kernel
theorem dX4_drop_1 : decode cX4_drop 1 = .ok (.getfield 101, 3) := by decide +kernel
theorem dX4_drop_4 : decode cX4_drop 4 = .ok (.ifCond .ne 6, 3) := by decide +kernel
theorem dX4_drop_7 : decode cX4_drop 7 = .ok (.bipush (-5), 2) := by decide +kernel
theorem dX4_drop_9 : decode cX4_drop 9 = .ok (.ireturn, 1) := by decide +kernel
theorem dX4_drop_10 : decode cX4_drop 10 = .ok (.aload_n 0, 1) := by decide +kernel
theorem dX4_drop_11 : decode cX4_drop 11 = .ok (.dup, 1) := by decide +kernel
theorem dX4_drop_12 : decode cX4_drop 12 = .ok (.getfield 101, 3) := by decide +kernel
theorem dX4_drop_15 : decode cX4_drop 15 = .ok (.iconst 1, 1) := by decide +kernel
theorem dX4_drop_16 : decode cX4_drop 16 = .ok (.isub, 1) := by decide +kernel
theorem dX4_drop_17 : decode cX4_drop 17 = .ok (.putfield 101, 3) := by decide +kernel
theorem dX4_drop_20 : decode cX4_drop 20 = .ok (.aload_n 0, 1) := by decide +kernel
theorem dX4_drop_21 : decode cX4_drop 21 = .ok (.getfield 101, 3) := by decide +kernel
theorem dX4_drop_24 : decode cX4_drop 24 = .ok (.ireturn, 1) := by decide +kernel
theorem dX4_isAsked_0 : decode cX4_isAsked 0 = .ok (.aload_n 0, 1) := by decide +kernel
theorem dX4_isAsked_1 : decode cX4_isAsked 1 = .ok (.getfield 115, 3) := by decide +kernel
theorem dX4_isAsked_4 : decode cX4_isAsked 4 = .ok (.iload_n 1, 1) := by decide +kernel
theorem dX4_isAsked_5 : decode cX4_isAsked 5 = .ok (.ishr, 1) := by decide +kernel
theorem dX4_isAsked_6 : decode cX4_isAsked 6 = .ok (.iconst 1, 1) := by decide +kernel
theorem dX4_isAsked_7 : decode cX4_isAsked 7 = .ok (.iand, 1) := by decide +kernel
theorem dX4_isAsked_8 : decode cX4_isAsked 8 = .ok (.iconst 1, 1) := by decide +kernel
theorem dX4_isAsked_9 : decode cX4_isAsked 9 = .ok (.if_icmp .ne 7, 3) := by decide +kernel
theorem dX4_isAsked_12 : decode cX4_isAsked 12 = .ok (.iconst 1, 1) := by decide +kernel
theorem dX4_isAsked_13 : decode cX4_isAsked 13 = .ok (.goto 4, 3) := by decide +kernel
theorem dX4_isAsked_16 : decode cX4_isAsked 16 = .ok (.iconst 0, 1) := by decide +kernel
theorem dX4_isAsked_17 : decode cX4_isAsked 17 = .ok (.istore_n 3, 1) := by decide +kernel
theorem dX4_isAsked_18 : decode cX4_isAsked 18 = .ok (.iconst 0, 1) := by decide +kernel
theorem dX4_isAsked_19 : decode cX4_isAsked 19 = .ok (.istore 4, 2) := by decide +kernel
theorem dX4_isAsked_21 : decode cX4_isAsked 21 = .ok (.iload 4, 2) := by decide +kernel
theorem dX4_isAsked_23 : decode cX4_isAsked 23 = .ok (.aload_n 0, 1) := by decide +kernel
theorem dX4_isAsked_24 : decode cX4_isAsked 24 = .ok (.getfield 101, 3) := by decide +kernel
theorem dX4_isAsked_27 : decode cX4_isAsked 27 = .ok (.if_icmp .ge 63, 3) := by decide +kernel
theorem dX4_isAsked_30 : decode cX4_isAsked 30 = .ok (.iload_n 3, 1) := by decide +kernel
theorem dX4_isAsked_31 : decode cX4_isAsked 31 = .ok (.ifCond .ne 47, 3) := by decide +kernel
theorem dX4_isAsked_34 : decode cX4_isAsked 34 = .ok (.aload_n 0, 1) := by decide +kernel
theorem dX4_isAsked_35 : decode cX4_isAsked 35 = .ok (.getfield 40, 3) := by decide +kernel
theorem dX4_isAsked_38 : decode cX4_isAsked 38 = .ok (.iload 4, 2) := by decide +kernel
theorem dX4_isAsked_40 : decode cX4_isAsked 40 = .ok (.iaload, 1) := by decide +kernel
theorem dX4_isAsked_41 : decode cX4_isAsked 41 = .ok (.iload_n 1, 1) := by decide +kernel
theorem dX4_isAsked_42 : decode cX4_isAsked 42 = .ok (.if_icmp .ne 40, 3) := by decide +kernel
theorem dX4_isAsked_45 : decode cX4_isAsked 45 = .ok (.aload_n 0, 1) := by decide +kernel
theorem dX4_isAsked_46 : decode cX4_isAsked 46 = .ok (.getfield 46, 3) := by decide +kernel
theorem dX4_isAsked_49 : decode cX4_isAsked 49 = .ok (.iload 4, 2) := by decide +kernel
theorem dX4_isAsked_51 : decode cX4_isAsked 51 = .ok (.iaload, 1) := by decide +kernel
theorem dX4_isAsked_52 : decode cX4_isAsked 52 = .ok (.iload_n 2, 1) := by decide +kernel
theorem dX4_isAsked_53 : decode cX4_isAsked 53 = .ok (.if_icmp .gt 29, 3) := by decide +kernel
theorem dX4_isAsked_56 : decode cX4_isAsked 56 = .ok (.aload_n 0, 1) := by decide +kernel
theorem dX4_isAsked_57 : decode cX4_isAsked 57 = .ok (.iload_n 1, 1) := by decide +kernel
theorem dX4_isAsked_58 : decode cX4_isAsked 58 = .ok (.aload_n 0, 1) := by decide +kernel
theorem dX4_isAsked_59 : decode cX4_isAsked 59 = .ok (.getfield 43, 3) := by decide +kernel
theorem dX4_isAsked_62 : decode cX4_isAsked 62 = .ok (.iload 4, 2) := by decide +kernel
theorem dX4_isAsked_64 : decode cX4_isAsked 64 = .ok (.iaload, 1) := by decide +kernel
theorem dX4_isAsked_65 : decode cX4_isAsked 65 = .ok (.aload_n 0, 1) := by decide +kernel
theorem dX4_isAsked_66 : decode cX4_isAsked 66 = .ok (.getfield 46, 3) := by decide +kernel
theorem dX4_isAsked_69 : decode cX4_isAsked 69 = .ok (.iload 4, 2) := by decide +kernel
theorem dX4_isAsked_71 : decode cX4_isAsked 71 = .ok (.iaload, 1) := by decide +kernel
theorem dX4_isAsked_72 : decode cX4_isAsked 72 = .ok (.invokevirtual 111, 3) := by decide +kernel
theorem dX4_isAsked_75 : decode cX4_isAsked 75 = .ok (.ifCond .eq 7, 3) := by decide +kernel
theorem dX4_isAsked_78 : decode cX4_isAsked 78 = .ok (.iconst 1, 1) := by decide +kernel
theorem dX4_isAsked_79 : decode cX4_isAsked 79 = .ok (.goto 4, 3) := by decide +kernel
theorem dX4_isAsked_82 : decode cX4_isAsked 82 = .ok (.iconst 0, 1) := by decide +kernel
theorem dX4_isAsked_83 : decode cX4_isAsked 83 = .ok (.istore_n 3, 1) := by decide +kernel
theorem dX4_isAsked_84 : decode cX4_isAsked 84 = .ok (.iinc 4 1, 3) := by decide +kernel
theorem dX4_isAsked_87 : decode cX4_isAsked 87 = .ok (.goto (-66), 3) := by decide +kernel
theorem dX4_isAsked_90 : decode cX4_isAsked 90 = .ok (.iload_n 3, 1) := by decide +kernel
theorem dX4_isAsked_91 : decode cX4_isAsked 91 = .ok (.ireturn, 1) := by decide +kernel
theorem dX4_isSound_0 : decode cX4_isSound 0 = .ok (.aload_n 0, 1) := by decide +kernel
theorem dX4_isSound_1 : decode cX4_isSound 1 = .ok (.getfield 7, 3) := by decide +kernel
theorem dX4_isSound_4 : decode cX4_isSound 4 = .ok (.iload_n 1, 1) := by decide +kernel
theorem dX4_isSound_5 : decode cX4_isSound 5 = .ok (.iaload, 1) := by decide +kernel
theorem dX4_isSound_6 : decode cX4_isSound 6 = .ok (.iload_n 2, 1) := by decide +kernel
theorem dX4_isSound_7 : decode cX4_isSound 7 = .ok (.if_icmp .gt 35, 3) := by decide +kernel
theorem dX4_isSound_10 : decode cX4_isSound 10 = .ok (.aload_n 0, 1) := by decide +kernel
theorem dX4_isSound_11 : decode cX4_isSound 11 = .ok (.getfield 22, 3) := by decide +kernel
theorem dX4_isSound_14 : decode cX4_isSound 14 = .ok (.iload_n 1, 1) := by decide +kernel
theorem dX4_isSound_15 : decode cX4_isSound 15 = .ok (.iaload, 1) := by decide +kernel
theorem dX4_isSound_16 : decode cX4_isSound 16 = .ok (.iconst 1, 1) := by decide +kernel
theorem dX4_isSound_17 : decode cX4_isSound 17 = .ok (.if_icmp .ne 12, 3) := by decide +kernel
theorem dX4_isSound_20 : decode cX4_isSound 20 = .ok (.aload_n 0, 1) := by decide +kernel
theorem dX4_isSound_21 : decode cX4_isSound 21 = .ok (.iload_n 1, 1) := by decide +kernel
theorem dX4_isSound_22 : decode cX4_isSound 22 = .ok (.iload_n 2, 1) := by decide +kernel
theorem dX4_isSound_23 : decode cX4_isSound 23 = .ok (.invokevirtual 107, 3) := by decide +kernel
theorem dX4_isSound_26 : decode cX4_isSound 26 = .ok (.ifCond .eq 16, 3) := by decide +kernel
theorem dX4_isSound_29 : decode cX4_isSound 29 = .ok (.aload_n 0, 1) := by decide +kernel
theorem dX4_isSound_30 : decode cX4_isSound 30 = .ok (.iload_n 1, 1) := by decide +kernel
theorem dX4_isSound_31 : decode cX4_isSound 31 = .ok (.iload_n 2, 1) := by decide +kernel
theorem dX4_isSound_32 : decode cX4_isSound 32 = .ok (.invokevirtual 118, 3) := by decide +kernel
theorem dX4_isSound_35 : decode cX4_isSound 35 = .ok (.ifCond .ne 7, 3) := by decide +kernel
theorem dX4_isSound_38 : decode cX4_isSound 38 = .ok (.iconst 1, 1) := by decide +kernel
theorem dX4_isSound_39 : decode cX4_isSound 39 = .ok (.goto 4, 3) := by decide +kernel
theorem dX4_isSound_42 : decode cX4_isSound 42 = .ok (.iconst 0, 1) := by decide +kernel
theorem dX4_isSound_43 : decode cX4_isSound 43 = .ok (.ireturn, 1) := by decide +kernel
theorem dX4_soundOf_0 : decode cX4_soundOf 0 = .ok (.iconst 0, 1) := by decide +kernel
theorem dX4_soundOf_1 : decode cX4_soundOf 1 = .ok (.istore_n 2, 1) := by decide +kernel
theorem dX4_soundOf_2 : decode cX4_soundOf 2 = .ok (.iconst 0, 1) := by decide +kernel
theorem dX4_soundOf_3 : decode cX4_soundOf 3 = .ok (.istore_n 3, 1) := by decide +kernel
theorem dX4_soundOf_4 : decode cX4_soundOf 4 = .ok (.iload_n 3, 1) := by decide +kernel
theorem dX4_soundOf_5 : decode cX4_soundOf 5 = .ok (.aload_n 0, 1) := by decide +kernel
theorem dX4_soundOf_6 : decode cX4_soundOf 6 = .ok (.getfield 61, 3) := by decide +kernel
theorem dX4_soundOf_9 : decode cX4_soundOf 9 = .ok (.if_icmp .ge 28, 3) := by decide +kernel
theorem dX4_soundOf_12 : decode cX4_soundOf 12 = .ok (.iload_n 2, 1) := by decide +kernel
theorem dX4_soundOf_13 : decode cX4_soundOf 13 = .ok (.aload_n 0, 1) := by decide +kernel
theorem dX4_soundOf_14 : decode cX4_soundOf 14 = .ok (.iload_n 3, 1) := by decide +kernel
theorem dX4_soundOf_15 : decode cX4_soundOf 15 = .ok (.iload_n 1, 1) := by decide +kernel
theorem dX4_soundOf_16 : decode cX4_soundOf 16 = .ok (.invokevirtual 121, 3) := by decide +kernel
theorem dX4_soundOf_19 : decode cX4_soundOf 19 = .ok (.ifCond .eq 9, 3) := by decide +kernel
theorem dX4_soundOf_22 : decode cX4_soundOf 22 = .ok (.iconst 1, 1) := by decide +kernel
theorem dX4_soundOf_23 : decode cX4_soundOf 23 = .ok (.iload_n 3, 1) := by decide +kernel
theorem dX4_soundOf_24 : decode cX4_soundOf 24 = .ok (.ishl, 1) := by decide +kernel
theorem dX4_soundOf_25 : decode cX4_soundOf 25 = .ok (.goto 4, 3) := by decide +kernel
theorem dX4_soundOf_28 : decode cX4_soundOf 28 = .ok (.iconst 0, 1) := by decide +kernel
theorem dX4_soundOf_29 : decode cX4_soundOf 29 = .ok (.ior, 1) := by decide +kernel
theorem dX4_soundOf_30 : decode cX4_soundOf 30 = .ok (.istore_n 2, 1) := by decide +kernel
theorem dX4_soundOf_31 : decode cX4_soundOf 31 = .ok (.iinc 3 1, 3) := by decide +kernel
theorem dX4_soundOf_34 : decode cX4_soundOf 34 = .ok (.goto (-30), 3) := by decide +kernel
theorem dX4_soundOf_37 : decode cX4_soundOf 37 = .ok (.iload_n 2, 1) := by decide +kernel
theorem dX4_soundOf_38 : decode cX4_soundOf 38 = .ok (.ireturn, 1) := by decide +kernel
theorem dX4_loose_0 : decode cX4_loose 0 = .ok (.iconst 0, 1) := by decide +kernel
theorem dX4_loose_1 : decode cX4_loose 1 = .ok (.istore_n 2, 1) := by decide +kernel
theorem dX4_loose_2 : decode cX4_loose 2 = .ok (.iconst 0, 1) := by decide +kernel
theorem dX4_loose_3 : decode cX4_loose 3 = .ok (.istore_n 3, 1) := by decide +kernel
theorem dX4_loose_4 : decode cX4_loose 4 = .ok (.iload_n 3, 1) := by decide +kernel
theorem dX4_loose_5 : decode cX4_loose 5 = .ok (.aload_n 0, 1) := by decide +kernel
theorem dX4_loose_6 : decode cX4_loose 6 = .ok (.getfield 61, 3) := by decide +kernel
theorem dX4_loose_9 : decode cX4_loose 9 = .ok (.if_icmp .ge 37, 3) := by decide +kernel
theorem dX4_loose_12 : decode cX4_loose 12 = .ok (.iload_n 2, 1) := by decide +kernel
theorem dX4_loose_13 : decode cX4_loose 13 = .ok (.iload_n 1, 1) := by decide +kernel
theorem dX4_loose_14 : decode cX4_loose 14 = .ok (.iload_n 3, 1) := by decide +kernel
theorem dX4_loose_15 : decode cX4_loose 15 = .ok (.ishr, 1) := by decide +kernel
theorem dX4_loose_16 : decode cX4_loose 16 = .ok (.iconst 1, 1) := by decide +kernel
theorem dX4_loose_17 : decode cX4_loose 17 = .ok (.iand, 1) := by decide +kernel
theorem dX4_loose_18 : decode cX4_loose 18 = .ok (.iconst 1, 1) := by decide +kernel
theorem dX4_loose_19 : decode cX4_loose 19 = .ok (.if_icmp .ne 18, 3) := by decide +kernel
theorem dX4_loose_22 : decode cX4_loose 22 = .ok (.aload_n 0, 1) := by decide +kernel
theorem dX4_loose_23 : decode cX4_loose 23 = .ok (.iload_n 3, 1) := by decide +kernel
theorem dX4_loose_24 : decode cX4_loose 24 = .ok (.iload_n 1, 1) := by decide +kernel
theorem dX4_loose_25 : decode cX4_loose 25 = .ok (.invokevirtual 124, 3) := by decide +kernel
theorem dX4_loose_28 : decode cX4_loose 28 = .ok (.ifCond .ne 9, 3) := by decide +kernel
theorem dX4_loose_31 : decode cX4_loose 31 = .ok (.iconst 1, 1) := by decide +kernel
theorem dX4_loose_32 : decode cX4_loose 32 = .ok (.iload_n 3, 1) := by decide +kernel
theorem dX4_loose_33 : decode cX4_loose 33 = .ok (.ishl, 1) := by decide +kernel
theorem dX4_loose_34 : decode cX4_loose 34 = .ok (.goto 4, 3) := by decide +kernel
theorem dX4_loose_37 : decode cX4_loose 37 = .ok (.iconst 0, 1) := by decide +kernel
theorem dX4_loose_38 : decode cX4_loose 38 = .ok (.ior, 1) := by decide +kernel
theorem dX4_loose_39 : decode cX4_loose 39 = .ok (.istore_n 2, 1) := by decide +kernel
theorem dX4_loose_40 : decode cX4_loose 40 = .ok (.iinc 3 1, 3) := by decide +kernel
theorem dX4_loose_43 : decode cX4_loose 43 = .ok (.goto (-39), 3) := by decide +kernel
theorem dX4_loose_46 : decode cX4_loose 46 = .ok (.iload_n 2, 1) := by decide +kernel
theorem dX4_loose_47 : decode cX4_loose 47 = .ok (.ireturn, 1) := by decide +kernel
theorem dX4_mostOf_0 : decode cX4_mostOf 0 = .ok (.iload_n 1, 1) := by decide +kernel
theorem dX4_mostOf_1 : decode cX4_mostOf 1 = .ok (.istore_n 2, 1) := by decide +kernel
theorem dX4_mostOf_2 : decode cX4_mostOf 2 = .ok (.aload_n 0, 1) := by decide +kernel
theorem dX4_mostOf_3 : decode cX4_mostOf 3 = .ok (.iload_n 2, 1) := by decide +kernel
theorem dX4_mostOf_4 : decode cX4_mostOf 4 = .ok (.invokevirtual 127, 3) := by decide +kernel
theorem dX4_mostOf_7 : decode cX4_mostOf 7 = .ok (.istore_n 3, 1) := by decide +kernel
theorem dX4_mostOf_8 : decode cX4_mostOf 8 = .ok (.iload_n 3, 1) := by decide +kernel
theorem dX4_mostOf_9 : decode cX4_mostOf 9 = .ok (.ifCond .eq 18, 3) := by decide +kernel
theorem dX4_mostOf_12 : decode cX4_mostOf 12 = .ok (.iload_n 2, 1) := by decide +kernel
theorem dX4_mostOf_13 : decode cX4_mostOf 13 = .ok (.iload_n 3, 1) := by decide +kernel
theorem dX4_mostOf_14 : decode cX4_mostOf 14 = .ok (.iconst (-1), 1) := by decide +kernel
theorem dX4_mostOf_15 : decode cX4_mostOf 15 = .ok (.ixor, 1) := by decide +kernel
theorem dX4_mostOf_16 : decode cX4_mostOf 16 = .ok (.iand, 1) := by decide +kernel
theorem dX4_mostOf_17 : decode cX4_mostOf 17 = .ok (.istore_n 2, 1) := by decide +kernel
theorem dX4_mostOf_18 : decode cX4_mostOf 18 = .ok (.aload_n 0, 1) := by decide +kernel
theorem dX4_mostOf_19 : decode cX4_mostOf 19 = .ok (.iload_n 2, 1) := by decide +kernel
theorem dX4_mostOf_20 : decode cX4_mostOf 20 = .ok (.invokevirtual 127, 3) := by decide +kernel
theorem dX4_mostOf_23 : decode cX4_mostOf 23 = .ok (.istore_n 3, 1) := by decide +kernel
theorem dX4_mostOf_24 : decode cX4_mostOf 24 = .ok (.goto (-16), 3) := by decide +kernel
theorem dX4_mostOf_27 : decode cX4_mostOf 27 = .ok (.iload_n 2, 1) := by decide +kernel
theorem dX4_mostOf_28 : decode cX4_mostOf 28 = .ok (.ireturn, 1) := by decide +kernel
theorem dX4_leastOf_0 : decode cX4_leastOf 0 = .ok (.iconst 0, 1) := by decide +kernel
theorem dX4_leastOf_1 : decode cX4_leastOf 1 = .ok (.istore_n 2, 1) := by decide +kernel
theorem dX4_leastOf_2 : decode cX4_leastOf 2 = .ok (.iconst (-1), 1) := by decide +kernel
theorem dX4_leastOf_3 : decode cX4_leastOf 3 = .ok (.istore_n 3, 1) := by decide +kernel
theorem dX4_leastOf_4 : decode cX4_leastOf 4 = .ok (.iload_n 3, 1) := by decide +kernel
theorem dX4_leastOf_5 : decode cX4_leastOf 5 = .ok (.iload_n 2, 1) := by decide +kernel
theorem dX4_leastOf_6 : decode cX4_leastOf 6 = .ok (.if_icmp .eq 57, 3) := by decide +kernel
theorem dX4_leastOf_9 : decode cX4_leastOf 9 = .ok (.iload_n 2, 1) := by decide +kernel
theorem dX4_leastOf_10 : decode cX4_leastOf 10 = .ok (.istore_n 3, 1) := by decide +kernel
theorem dX4_leastOf_11 : decode cX4_leastOf 11 = .ok (.iconst 0, 1) := by decide +kernel
theorem dX4_leastOf_12 : decode cX4_leastOf 12 = .ok (.istore 4, 2) := by decide +kernel
theorem dX4_leastOf_14 : decode cX4_leastOf 14 = .ok (.iload 4, 2) := by decide +kernel
theorem dX4_leastOf_16 : decode cX4_leastOf 16 = .ok (.aload_n 0, 1) := by decide +kernel
theorem dX4_leastOf_17 : decode cX4_leastOf 17 = .ok (.getfield 61, 3) := by decide +kernel
theorem dX4_leastOf_20 : decode cX4_leastOf 20 = .ok (.if_icmp .ge 40, 3) := by decide +kernel
theorem dX4_leastOf_23 : decode cX4_leastOf 23 = .ok (.iload_n 2, 1) := by decide +kernel
theorem dX4_leastOf_24 : decode cX4_leastOf 24 = .ok (.iload_n 1, 1) := by decide +kernel
theorem dX4_leastOf_25 : decode cX4_leastOf 25 = .ok (.iload 4, 2) := by decide +kernel
theorem dX4_leastOf_27 : decode cX4_leastOf 27 = .ok (.ishr, 1) := by decide +kernel
theorem dX4_leastOf_28 : decode cX4_leastOf 28 = .ok (.iconst 1, 1) := by decide +kernel
theorem dX4_leastOf_29 : decode cX4_leastOf 29 = .ok (.iand, 1) := by decide +kernel
theorem dX4_leastOf_30 : decode cX4_leastOf 30 = .ok (.iconst 1, 1) := by decide +kernel
theorem dX4_leastOf_31 : decode cX4_leastOf 31 = .ok (.if_icmp .ne 20, 3) := by decide +kernel
theorem dX4_leastOf_34 : decode cX4_leastOf 34 = .ok (.aload_n 0, 1) := by decide +kernel
theorem dX4_leastOf_35 : decode cX4_leastOf 35 = .ok (.iload 4, 2) := by decide +kernel
theorem dX4_leastOf_37 : decode cX4_leastOf 37 = .ok (.iload_n 3, 1) := by decide +kernel
theorem dX4_leastOf_38 : decode cX4_leastOf 38 = .ok (.invokevirtual 124, 3) := by decide +kernel
theorem dX4_leastOf_41 : decode cX4_leastOf 41 = .ok (.ifCond .eq 10, 3) := by decide +kernel
theorem dX4_leastOf_44 : decode cX4_leastOf 44 = .ok (.iconst 1, 1) := by decide +kernel
theorem dX4_leastOf_45 : decode cX4_leastOf 45 = .ok (.iload 4, 2) := by decide +kernel
theorem dX4_leastOf_47 : decode cX4_leastOf 47 = .ok (.ishl, 1) := by decide +kernel
theorem dX4_leastOf_48 : decode cX4_leastOf 48 = .ok (.goto 4, 3) := by decide +kernel
theorem dX4_leastOf_51 : decode cX4_leastOf 51 = .ok (.iconst 0, 1) := by decide +kernel
theorem dX4_leastOf_52 : decode cX4_leastOf 52 = .ok (.ior, 1) := by decide +kernel
theorem dX4_leastOf_53 : decode cX4_leastOf 53 = .ok (.istore_n 2, 1) := by decide +kernel
theorem dX4_leastOf_54 : decode cX4_leastOf 54 = .ok (.iinc 4 1, 3) := by decide +kernel
theorem dX4_leastOf_57 : decode cX4_leastOf 57 = .ok (.goto (-43), 3) := by decide +kernel
theorem dX4_leastOf_60 : decode cX4_leastOf 60 = .ok (.goto (-56), 3) := by decide +kernel
theorem dX4_leastOf_63 : decode cX4_leastOf 63 = .ok (.iload_n 2, 1) := by decide +kernel
theorem dX4_leastOf_64 : decode cX4_leastOf 64 = .ok (.ireturn, 1) := by decide +kernel
theorem dX4_standing_0 : decode cX4_standing 0 = .ok (.aload_n 0, 1) := by decide +kernel
theorem dX4_standing_1 : decode cX4_standing 1 = .ok (.aload_n 0, 1) := by decide +kernel
theorem dX4_standing_2 : decode cX4_standing 2 = .ok (.iload_n 1, 1) := by decide +kernel
theorem dX4_standing_3 : decode cX4_standing 3 = .ok (.invokevirtual 131, 3) := by decide +kernel
theorem dX4_standing_6 : decode cX4_standing 6 = .ok (.invokevirtual 134, 3) := by decide +kernel
theorem dX4_standing_9 : decode cX4_standing 9 = .ok (.ireturn, 1) := by decide +kernel
theorem dX4_all_0 : decode cX4_all 0 = .ok (.iload_n 1, 1) := by decide +kernel
theorem dX4_all_1 : decode cX4_all 1 = .ok (.invokestatic 68, 3) := by decide +kernel
theorem dX4_all_4 : decode cX4_all 4 = .ok (.ifCond .eq 15, 3) := by decide +kernel
theorem dX4_all_7 : decode cX4_all 7 = .ok (.iload_n 2, 1) := by decide +kernel
theorem dX4_all_8 : decode cX4_all 8 = .ok (.i2l, 1) := by decide +kernel
theorem dX4_all_9 : decode cX4_all 9 = .ok (.lconst 0, 1) := by decide +kernel
theorem dX4_all_10 : decode cX4_all 10 = .ok (.ldc2_w 137, 3) := by decide +kernel
theorem dX4_all_13 : decode cX4_all 13 = .ok (.invokestatic 55, 3) := by decide +kernel
theorem dX4_all_16 : decode cX4_all 16 = .ok (.ifCond .ne 6, 3) := by decide +kernel
theorem dX4_all_19 : decode cX4_all 19 = .ok (.bipush (-2), 2) := by decide +kernel
theorem dX4_all_21 : decode cX4_all 21 = .ok (.ireturn, 1) := by decide +kernel
theorem dX4_all_22 : decode cX4_all 22 = .ok (.aload_n 0, 1) := by decide +kernel
theorem dX4_all_23 : decode cX4_all 23 = .ok (.iload_n 1, 1) := by decide +kernel
theorem dX4_all_24 : decode cX4_all 24 = .ok (.invokevirtual 131, 3) := by decide +kernel
theorem dX4_all_27 : decode cX4_all 27 = .ok (.istore_n 3, 1) := by decide +kernel
theorem dX4_all_28 : decode cX4_all 28 = .ok (.iload_n 2, 1) := by decide +kernel
theorem dX4_all_29 : decode cX4_all 29 = .ok (.ifCond .ne 7, 3) := by decide +kernel
theorem dX4_all_32 : decode cX4_all 32 = .ok (.iload_n 3, 1) := by decide +kernel
theorem dX4_all_33 : decode cX4_all 33 = .ok (.goto 21, 3) := by decide +kernel
theorem dX4_all_36 : decode cX4_all 36 = .ok (.iload_n 2, 1) := by decide +kernel
theorem dX4_all_37 : decode cX4_all 37 = .ok (.iconst 1, 1) := by decide +kernel
theorem dX4_all_38 : decode cX4_all 38 = .ok (.if_icmp .ne 11, 3) := by decide +kernel
theorem dX4_all_41 : decode cX4_all 41 = .ok (.aload_n 0, 1) := by decide +kernel
theorem dX4_all_42 : decode cX4_all 42 = .ok (.iload_n 3, 1) := by decide +kernel
theorem dX4_all_43 : decode cX4_all 43 = .ok (.invokevirtual 134, 3) := by decide +kernel
theorem dX4_all_46 : decode cX4_all 46 = .ok (.goto 8, 3) := by decide +kernel
theorem dX4_all_49 : decode cX4_all 49 = .ok (.aload_n 0, 1) := by decide +kernel
theorem dX4_all_50 : decode cX4_all 50 = .ok (.iload_n 3, 1) := by decide +kernel
theorem dX4_all_51 : decode cX4_all 51 = .ok (.invokevirtual 139, 3) := by decide +kernel
theorem dX4_all_54 : decode cX4_all 54 = .ok (.ireturn, 1) := by decide +kernel
theorem dX4_why_0 : decode cX4_why 0 = .ok (.aload_n 0, 1) := by decide +kernel
theorem dX4_why_1 : decode cX4_why 1 = .ok (.iload_n 1, 1) := by decide +kernel
theorem dX4_why_2 : decode cX4_why 2 = .ok (.invokevirtual 71, 3) := by decide +kernel
theorem dX4_why_5 : decode cX4_why 5 = .ok (.ifCond .ne 5, 3) := by decide +kernel
theorem dX4_why_8 : decode cX4_why 8 = .ok (.iconst (-1), 1) := by decide +kernel
theorem dX4_why_9 : decode cX4_why 9 = .ok (.ireturn, 1) := by decide +kernel
theorem dX4_why_10 : decode cX4_why 10 = .ok (.iload_n 2, 1) := by decide +kernel
theorem dX4_why_11 : decode cX4_why 11 = .ok (.invokestatic 68, 3) := by decide +kernel
theorem dX4_why_14 : decode cX4_why 14 = .ok (.ifCond .ne 6, 3) := by decide +kernel
theorem dX4_why_17 : decode cX4_why 17 = .ok (.bipush (-2), 2) := by decide +kernel
theorem dX4_why_19 : decode cX4_why 19 = .ok (.ireturn, 1) := by decide +kernel
theorem dX4_why_20 : decode cX4_why 20 = .ok (.aload_n 0, 1) := by decide +kernel
theorem dX4_why_21 : decode cX4_why 21 = .ok (.iload_n 2, 1) := by decide +kernel
theorem dX4_why_22 : decode cX4_why 22 = .ok (.invokevirtual 142, 3) := by decide +kernel
theorem dX4_why_25 : decode cX4_why 25 = .ok (.iload_n 1, 1) := by decide +kernel
theorem dX4_why_26 : decode cX4_why 26 = .ok (.ishr, 1) := by decide +kernel
theorem dX4_why_27 : decode cX4_why 27 = .ok (.iconst 1, 1) := by decide +kernel
theorem dX4_why_28 : decode cX4_why 28 = .ok (.iand, 1) := by decide +kernel
theorem dX4_why_29 : decode cX4_why 29 = .ok (.iconst 1, 1) := by decide +kernel
theorem dX4_why_30 : decode cX4_why 30 = .ok (.if_icmp .ne 5, 3) := by decide +kernel
theorem dX4_why_33 : decode cX4_why 33 = .ok (.iconst 0, 1) := by decide +kernel
theorem dX4_why_34 : decode cX4_why 34 = .ok (.ireturn, 1) := by decide +kernel
theorem dX4_why_35 : decode cX4_why 35 = .ok (.aload_n 0, 1) := by decide +kernel
theorem dX4_why_36 : decode cX4_why 36 = .ok (.getfield 7, 3) := by decide +kernel
theorem dX4_why_39 : decode cX4_why 39 = .ok (.iload_n 1, 1) := by decide +kernel
theorem dX4_why_40 : decode cX4_why 40 = .ok (.iaload, 1) := by decide +kernel
theorem dX4_why_41 : decode cX4_why 41 = .ok (.iload_n 2, 1) := by decide +kernel
theorem dX4_why_42 : decode cX4_why 42 = .ok (.if_icmp .le 5, 3) := by decide +kernel
theorem dX4_why_45 : decode cX4_why 45 = .ok (.iconst 1, 1) := by decide +kernel
theorem dX4_why_46 : decode cX4_why 46 = .ok (.ireturn, 1) := by decide +kernel
theorem dX4_why_47 : decode cX4_why 47 = .ok (.aload_n 0, 1) := by decide +kernel
theorem dX4_why_48 : decode cX4_why 48 = .ok (.getfield 22, 3) := by decide +kernel
theorem dX4_why_51 : decode cX4_why 51 = .ok (.iload_n 1, 1) := by decide +kernel
theorem dX4_why_52 : decode cX4_why 52 = .ok (.iaload, 1) := by decide +kernel
theorem dX4_why_53 : decode cX4_why 53 = .ok (.iconst 1, 1) := by decide +kernel
theorem dX4_why_54 : decode cX4_why 54 = .ok (.if_icmp .ne 16, 3) := by decide +kernel
theorem dX4_why_57 : decode cX4_why 57 = .ok (.aload_n 0, 1) := by decide +kernel
theorem dX4_why_58 : decode cX4_why 58 = .ok (.iload_n 1, 1) := by decide +kernel
theorem dX4_why_59 : decode cX4_why 59 = .ok (.iload_n 2, 1) := by decide +kernel
theorem dX4_why_60 : decode cX4_why 60 = .ok (.invokevirtual 107, 3) := by decide +kernel
theorem dX4_why_63 : decode cX4_why 63 = .ok (.ifCond .ne 7, 3) := by decide +kernel
theorem dX4_why_66 : decode cX4_why 66 = .ok (.iconst 2, 1) := by decide +kernel
theorem dX4_why_67 : decode cX4_why 67 = .ok (.goto 17, 3) := by decide +kernel
theorem dX4_why_70 : decode cX4_why 70 = .ok (.aload_n 0, 1) := by decide +kernel
theorem dX4_why_71 : decode cX4_why 71 = .ok (.iload_n 1, 1) := by decide +kernel
theorem dX4_why_72 : decode cX4_why 72 = .ok (.iload_n 2, 1) := by decide +kernel
theorem dX4_why_73 : decode cX4_why 73 = .ok (.invokevirtual 118, 3) := by decide +kernel
theorem dX4_why_76 : decode cX4_why 76 = .ok (.ifCond .eq 7, 3) := by decide +kernel
theorem dX4_why_79 : decode cX4_why 79 = .ok (.iconst 3, 1) := by decide +kernel
theorem dX4_why_80 : decode cX4_why 80 = .ok (.goto 4, 3) := by decide +kernel
theorem dX4_why_83 : decode cX4_why 83 = .ok (.iconst 4, 1) := by decide +kernel
theorem dX4_why_84 : decode cX4_why 84 = .ok (.ireturn, 1) := by decide +kernel
theorem dX4_namedBy_0 : decode cX4_namedBy 0 = .ok (.iconst 0, 1) := by decide +kernel
theorem dX4_namedBy_1 : decode cX4_namedBy 1 = .ok (.istore_n 2, 1) := by decide +kernel
theorem dX4_namedBy_2 : decode cX4_namedBy 2 = .ok (.iconst 0, 1) := by decide +kernel
theorem dX4_namedBy_3 : decode cX4_namedBy 3 = .ok (.istore_n 3, 1) := by decide +kernel
theorem dX4_namedBy_4 : decode cX4_namedBy 4 = .ok (.iload_n 3, 1) := by decide +kernel
theorem dX4_namedBy_5 : decode cX4_namedBy 5 = .ok (.aload_n 0, 1) := by decide +kernel
theorem dX4_namedBy_6 : decode cX4_namedBy 6 = .ok (.getfield 34, 3) := by decide +kernel
theorem dX4_namedBy_9 : decode cX4_namedBy 9 = .ok (.iload_n 1, 1) := by decide +kernel
theorem dX4_namedBy_10 : decode cX4_namedBy 10 = .ok (.iaload, 1) := by decide +kernel
theorem dX4_namedBy_11 : decode cX4_namedBy 11 = .ok (.if_icmp .ge 23, 3) := by decide +kernel
theorem dX4_namedBy_14 : decode cX4_namedBy 14 = .ok (.iload_n 2, 1) := by decide +kernel
theorem dX4_namedBy_15 : decode cX4_namedBy 15 = .ok (.aload_n 0, 1) := by decide +kernel
theorem dX4_namedBy_16 : decode cX4_namedBy 16 = .ok (.getfield 31, 3) := by decide +kernel
theorem dX4_namedBy_19 : decode cX4_namedBy 19 = .ok (.bipush 20, 2) := by decide +kernel
theorem dX4_namedBy_21 : decode cX4_namedBy 21 = .ok (.iload_n 1, 1) := by decide +kernel
theorem dX4_namedBy_22 : decode cX4_namedBy 22 = .ok (.imul, 1) := by decide +kernel
theorem dX4_namedBy_23 : decode cX4_namedBy 23 = .ok (.iload_n 3, 1) := by decide +kernel
theorem dX4_namedBy_24 : decode cX4_namedBy 24 = .ok (.iadd, 1) := by decide +kernel
theorem dX4_namedBy_25 : decode cX4_namedBy 25 = .ok (.iaload, 1) := by decide +kernel
theorem dX4_namedBy_26 : decode cX4_namedBy 26 = .ok (.ior, 1) := by decide +kernel
theorem dX4_namedBy_27 : decode cX4_namedBy 27 = .ok (.istore_n 2, 1) := by decide +kernel
theorem dX4_namedBy_28 : decode cX4_namedBy 28 = .ok (.iinc 3 1, 3) := by decide +kernel
theorem dX4_namedBy_31 : decode cX4_namedBy 31 = .ok (.goto (-27), 3) := by decide +kernel
theorem dX4_namedBy_34 : decode cX4_namedBy 34 = .ok (.iload_n 2, 1) := by decide +kernel
theorem dX4_namedBy_35 : decode cX4_namedBy 35 = .ok (.iconst 1, 1) := by decide +kernel
theorem dX4_namedBy_36 : decode cX4_namedBy 36 = .ok (.aload_n 0, 1) := by decide +kernel
theorem dX4_namedBy_37 : decode cX4_namedBy 37 = .ok (.getfield 61, 3) := by decide +kernel
theorem dX4_namedBy_40 : decode cX4_namedBy 40 = .ok (.ishl, 1) := by decide +kernel
theorem dX4_namedBy_41 : decode cX4_namedBy 41 = .ok (.iconst 1, 1) := by decide +kernel
theorem dX4_namedBy_42 : decode cX4_namedBy 42 = .ok (.isub, 1) := by decide +kernel
theorem dX4_namedBy_43 : decode cX4_namedBy 43 = .ok (.iand, 1) := by decide +kernel
theorem dX4_namedBy_44 : decode cX4_namedBy 44 = .ok (.ireturn, 1) := by decide +kernel
theorem dX4_under_0 : decode cX4_under 0 = .ok (.aload_n 0, 1) := by decide +kernel
theorem dX4_under_1 : decode cX4_under 1 = .ok (.iload_n 1, 1) := by decide +kernel
theorem dX4_under_2 : decode cX4_under 2 = .ok (.invokevirtual 71, 3) := by decide +kernel
theorem dX4_under_5 : decode cX4_under 5 = .ok (.ifCond .ne 5, 3) := by decide +kernel
theorem dX4_under_8 : decode cX4_under 8 = .ok (.iconst (-1), 1) := by decide +kernel
theorem dX4_under_9 : decode cX4_under 9 = .ok (.ireturn, 1) := by decide +kernel
theorem dX4_under_10 : decode cX4_under 10 = .ok (.aload_n 0, 1) := by decide +kernel
theorem dX4_under_11 : decode cX4_under 11 = .ok (.iload_n 1, 1) := by decide +kernel
theorem dX4_under_12 : decode cX4_under 12 = .ok (.invokevirtual 145, 3) := by decide +kernel
theorem dX4_under_15 : decode cX4_under 15 = .ok (.istore_n 2, 1) := by decide +kernel
theorem dX4_under_16 : decode cX4_under 16 = .ok (.iconst 0, 1) := by decide +kernel
theorem dX4_under_17 : decode cX4_under 17 = .ok (.istore_n 3, 1) := by decide +kernel
theorem dX4_under_18 : decode cX4_under 18 = .ok (.iload_n 3, 1) := by decide +kernel
theorem dX4_under_19 : decode cX4_under 19 = .ok (.iload_n 2, 1) := by decide +kernel
theorem dX4_under_20 : decode cX4_under 20 = .ok (.if_icmp .eq 49, 3) := by decide +kernel
theorem dX4_under_23 : decode cX4_under 23 = .ok (.iload_n 2, 1) := by decide +kernel
theorem dX4_under_24 : decode cX4_under 24 = .ok (.istore_n 3, 1) := by decide +kernel
theorem dX4_under_25 : decode cX4_under 25 = .ok (.iconst 0, 1) := by decide +kernel
theorem dX4_under_26 : decode cX4_under 26 = .ok (.istore 4, 2) := by decide +kernel
theorem dX4_under_28 : decode cX4_under 28 = .ok (.iload 4, 2) := by decide +kernel
theorem dX4_under_30 : decode cX4_under 30 = .ok (.aload_n 0, 1) := by decide +kernel
theorem dX4_under_31 : decode cX4_under 31 = .ok (.getfield 61, 3) := by decide +kernel
theorem dX4_under_34 : decode cX4_under 34 = .ok (.if_icmp .ge 32, 3) := by decide +kernel
theorem dX4_under_37 : decode cX4_under 37 = .ok (.iload_n 2, 1) := by decide +kernel
theorem dX4_under_38 : decode cX4_under 38 = .ok (.iload_n 3, 1) := by decide +kernel
theorem dX4_under_39 : decode cX4_under 39 = .ok (.iload 4, 2) := by decide +kernel
theorem dX4_under_41 : decode cX4_under 41 = .ok (.ishr, 1) := by decide +kernel
theorem dX4_under_42 : decode cX4_under 42 = .ok (.iconst 1, 1) := by decide +kernel
theorem dX4_under_43 : decode cX4_under 43 = .ok (.iand, 1) := by decide +kernel
theorem dX4_under_44 : decode cX4_under 44 = .ok (.iconst 1, 1) := by decide +kernel
theorem dX4_under_45 : decode cX4_under 45 = .ok (.if_icmp .ne 12, 3) := by decide +kernel
theorem dX4_under_48 : decode cX4_under 48 = .ok (.aload_n 0, 1) := by decide +kernel
theorem dX4_under_49 : decode cX4_under 49 = .ok (.iload 4, 2) := by decide +kernel
theorem dX4_under_51 : decode cX4_under 51 = .ok (.invokevirtual 145, 3) := by decide +kernel
theorem dX4_under_54 : decode cX4_under 54 = .ok (.goto 4, 3) := by decide +kernel
theorem dX4_under_57 : decode cX4_under 57 = .ok (.iconst 0, 1) := by decide +kernel
theorem dX4_under_58 : decode cX4_under 58 = .ok (.ior, 1) := by decide +kernel
theorem dX4_under_59 : decode cX4_under 59 = .ok (.istore_n 2, 1) := by decide +kernel
theorem dX4_under_60 : decode cX4_under 60 = .ok (.iinc 4 1, 3) := by decide +kernel
theorem dX4_under_63 : decode cX4_under 63 = .ok (.goto (-35), 3) := by decide +kernel
theorem dX4_under_66 : decode cX4_under 66 = .ok (.goto (-48), 3) := by decide +kernel
theorem dX4_under_69 : decode cX4_under 69 = .ok (.iload_n 2, 1) := by decide +kernel
theorem dX4_under_70 : decode cX4_under 70 = .ok (.ireturn, 1) := by decide +kernel
theorem dX4_fallOf_0 : decode cX4_fallOf 0 = .ok (.aload_n 0, 1) := by decide +kernel
theorem dX4_fallOf_1 : decode cX4_fallOf 1 = .ok (.iload_n 2, 1) := by decide +kernel
theorem dX4_fallOf_2 : decode cX4_fallOf 2 = .ok (.invokevirtual 131, 3) := by decide +kernel
theorem dX4_fallOf_5 : decode cX4_fallOf 5 = .ok (.istore_n 3, 1) := by decide +kernel
theorem dX4_fallOf_6 : decode cX4_fallOf 6 = .ok (.aload_n 0, 1) := by decide +kernel
theorem dX4_fallOf_7 : decode cX4_fallOf 7 = .ok (.iload_n 3, 1) := by decide +kernel
theorem dX4_fallOf_8 : decode cX4_fallOf 8 = .ok (.invokevirtual 134, 3) := by decide +kernel
theorem dX4_fallOf_11 : decode cX4_fallOf 11 = .ok (.aload_n 0, 1) := by decide +kernel
theorem dX4_fallOf_12 : decode cX4_fallOf 12 = .ok (.iload_n 3, 1) := by decide +kernel
theorem dX4_fallOf_13 : decode cX4_fallOf 13 = .ok (.iconst 1, 1) := by decide +kernel
theorem dX4_fallOf_14 : decode cX4_fallOf 14 = .ok (.iload_n 1, 1) := by decide +kernel
theorem dX4_fallOf_15 : decode cX4_fallOf 15 = .ok (.ishl, 1) := by decide +kernel
theorem dX4_fallOf_16 : decode cX4_fallOf 16 = .ok (.iconst (-1), 1) := by decide +kernel
theorem dX4_fallOf_17 : decode cX4_fallOf 17 = .ok (.ixor, 1) := by decide +kernel
theorem dX4_fallOf_18 : decode cX4_fallOf 18 = .ok (.iand, 1) := by decide +kernel
theorem dX4_fallOf_19 : decode cX4_fallOf 19 = .ok (.invokevirtual 134, 3) := by decide +kernel
theorem dX4_fallOf_22 : decode cX4_fallOf 22 = .ok (.iconst (-1), 1) := by decide +kernel
theorem dX4_fallOf_23 : decode cX4_fallOf 23 = .ok (.ixor, 1) := by decide +kernel
theorem dX4_fallOf_24 : decode cX4_fallOf 24 = .ok (.iand, 1) := by decide +kernel
theorem dX4_fallOf_25 : decode cX4_fallOf 25 = .ok (.ireturn, 1) := by decide +kernel
theorem dX4_fall_0 : decode cX4_fall 0 = .ok (.aload_n 0, 1) := by decide +kernel
theorem dX4_fall_1 : decode cX4_fall 1 = .ok (.iload_n 1, 1) := by decide +kernel
theorem dX4_fall_2 : decode cX4_fall 2 = .ok (.invokevirtual 71, 3) := by decide +kernel
theorem dX4_fall_5 : decode cX4_fall 5 = .ok (.ifCond .eq 10, 3) := by decide +kernel
theorem dX4_fall_8 : decode cX4_fall 8 = .ok (.iload_n 2, 1) := by decide +kernel
theorem dX4_fall_9 : decode cX4_fall 9 = .ok (.invokestatic 64, 3) := by decide +kernel
theorem dX4_fall_12 : decode cX4_fall 12 = .ok (.ifCond .ne 5, 3) := by decide +kernel
theorem dX4_fall_15 : decode cX4_fall 15 = .ok (.iconst (-1), 1) := by decide +kernel
theorem dX4_fall_16 : decode cX4_fall 16 = .ok (.ireturn, 1) := by decide +kernel
theorem dX4_fall_17 : decode cX4_fall 17 = .ok (.iload_n 3, 1) := by decide +kernel
theorem dX4_fall_18 : decode cX4_fall 18 = .ok (.invokestatic 68, 3) := by decide +kernel
theorem dX4_fall_21 : decode cX4_fall 21 = .ok (.ifCond .ne 6, 3) := by decide +kernel
theorem dX4_fall_24 : decode cX4_fall 24 = .ok (.bipush (-2), 2) := by decide +kernel
theorem dX4_fall_26 : decode cX4_fall 26 = .ok (.ireturn, 1) := by decide +kernel
theorem dX4_fall_27 : decode cX4_fall 27 = .ok (.aload_n 0, 1) := by decide +kernel
theorem dX4_fall_28 : decode cX4_fall 28 = .ok (.iload_n 1, 1) := by decide +kernel
theorem dX4_fall_29 : decode cX4_fall 29 = .ok (.iload_n 2, 1) := by decide +kernel
theorem dX4_fall_30 : decode cX4_fall 30 = .ok (.iload_n 3, 1) := by decide +kernel
theorem dX4_fall_31 : decode cX4_fall 31 = .ok (.invokevirtual 111, 3) := by decide +kernel
theorem dX4_fall_34 : decode cX4_fall 34 = .ok (.ifCond .ne 6, 3) := by decide +kernel
theorem dX4_fall_37 : decode cX4_fall 37 = .ok (.bipush (-5), 2) := by decide +kernel
theorem dX4_fall_39 : decode cX4_fall 39 = .ok (.ireturn, 1) := by decide +kernel
theorem dX4_fall_40 : decode cX4_fall 40 = .ok (.aload_n 0, 1) := by decide +kernel
theorem dX4_fall_41 : decode cX4_fall 41 = .ok (.iload_n 3, 1) := by decide +kernel
theorem dX4_fall_42 : decode cX4_fall 42 = .ok (.invokevirtual 142, 3) := by decide +kernel
theorem dX4_fall_45 : decode cX4_fall 45 = .ok (.istore 5, 2) := by decide +kernel
theorem dX4_fall_47 : decode cX4_fall 47 = .ok (.iload 5, 2) := by decide +kernel
theorem dX4_fall_49 : decode cX4_fall 49 = .ok (.iconst 1, 1) := by decide +kernel
theorem dX4_fall_50 : decode cX4_fall 50 = .ok (.iload_n 1, 1) := by decide +kernel
theorem dX4_fall_51 : decode cX4_fall 51 = .ok (.ishl, 1) := by decide +kernel
theorem dX4_fall_52 : decode cX4_fall 52 = .ok (.iand, 1) := by decide +kernel
theorem dX4_fall_53 : decode cX4_fall 53 = .ok (.istore 6, 2) := by decide +kernel
theorem dX4_fall_55 : decode cX4_fall 55 = .ok (.iload 4, 2) := by decide +kernel
theorem dX4_fall_57 : decode cX4_fall 57 = .ok (.bipush (-2), 2) := by decide +kernel
theorem dX4_fall_59 : decode cX4_fall 59 = .ok (.if_icmp .ne 10, 3) := by decide +kernel
theorem dX4_fall_62 : decode cX4_fall 62 = .ok (.aload_n 0, 1) := by decide +kernel
theorem dX4_fall_63 : decode cX4_fall 63 = .ok (.iload_n 1, 1) := by decide +kernel
theorem dX4_fall_64 : decode cX4_fall 64 = .ok (.iload_n 3, 1) := by decide +kernel
theorem dX4_fall_65 : decode cX4_fall 65 = .ok (.invokevirtual 148, 3) := by decide +kernel
theorem dX4_fall_68 : decode cX4_fall 68 = .ok (.ireturn, 1) := by decide +kernel
theorem dX4_fall_69 : decode cX4_fall 69 = .ok (.iconst 0, 1) := by decide +kernel
theorem dX4_fall_70 : decode cX4_fall 70 = .ok (.istore 7, 2) := by decide +kernel
theorem dX4_fall_72 : decode cX4_fall 72 = .ok (.iload 6, 2) := by decide +kernel
theorem dX4_fall_74 : decode cX4_fall 74 = .ok (.ifCond .eq 36, 3) := by decide +kernel
theorem dX4_fall_77 : decode cX4_fall 77 = .ok (.iload 7, 2) := by decide +kernel
theorem dX4_fall_79 : decode cX4_fall 79 = .ok (.iload 4, 2) := by decide +kernel
theorem dX4_fall_81 : decode cX4_fall 81 = .ok (.if_icmp .ne 6, 3) := by decide +kernel
theorem dX4_fall_84 : decode cX4_fall 84 = .ok (.iload 6, 2) := by decide +kernel
theorem dX4_fall_86 : decode cX4_fall 86 = .ok (.ireturn, 1) := by decide +kernel
theorem dX4_fall_87 : decode cX4_fall 87 = .ok (.iinc 7 1, 3) := by decide +kernel
theorem dX4_fall_90 : decode cX4_fall 90 = .ok (.iload 5, 2) := by decide +kernel
theorem dX4_fall_92 : decode cX4_fall 92 = .ok (.iload 6, 2) := by decide +kernel
theorem dX4_fall_94 : decode cX4_fall 94 = .ok (.iconst (-1), 1) := by decide +kernel
theorem dX4_fall_95 : decode cX4_fall 95 = .ok (.ixor, 1) := by decide +kernel
theorem dX4_fall_96 : decode cX4_fall 96 = .ok (.iand, 1) := by decide +kernel
theorem dX4_fall_97 : decode cX4_fall 97 = .ok (.istore 5, 2) := by decide +kernel
theorem dX4_fall_99 : decode cX4_fall 99 = .ok (.aload_n 0, 1) := by decide +kernel
theorem dX4_fall_100 : decode cX4_fall 100 = .ok (.iload 5, 2) := by decide +kernel
theorem dX4_fall_102 : decode cX4_fall 102 = .ok (.invokevirtual 127, 3) := by decide +kernel
theorem dX4_fall_105 : decode cX4_fall 105 = .ok (.istore 6, 2) := by decide +kernel
theorem dX4_fall_107 : decode cX4_fall 107 = .ok (.goto (-35), 3) := by decide +kernel
theorem dX4_fall_110 : decode cX4_fall 110 = .ok (.iload 4, 2) := by decide +kernel
theorem dX4_fall_112 : decode cX4_fall 112 = .ok (.iconst (-1), 1) := by decide +kernel
theorem dX4_fall_113 : decode cX4_fall 113 = .ok (.if_icmp .ne 8, 3) := by decide +kernel
theorem dX4_fall_116 : decode cX4_fall 116 = .ok (.iload 7, 2) := by decide +kernel
theorem dX4_fall_118 : decode cX4_fall 118 = .ok (.goto 5, 3) := by decide +kernel
theorem dX4_fall_121 : decode cX4_fall 121 = .ok (.bipush (-6), 2) := by decide +kernel
theorem dX4_fall_123 : decode cX4_fall 123 = .ok (.ireturn, 1) := by decide +kernel
theorem dX4_backOf_0 : decode cX4_backOf 0 = .ok (.aload_n 0, 1) := by decide +kernel
theorem dX4_backOf_1 : decode cX4_backOf 1 = .ok (.iload_n 1, 1) := by decide +kernel
theorem dX4_backOf_2 : decode cX4_backOf 2 = .ok (.iload_n 2, 1) := by decide +kernel
theorem dX4_backOf_3 : decode cX4_backOf 3 = .ok (.invokevirtual 148, 3) := by decide +kernel
theorem dX4_backOf_6 : decode cX4_backOf 6 = .ok (.istore 4, 2) := by decide +kernel
theorem dX4_backOf_8 : decode cX4_backOf 8 = .ok (.iconst 0, 1) := by decide +kernel
theorem dX4_backOf_9 : decode cX4_backOf 9 = .ok (.istore 5, 2) := by decide +kernel
theorem dX4_backOf_11 : decode cX4_backOf 11 = .ok (.iconst 0, 1) := by decide +kernel
theorem dX4_backOf_12 : decode cX4_backOf 12 = .ok (.istore 6, 2) := by decide +kernel
theorem dX4_backOf_14 : decode cX4_backOf 14 = .ok (.iload 6, 2) := by decide +kernel
theorem dX4_backOf_16 : decode cX4_backOf 16 = .ok (.aload_n 0, 1) := by decide +kernel
theorem dX4_backOf_17 : decode cX4_backOf 17 = .ok (.getfield 61, 3) := by decide +kernel
theorem dX4_backOf_20 : decode cX4_backOf 20 = .ok (.if_icmp .ge 94, 3) := by decide +kernel
theorem dX4_backOf_23 : decode cX4_backOf 23 = .ok (.iload 4, 2) := by decide +kernel
theorem dX4_backOf_25 : decode cX4_backOf 25 = .ok (.iload 6, 2) := by decide +kernel
theorem dX4_backOf_27 : decode cX4_backOf 27 = .ok (.ishr, 1) := by decide +kernel
theorem dX4_backOf_28 : decode cX4_backOf 28 = .ok (.iconst 1, 1) := by decide +kernel
theorem dX4_backOf_29 : decode cX4_backOf 29 = .ok (.iand, 1) := by decide +kernel
theorem dX4_backOf_30 : decode cX4_backOf 30 = .ok (.iconst 1, 1) := by decide +kernel
theorem dX4_backOf_31 : decode cX4_backOf 31 = .ok (.if_icmp .ne 77, 3) := by decide +kernel
theorem dX4_backOf_34 : decode cX4_backOf 34 = .ok (.aload_n 0, 1) := by decide +kernel
theorem dX4_backOf_35 : decode cX4_backOf 35 = .ok (.getfield 19, 3) := by decide +kernel
theorem dX4_backOf_38 : decode cX4_backOf 38 = .ok (.iload 6, 2) := by decide +kernel
theorem dX4_backOf_40 : decode cX4_backOf 40 = .ok (.iaload, 1) := by decide +kernel
theorem dX4_backOf_41 : decode cX4_backOf 41 = .ok (.aload_n 0, 1) := by decide +kernel
theorem dX4_backOf_42 : decode cX4_backOf 42 = .ok (.getfield 19, 3) := by decide +kernel
theorem dX4_backOf_45 : decode cX4_backOf 45 = .ok (.iload 6, 2) := by decide +kernel
theorem dX4_backOf_47 : decode cX4_backOf 47 = .ok (.iaload, 1) := by decide +kernel
theorem dX4_backOf_48 : decode cX4_backOf 48 = .ok (.aload_n 0, 1) := by decide +kernel
theorem dX4_backOf_49 : decode cX4_backOf 49 = .ok (.getfield 49, 3) := by decide +kernel
theorem dX4_backOf_52 : decode cX4_backOf 52 = .ok (.imul, 1) := by decide +kernel
theorem dX4_backOf_53 : decode cX4_backOf 53 = .ok (.iload_n 2, 1) := by decide +kernel
theorem dX4_backOf_54 : decode cX4_backOf 54 = .ok (.aload_n 0, 1) := by decide +kernel
theorem dX4_backOf_55 : decode cX4_backOf 55 = .ok (.getfield 7, 3) := by decide +kernel
theorem dX4_backOf_58 : decode cX4_backOf 58 = .ok (.iload 6, 2) := by decide +kernel
theorem dX4_backOf_60 : decode cX4_backOf 60 = .ok (.iaload, 1) := by decide +kernel
theorem dX4_backOf_61 : decode cX4_backOf 61 = .ok (.isub, 1) := by decide +kernel
theorem dX4_backOf_62 : decode cX4_backOf 62 = .ok (.imul, 1) := by decide +kernel
theorem dX4_backOf_63 : decode cX4_backOf 63 = .ok (.bipush 100, 2) := by decide +kernel
theorem dX4_backOf_65 : decode cX4_backOf 65 = .ok (.idiv, 1) := by decide +kernel
theorem dX4_backOf_66 : decode cX4_backOf 66 = .ok (.iadd, 1) := by decide +kernel
theorem dX4_backOf_67 : decode cX4_backOf 67 = .ok (.istore 7, 2) := by decide +kernel
theorem dX4_backOf_69 : decode cX4_backOf 69 = .ok (.iload 5, 2) := by decide +kernel
theorem dX4_backOf_71 : decode cX4_backOf 71 = .ok (.aload_n 0, 1) := by decide +kernel
theorem dX4_backOf_72 : decode cX4_backOf 72 = .ok (.getfield 13, 3) := by decide +kernel
theorem dX4_backOf_75 : decode cX4_backOf 75 = .ok (.iload 6, 2) := by decide +kernel
theorem dX4_backOf_77 : decode cX4_backOf 77 = .ok (.iaload, 1) := by decide +kernel
theorem dX4_backOf_78 : decode cX4_backOf 78 = .ok (.iload_n 3, 1) := by decide +kernel
theorem dX4_backOf_79 : decode cX4_backOf 79 = .ok (.if_icmp .ne 8, 3) := by decide +kernel
theorem dX4_backOf_82 : decode cX4_backOf 82 = .ok (.iload 7, 2) := by decide +kernel
theorem dX4_backOf_84 : decode cX4_backOf 84 = .ok (.goto 21, 3) := by decide +kernel
theorem dX4_backOf_87 : decode cX4_backOf 87 = .ok (.aload_n 0, 1) := by decide +kernel
theorem dX4_backOf_88 : decode cX4_backOf 88 = .ok (.getfield 16, 3) := by decide +kernel
theorem dX4_backOf_91 : decode cX4_backOf 91 = .ok (.iload 6, 2) := by decide +kernel
theorem dX4_backOf_93 : decode cX4_backOf 93 = .ok (.iaload, 1) := by decide +kernel
theorem dX4_backOf_94 : decode cX4_backOf 94 = .ok (.iload_n 3, 1) := by decide +kernel
theorem dX4_backOf_95 : decode cX4_backOf 95 = .ok (.if_icmp .ne 9, 3) := by decide +kernel
theorem dX4_backOf_98 : decode cX4_backOf 98 = .ok (.iload 7, 2) := by decide +kernel
theorem dX4_backOf_100 : decode cX4_backOf 100 = .ok (.ineg, 1) := by decide +kernel
theorem dX4_backOf_101 : decode cX4_backOf 101 = .ok (.goto 4, 3) := by decide +kernel
theorem dX4_backOf_104 : decode cX4_backOf 104 = .ok (.iconst 0, 1) := by decide +kernel
theorem dX4_backOf_105 : decode cX4_backOf 105 = .ok (.iadd, 1) := by decide +kernel
theorem dX4_backOf_106 : decode cX4_backOf 106 = .ok (.istore 5, 2) := by decide +kernel
theorem dX4_backOf_108 : decode cX4_backOf 108 = .ok (.iinc 6 1, 3) := by decide +kernel
theorem dX4_backOf_111 : decode cX4_backOf 111 = .ok (.goto (-97), 3) := by decide +kernel
theorem dX4_backOf_114 : decode cX4_backOf 114 = .ok (.iload 5, 2) := by decide +kernel
theorem dX4_backOf_116 : decode cX4_backOf 116 = .ok (.ireturn, 1) := by decide +kernel
theorem dX4_back_0 : decode cX4_back 0 = .ok (.aload_n 0, 1) := by decide +kernel
theorem dX4_back_1 : decode cX4_back 1 = .ok (.iload_n 1, 1) := by decide +kernel
theorem dX4_back_2 : decode cX4_back 2 = .ok (.invokevirtual 71, 3) := by decide +kernel
theorem dX4_back_5 : decode cX4_back 5 = .ok (.ifCond .eq 18, 3) := by decide +kernel
theorem dX4_back_8 : decode cX4_back 8 = .ok (.iload_n 2, 1) := by decide +kernel
theorem dX4_back_9 : decode cX4_back 9 = .ok (.invokestatic 64, 3) := by decide +kernel
theorem dX4_back_12 : decode cX4_back 12 = .ok (.ifCond .eq 11, 3) := by decide +kernel
theorem dX4_back_15 : decode cX4_back 15 = .ok (.iload 4, 2) := by decide +kernel
theorem dX4_back_17 : decode cX4_back 17 = .ok (.invokestatic 64, 3) := by decide +kernel
theorem dX4_back_20 : decode cX4_back 20 = .ok (.ifCond .ne 6, 3) := by decide +kernel
theorem dX4_back_23 : decode cX4_back 23 = .ok (.ldc 152, 2) := by decide +kernel
theorem dX4_back_25 : decode cX4_back 25 = .ok (.ireturn, 1) := by decide +kernel
theorem dX4_back_26 : decode cX4_back 26 = .ok (.iload_n 3, 1) := by decide +kernel
theorem dX4_back_27 : decode cX4_back 27 = .ok (.invokestatic 68, 3) := by decide +kernel
theorem dX4_back_30 : decode cX4_back 30 = .ok (.ifCond .ne 6, 3) := by decide +kernel
theorem dX4_back_33 : decode cX4_back 33 = .ok (.ldc 153, 2) := by decide +kernel
theorem dX4_back_35 : decode cX4_back 35 = .ok (.ireturn, 1) := by decide +kernel
theorem dX4_back_36 : decode cX4_back 36 = .ok (.aload_n 0, 1) := by decide +kernel
theorem dX4_back_37 : decode cX4_back 37 = .ok (.iload_n 1, 1) := by decide +kernel
theorem dX4_back_38 : decode cX4_back 38 = .ok (.iload_n 2, 1) := by decide +kernel
theorem dX4_back_39 : decode cX4_back 39 = .ok (.iload_n 3, 1) := by decide +kernel
theorem dX4_back_40 : decode cX4_back 40 = .ok (.invokevirtual 111, 3) := by decide +kernel
theorem dX4_back_43 : decode cX4_back 43 = .ok (.ifCond .eq 14, 3) := by decide +kernel
theorem dX4_back_46 : decode cX4_back 46 = .ok (.aload_n 0, 1) := by decide +kernel
theorem dX4_back_47 : decode cX4_back 47 = .ok (.iload_n 1, 1) := by decide +kernel
theorem dX4_back_48 : decode cX4_back 48 = .ok (.iload_n 3, 1) := by decide +kernel
theorem dX4_back_49 : decode cX4_back 49 = .ok (.iload 4, 2) := by decide +kernel
theorem dX4_back_51 : decode cX4_back 51 = .ok (.invokevirtual 154, 3) := by decide +kernel
theorem dX4_back_54 : decode cX4_back 54 = .ok (.goto 5, 3) := by decide +kernel
theorem dX4_back_57 : decode cX4_back 57 = .ok (.ldc 158, 2) := by decide +kernel
theorem dX4_back_59 : decode cX4_back 59 = .ok (.ireturn, 1) := by decide +kernel
theorem dX4_wiseOf_0 : decode cX4_wiseOf 0 = .ok (.iconst 0, 1) := by decide +kernel
theorem dX4_wiseOf_1 : decode cX4_wiseOf 1 = .ok (.istore_n 3, 1) := by decide +kernel
theorem dX4_wiseOf_2 : decode cX4_wiseOf 2 = .ok (.iload_n 3, 1) := by decide +kernel
theorem dX4_wiseOf_3 : decode cX4_wiseOf 3 = .ok (.iconst 4, 1) := by decide +kernel
theorem dX4_wiseOf_4 : decode cX4_wiseOf 4 = .ok (.if_icmp .ge 31, 3) := by decide +kernel
theorem dX4_wiseOf_7 : decode cX4_wiseOf 7 = .ok (.aload_n 0, 1) := by decide +kernel
theorem dX4_wiseOf_8 : decode cX4_wiseOf 8 = .ok (.iload_n 1, 1) := by decide +kernel
theorem dX4_wiseOf_9 : decode cX4_wiseOf 9 = .ok (.iload_n 3, 1) := by decide +kernel
theorem dX4_wiseOf_10 : decode cX4_wiseOf 10 = .ok (.iload_n 2, 1) := by decide +kernel
theorem dX4_wiseOf_11 : decode cX4_wiseOf 11 = .ok (.invokevirtual 111, 3) := by decide +kernel
theorem dX4_wiseOf_14 : decode cX4_wiseOf 14 = .ok (.ifCond .eq 15, 3) := by decide +kernel
theorem dX4_wiseOf_17 : decode cX4_wiseOf 17 = .ok (.aload_n 0, 1) := by decide +kernel
theorem dX4_wiseOf_18 : decode cX4_wiseOf 18 = .ok (.iload_n 1, 1) := by decide +kernel
theorem dX4_wiseOf_19 : decode cX4_wiseOf 19 = .ok (.iload_n 2, 1) := by decide +kernel
theorem dX4_wiseOf_20 : decode cX4_wiseOf 20 = .ok (.iload_n 3, 1) := by decide +kernel
theorem dX4_wiseOf_21 : decode cX4_wiseOf 21 = .ok (.invokevirtual 154, 3) := by decide +kernel
theorem dX4_wiseOf_24 : decode cX4_wiseOf 24 = .ok (.ifCond .le 5, 3) := by decide +kernel
theorem dX4_wiseOf_27 : decode cX4_wiseOf 27 = .ok (.iload_n 3, 1) := by decide +kernel
theorem dX4_wiseOf_28 : decode cX4_wiseOf 28 = .ok (.ireturn, 1) := by decide +kernel
theorem dX4_wiseOf_29 : decode cX4_wiseOf 29 = .ok (.iinc 3 1, 3) := by decide +kernel
theorem dX4_wiseOf_32 : decode cX4_wiseOf 32 = .ok (.goto (-30), 3) := by decide +kernel
theorem dX4_wiseOf_35 : decode cX4_wiseOf 35 = .ok (.bipush (-6), 2) := by decide +kernel
theorem dX4_wiseOf_37 : decode cX4_wiseOf 37 = .ok (.ireturn, 1) := by decide +kernel
theorem dX4_wise_0 : decode cX4_wise 0 = .ok (.aload_n 0, 1) := by decide +kernel
theorem dX4_wise_1 : decode cX4_wise 1 = .ok (.iload_n 1, 1) := by decide +kernel
theorem dX4_wise_2 : decode cX4_wise 2 = .ok (.invokevirtual 71, 3) := by decide +kernel
theorem dX4_wise_5 : decode cX4_wise 5 = .ok (.ifCond .ne 5, 3) := by decide +kernel
theorem dX4_wise_8 : decode cX4_wise 8 = .ok (.iconst (-1), 1) := by decide +kernel
theorem dX4_wise_9 : decode cX4_wise 9 = .ok (.ireturn, 1) := by decide +kernel
theorem dX4_wise_10 : decode cX4_wise 10 = .ok (.iload_n 2, 1) := by decide +kernel
theorem dX4_wise_11 : decode cX4_wise 11 = .ok (.invokestatic 68, 3) := by decide +kernel
theorem dX4_wise_14 : decode cX4_wise 14 = .ok (.ifCond .eq 12, 3) := by decide +kernel
theorem dX4_wise_17 : decode cX4_wise 17 = .ok (.aload_n 0, 1) := by decide +kernel
theorem dX4_wise_18 : decode cX4_wise 18 = .ok (.iload_n 1, 1) := by decide +kernel
theorem dX4_wise_19 : decode cX4_wise 19 = .ok (.iload_n 2, 1) := by decide +kernel
theorem dX4_wise_20 : decode cX4_wise 20 = .ok (.invokevirtual 159, 3) := by decide +kernel
theorem dX4_wise_23 : decode cX4_wise 23 = .ok (.goto 5, 3) := by decide +kernel
theorem dX4_wise_26 : decode cX4_wise 26 = .ok (.bipush (-2), 2) := by decide +kernel
theorem dX4_wise_28 : decode cX4_wise 28 = .ok (.ireturn, 1) := by decide +kernel
theorem dX4_rest_0 : decode cX4_rest 0 = .ok (.iload_n 1, 1) := by decide +kernel
theorem dX4_rest_1 : decode cX4_rest 1 = .ok (.invokestatic 68, 3) := by decide +kernel
theorem dX4_rest_4 : decode cX4_rest 4 = .ok (.ifCond .eq 13, 3) := by decide +kernel
theorem dX4_rest_7 : decode cX4_rest 7 = .ok (.iload_n 2, 1) := by decide +kernel
theorem dX4_rest_8 : decode cX4_rest 8 = .ok (.i2l, 1) := by decide +kernel
theorem dX4_rest_9 : decode cX4_rest 9 = .ok (.lconst 0, 1) := by decide +kernel
theorem dX4_rest_10 : decode cX4_rest 10 = .ok (.lconst 1, 1) := by decide +kernel
theorem dX4_rest_11 : decode cX4_rest 11 = .ok (.invokestatic 55, 3) := by decide +kernel
theorem dX4_rest_14 : decode cX4_rest 14 = .ok (.ifCond .ne 6, 3) := by decide +kernel
theorem dX4_rest_17 : decode cX4_rest 17 = .ok (.bipush (-2), 2) := by decide +kernel
theorem dX4_rest_19 : decode cX4_rest 19 = .ok (.ireturn, 1) := by decide +kernel
theorem dX4_rest_20 : decode cX4_rest 20 = .ok (.iconst 0, 1) := by decide +kernel
theorem dX4_rest_21 : decode cX4_rest 21 = .ok (.istore_n 3, 1) := by decide +kernel
theorem dX4_rest_22 : decode cX4_rest 22 = .ok (.iconst 1, 1) := by decide +kernel
theorem dX4_rest_23 : decode cX4_rest 23 = .ok (.istore 4, 2) := by decide +kernel
theorem dX4_rest_25 : decode cX4_rest 25 = .ok (.iload 4, 2) := by decide +kernel
theorem dX4_rest_27 : decode cX4_rest 27 = .ok (.ifCond .eq 61, 3) := by decide +kernel
theorem dX4_rest_30 : decode cX4_rest 30 = .ok (.iconst 0, 1) := by decide +kernel
theorem dX4_rest_31 : decode cX4_rest 31 = .ok (.istore 4, 2) := by decide +kernel
theorem dX4_rest_33 : decode cX4_rest 33 = .ok (.iconst 0, 1) := by decide +kernel
theorem dX4_rest_34 : decode cX4_rest 34 = .ok (.istore 5, 2) := by decide +kernel
theorem dX4_rest_36 : decode cX4_rest 36 = .ok (.iload 5, 2) := by decide +kernel
theorem dX4_rest_38 : decode cX4_rest 38 = .ok (.aload_n 0, 1) := by decide +kernel
theorem dX4_rest_39 : decode cX4_rest 39 = .ok (.getfield 61, 3) := by decide +kernel
theorem dX4_rest_42 : decode cX4_rest 42 = .ok (.if_icmp .ge 43, 3) := by decide +kernel
theorem dX4_rest_45 : decode cX4_rest 45 = .ok (.iload 4, 2) := by decide +kernel
theorem dX4_rest_47 : decode cX4_rest 47 = .ok (.ifCond .ne 38, 3) := by decide +kernel
theorem dX4_rest_50 : decode cX4_rest 50 = .ok (.aload_n 0, 1) := by decide +kernel
theorem dX4_rest_51 : decode cX4_rest 51 = .ok (.iload 5, 2) := by decide +kernel
theorem dX4_rest_53 : decode cX4_rest 53 = .ok (.iload_n 1, 1) := by decide +kernel
theorem dX4_rest_54 : decode cX4_rest 54 = .ok (.invokevirtual 159, 3) := by decide +kernel
theorem dX4_rest_57 : decode cX4_rest 57 = .ok (.ifCond .lt 22, 3) := by decide +kernel
theorem dX4_rest_60 : decode cX4_rest 60 = .ok (.aload_n 0, 1) := by decide +kernel
theorem dX4_rest_61 : decode cX4_rest 61 = .ok (.dup, 1) := by decide +kernel
theorem dX4_rest_62 : decode cX4_rest 62 = .ok (.getfield 115, 3) := by decide +kernel
theorem dX4_rest_65 : decode cX4_rest 65 = .ok (.iconst 1, 1) := by decide +kernel
theorem dX4_rest_66 : decode cX4_rest 66 = .ok (.iload 5, 2) := by decide +kernel
theorem dX4_rest_68 : decode cX4_rest 68 = .ok (.ishl, 1) := by decide +kernel
theorem dX4_rest_69 : decode cX4_rest 69 = .ok (.ior, 1) := by decide +kernel
theorem dX4_rest_70 : decode cX4_rest 70 = .ok (.putfield 115, 3) := by decide +kernel
theorem dX4_rest_73 : decode cX4_rest 73 = .ok (.iinc 3 1, 3) := by decide +kernel
theorem dX4_rest_76 : decode cX4_rest 76 = .ok (.iconst 1, 1) := by decide +kernel
theorem dX4_rest_77 : decode cX4_rest 77 = .ok (.istore 4, 2) := by decide +kernel
theorem dX4_rest_79 : decode cX4_rest 79 = .ok (.iinc 5 1, 3) := by decide +kernel
theorem dX4_rest_82 : decode cX4_rest 82 = .ok (.goto (-46), 3) := by decide +kernel
theorem dX4_rest_85 : decode cX4_rest 85 = .ok (.goto (-60), 3) := by decide +kernel
theorem dX4_rest_88 : decode cX4_rest 88 = .ok (.aload_n 0, 1) := by decide +kernel
theorem dX4_rest_89 : decode cX4_rest 89 = .ok (.iload_n 1, 1) := by decide +kernel
theorem dX4_rest_90 : decode cX4_rest 90 = .ok (.invokevirtual 142, 3) := by decide +kernel
theorem dX4_rest_93 : decode cX4_rest 93 = .ok (.istore 5, 2) := by decide +kernel
theorem dX4_rest_95 : decode cX4_rest 95 = .ok (.aload_n 0, 1) := by decide +kernel
theorem dX4_rest_96 : decode cX4_rest 96 = .ok (.iconst 0, 1) := by decide +kernel
theorem dX4_rest_97 : decode cX4_rest 97 = .ok (.putfield 115, 3) := by decide +kernel
theorem dX4_rest_100 : decode cX4_rest 100 = .ok (.iload_n 2, 1) := by decide +kernel
theorem dX4_rest_101 : decode cX4_rest 101 = .ok (.ifCond .ne 7, 3) := by decide +kernel
theorem dX4_rest_104 : decode cX4_rest 104 = .ok (.iload_n 3, 1) := by decide +kernel
theorem dX4_rest_105 : decode cX4_rest 105 = .ok (.goto 5, 3) := by decide +kernel
theorem dX4_rest_108 : decode cX4_rest 108 = .ok (.iload 5, 2) := by decide +kernel
theorem dX4_rest_110 : decode cX4_rest 110 = .ok (.ireturn, 1) := by decide +kernel
theorem dX4_isSet_0 : decode cX4_isSet 0 = .ok (.iload_n 1, 1) := by decide +kernel
theorem dX4_isSet_1 : decode cX4_isSet 1 = .ok (.i2l, 1) := by decide +kernel
theorem dX4_isSet_2 : decode cX4_isSet 2 = .ok (.lconst 0, 1) := by decide +kernel
theorem dX4_isSet_3 : decode cX4_isSet 3 = .ok (.iconst 1, 1) := by decide +kernel
theorem dX4_isSet_4 : decode cX4_isSet 4 = .ok (.aload_n 0, 1) := by decide +kernel
theorem dX4_isSet_5 : decode cX4_isSet 5 = .ok (.getfield 61, 3) := by decide +kernel
theorem dX4_isSet_8 : decode cX4_isSet 8 = .ok (.ishl, 1) := by decide +kernel
theorem dX4_isSet_9 : decode cX4_isSet 9 = .ok (.iconst 1, 1) := by decide +kernel
theorem dX4_isSet_10 : decode cX4_isSet 10 = .ok (.isub, 1) := by decide +kernel
theorem dX4_isSet_11 : decode cX4_isSet 11 = .ok (.i2l, 1) := by decide +kernel
theorem dX4_isSet_12 : decode cX4_isSet 12 = .ok (.invokestatic 55, 3) := by decide +kernel
theorem dX4_isSet_15 : decode cX4_isSet 15 = .ok (.ireturn, 1) := by decide +kernel
theorem dX4_heal_0 : decode cX4_heal 0 = .ok (.aload_n 0, 1) := by decide +kernel
theorem dX4_heal_1 : decode cX4_heal 1 = .ok (.iload_n 1, 1) := by decide +kernel
theorem dX4_heal_2 : decode cX4_heal 2 = .ok (.invokevirtual 162, 3) := by decide +kernel
theorem dX4_heal_5 : decode cX4_heal 5 = .ok (.ifCond .eq 20, 3) := by decide +kernel
theorem dX4_heal_8 : decode cX4_heal 8 = .ok (.iload_n 2, 1) := by decide +kernel
theorem dX4_heal_9 : decode cX4_heal 9 = .ok (.invokestatic 68, 3) := by decide +kernel
theorem dX4_heal_12 : decode cX4_heal 12 = .ok (.ifCond .eq 13, 3) := by decide +kernel
theorem dX4_heal_15 : decode cX4_heal 15 = .ok (.iload_n 3, 1) := by decide +kernel
theorem dX4_heal_16 : decode cX4_heal 16 = .ok (.i2l, 1) := by decide +kernel
theorem dX4_heal_17 : decode cX4_heal 17 = .ok (.lconst 0, 1) := by decide +kernel
theorem dX4_heal_18 : decode cX4_heal 18 = .ok (.lconst 1, 1) := by decide +kernel
theorem dX4_heal_19 : decode cX4_heal 19 = .ok (.invokestatic 55, 3) := by decide +kernel
theorem dX4_heal_22 : decode cX4_heal 22 = .ok (.ifCond .ne 6, 3) := by decide +kernel
theorem dX4_heal_25 : decode cX4_heal 25 = .ok (.bipush (-2), 2) := by decide +kernel
theorem dX4_heal_27 : decode cX4_heal 27 = .ok (.ireturn, 1) := by decide +kernel
theorem dX4_heal_28 : decode cX4_heal 28 = .ok (.iconst 0, 1) := by decide +kernel
theorem dX4_heal_29 : decode cX4_heal 29 = .ok (.istore 4, 2) := by decide +kernel
theorem dX4_heal_31 : decode cX4_heal 31 = .ok (.iconst 0, 1) := by decide +kernel
theorem dX4_heal_32 : decode cX4_heal 32 = .ok (.istore 5, 2) := by decide +kernel
theorem dX4_heal_34 : decode cX4_heal 34 = .ok (.iload 5, 2) := by decide +kernel
theorem dX4_heal_36 : decode cX4_heal 36 = .ok (.aload_n 0, 1) := by decide +kernel
theorem dX4_heal_37 : decode cX4_heal 37 = .ok (.getfield 61, 3) := by decide +kernel
theorem dX4_heal_40 : decode cX4_heal 40 = .ok (.if_icmp .ge 32, 3) := by decide +kernel
theorem dX4_heal_43 : decode cX4_heal 43 = .ok (.iload 4, 2) := by decide +kernel
theorem dX4_heal_45 : decode cX4_heal 45 = .ok (.aload_n 0, 1) := by decide +kernel
theorem dX4_heal_46 : decode cX4_heal 46 = .ok (.getfield 22, 3) := by decide +kernel
theorem dX4_heal_49 : decode cX4_heal 49 = .ok (.iload 5, 2) := by decide +kernel
theorem dX4_heal_51 : decode cX4_heal 51 = .ok (.iaload, 1) := by decide +kernel
theorem dX4_heal_52 : decode cX4_heal 52 = .ok (.ifCond .le 10, 3) := by decide +kernel
theorem dX4_heal_55 : decode cX4_heal 55 = .ok (.iconst 1, 1) := by decide +kernel
theorem dX4_heal_56 : decode cX4_heal 56 = .ok (.iload 5, 2) := by decide +kernel
theorem dX4_heal_58 : decode cX4_heal 58 = .ok (.ishl, 1) := by decide +kernel
theorem dX4_heal_59 : decode cX4_heal 59 = .ok (.goto 4, 3) := by decide +kernel
theorem dX4_heal_62 : decode cX4_heal 62 = .ok (.iconst 0, 1) := by decide +kernel
theorem dX4_heal_63 : decode cX4_heal 63 = .ok (.ior, 1) := by decide +kernel
theorem dX4_heal_64 : decode cX4_heal 64 = .ok (.istore 4, 2) := by decide +kernel
theorem dX4_heal_66 : decode cX4_heal 66 = .ok (.iinc 5 1, 3) := by decide +kernel
theorem dX4_heal_69 : decode cX4_heal 69 = .ok (.goto (-35), 3) := by decide +kernel
theorem dX4_heal_72 : decode cX4_heal 72 = .ok (.bipush (-6), 2) := by decide +kernel
theorem dX4_heal_74 : decode cX4_heal 74 = .ok (.istore 5, 2) := by decide +kernel
theorem dX4_heal_76 : decode cX4_heal 76 = .ok (.iconst 0, 1) := by decide +kernel
theorem dX4_heal_77 : decode cX4_heal 77 = .ok (.istore 6, 2) := by decide +kernel
theorem dX4_heal_79 : decode cX4_heal 79 = .ok (.iload 6, 2) := by decide +kernel
theorem dX4_heal_81 : decode cX4_heal 81 = .ok (.iconst 1, 1) := by decide +kernel
theorem dX4_heal_82 : decode cX4_heal 82 = .ok (.aload_n 0, 1) := by decide +kernel
theorem dX4_heal_83 : decode cX4_heal 83 = .ok (.getfield 61, 3) := by decide +kernel
theorem dX4_heal_86 : decode cX4_heal 86 = .ok (.ishl, 1) := by decide +kernel
theorem dX4_heal_87 : decode cX4_heal 87 = .ok (.if_icmp .ge 76, 3) := by decide +kernel
theorem dX4_heal_90 : decode cX4_heal 90 = .ok (.iload 6, 2) := by decide +kernel
theorem dX4_heal_92 : decode cX4_heal 92 = .ok (.iload 4, 2) := by decide +kernel
theorem dX4_heal_94 : decode cX4_heal 94 = .ok (.iconst (-1), 1) := by decide +kernel
theorem dX4_heal_95 : decode cX4_heal 95 = .ok (.ixor, 1) := by decide +kernel
theorem dX4_heal_96 : decode cX4_heal 96 = .ok (.iand, 1) := by decide +kernel
theorem dX4_heal_97 : decode cX4_heal 97 = .ok (.ifCond .ne 25, 3) := by decide +kernel
theorem dX4_heal_100 : decode cX4_heal 100 = .ok (.iload 5, 2) := by decide +kernel
theorem dX4_heal_102 : decode cX4_heal 102 = .ok (.ifCond .lt 16, 3) := by decide +kernel
theorem dX4_heal_105 : decode cX4_heal 105 = .ok (.iload 6, 2) := by decide +kernel
theorem dX4_heal_107 : decode cX4_heal 107 = .ok (.invokestatic 165, 3) := by decide +kernel
theorem dX4_heal_110 : decode cX4_heal 110 = .ok (.iload 5, 2) := by decide +kernel
theorem dX4_heal_112 : decode cX4_heal 112 = .ok (.invokestatic 165, 3) := by decide +kernel
theorem dX4_heal_115 : decode cX4_heal 115 = .ok (.if_icmp .ge 7, 3) := by decide +kernel
theorem dX4_heal_118 : decode cX4_heal 118 = .ok (.iconst 1, 1) := by decide +kernel
theorem dX4_heal_119 : decode cX4_heal 119 = .ok (.goto 4, 3) := by decide +kernel
theorem dX4_heal_122 : decode cX4_heal 122 = .ok (.iconst 0, 1) := by decide +kernel
theorem dX4_heal_123 : decode cX4_heal 123 = .ok (.istore 7, 2) := by decide +kernel
theorem dX4_heal_125 : decode cX4_heal 125 = .ok (.iload 7, 2) := by decide +kernel
theorem dX4_heal_127 : decode cX4_heal 127 = .ok (.ifCond .eq 30, 3) := by decide +kernel
theorem dX4_heal_130 : decode cX4_heal 130 = .ok (.aload_n 0, 1) := by decide +kernel
theorem dX4_heal_131 : decode cX4_heal 131 = .ok (.iload 6, 2) := by decide +kernel
theorem dX4_heal_133 : decode cX4_heal 133 = .ok (.putfield 104, 3) := by decide +kernel
theorem dX4_heal_136 : decode cX4_heal 136 = .ok (.iload_n 1, 1) := by decide +kernel
theorem dX4_heal_137 : decode cX4_heal 137 = .ok (.aload_n 0, 1) := by decide +kernel
theorem dX4_heal_138 : decode cX4_heal 138 = .ok (.iload_n 2, 1) := by decide +kernel
theorem dX4_heal_139 : decode cX4_heal 139 = .ok (.invokevirtual 142, 3) := by decide +kernel
theorem dX4_heal_142 : decode cX4_heal 142 = .ok (.iconst (-1), 1) := by decide +kernel
theorem dX4_heal_143 : decode cX4_heal 143 = .ok (.ixor, 1) := by decide +kernel
theorem dX4_heal_144 : decode cX4_heal 144 = .ok (.iand, 1) := by decide +kernel
theorem dX4_heal_145 : decode cX4_heal 145 = .ok (.ifCond .ne 8, 3) := by decide +kernel
theorem dX4_heal_148 : decode cX4_heal 148 = .ok (.iload 6, 2) := by decide +kernel
theorem dX4_heal_150 : decode cX4_heal 150 = .ok (.goto 5, 3) := by decide +kernel
theorem dX4_heal_153 : decode cX4_heal 153 = .ok (.iload 5, 2) := by decide +kernel
theorem dX4_heal_155 : decode cX4_heal 155 = .ok (.istore 5, 2) := by decide +kernel
theorem dX4_heal_157 : decode cX4_heal 157 = .ok (.iinc 6 1, 3) := by decide +kernel
theorem dX4_heal_160 : decode cX4_heal 160 = .ok (.goto (-81), 3) := by decide +kernel
theorem dX4_heal_163 : decode cX4_heal 163 = .ok (.aload_n 0, 1) := by decide +kernel
theorem dX4_heal_164 : decode cX4_heal 164 = .ok (.iconst 0, 1) := by decide +kernel
theorem dX4_heal_165 : decode cX4_heal 165 = .ok (.putfield 104, 3) := by decide +kernel
theorem dX4_heal_168 : decode cX4_heal 168 = .ok (.iload 5, 2) := by decide +kernel
theorem dX4_heal_170 : decode cX4_heal 170 = .ok (.ifCond .ge 8, 3) := by decide +kernel
theorem dX4_heal_173 : decode cX4_heal 173 = .ok (.bipush (-5), 2) := by decide +kernel
theorem dX4_heal_175 : decode cX4_heal 175 = .ok (.goto 17, 3) := by decide +kernel
theorem dX4_heal_178 : decode cX4_heal 178 = .ok (.iload_n 3, 1) := by decide +kernel
theorem dX4_heal_179 : decode cX4_heal 179 = .ok (.ifCond .ne 8, 3) := by decide +kernel
theorem dX4_heal_182 : decode cX4_heal 182 = .ok (.iload 5, 2) := by decide +kernel
theorem dX4_heal_184 : decode cX4_heal 184 = .ok (.goto 8, 3) := by decide +kernel
theorem dX4_heal_187 : decode cX4_heal 187 = .ok (.iload 5, 2) := by decide +kernel
theorem dX4_heal_189 : decode cX4_heal 189 = .ok (.invokestatic 165, 3) := by decide +kernel
theorem dX4_heal_192 : decode cX4_heal 192 = .ok (.ireturn, 1) := by decide +kernel
theorem dX4_pillar_0 : decode cX4_pillar 0 = .ok (.iload_n 1, 1) := by decide +kernel
theorem dX4_pillar_1 : decode cX4_pillar 1 = .ok (.invokestatic 68, 3) := by decide +kernel
theorem dX4_pillar_4 : decode cX4_pillar 4 = .ok (.ifCond .eq 13, 3) := by decide +kernel
theorem dX4_pillar_7 : decode cX4_pillar 7 = .ok (.iload_n 2, 1) := by decide +kernel
theorem dX4_pillar_8 : decode cX4_pillar 8 = .ok (.i2l, 1) := by decide +kernel
theorem dX4_pillar_9 : decode cX4_pillar 9 = .ok (.lconst 0, 1) := by decide +kernel
theorem dX4_pillar_10 : decode cX4_pillar 10 = .ok (.lconst 1, 1) := by decide +kernel
theorem dX4_pillar_11 : decode cX4_pillar 11 = .ok (.invokestatic 55, 3) := by decide +kernel
theorem dX4_pillar_14 : decode cX4_pillar 14 = .ok (.ifCond .ne 6, 3) := by decide +kernel
theorem dX4_pillar_17 : decode cX4_pillar 17 = .ok (.bipush (-2), 2) := by decide +kernel
theorem dX4_pillar_19 : decode cX4_pillar 19 = .ok (.ireturn, 1) := by decide +kernel
theorem dX4_pillar_20 : decode cX4_pillar 20 = .ok (.aload_n 0, 1) := by decide +kernel
theorem dX4_pillar_21 : decode cX4_pillar 21 = .ok (.iload_n 1, 1) := by decide +kernel
theorem dX4_pillar_22 : decode cX4_pillar 22 = .ok (.invokevirtual 131, 3) := by decide +kernel
theorem dX4_pillar_25 : decode cX4_pillar 25 = .ok (.istore_n 3, 1) := by decide +kernel
theorem dX4_pillar_26 : decode cX4_pillar 26 = .ok (.aload_n 0, 1) := by decide +kernel
theorem dX4_pillar_27 : decode cX4_pillar 27 = .ok (.iload_n 3, 1) := by decide +kernel
theorem dX4_pillar_28 : decode cX4_pillar 28 = .ok (.invokevirtual 134, 3) := by decide +kernel
theorem dX4_pillar_31 : decode cX4_pillar 31 = .ok (.istore 4, 2) := by decide +kernel
theorem dX4_pillar_33 : decode cX4_pillar 33 = .ok (.bipush (-6), 2) := by decide +kernel
theorem dX4_pillar_35 : decode cX4_pillar 35 = .ok (.istore 5, 2) := by decide +kernel
theorem dX4_pillar_37 : decode cX4_pillar 37 = .ok (.iconst 0, 1) := by decide +kernel
theorem dX4_pillar_38 : decode cX4_pillar 38 = .ok (.istore 6, 2) := by decide +kernel
theorem dX4_pillar_40 : decode cX4_pillar 40 = .ok (.iconst 0, 1) := by decide +kernel
theorem dX4_pillar_41 : decode cX4_pillar 41 = .ok (.istore 7, 2) := by decide +kernel
theorem dX4_pillar_43 : decode cX4_pillar 43 = .ok (.iload 7, 2) := by decide +kernel
theorem dX4_pillar_45 : decode cX4_pillar 45 = .ok (.aload_n 0, 1) := by decide +kernel
theorem dX4_pillar_46 : decode cX4_pillar 46 = .ok (.getfield 61, 3) := by decide +kernel
theorem dX4_pillar_49 : decode cX4_pillar 49 = .ok (.if_icmp .ge 64, 3) := by decide +kernel
theorem dX4_pillar_52 : decode cX4_pillar 52 = .ok (.iload 4, 2) := by decide +kernel
theorem dX4_pillar_54 : decode cX4_pillar 54 = .ok (.iload 7, 2) := by decide +kernel
theorem dX4_pillar_56 : decode cX4_pillar 56 = .ok (.ishr, 1) := by decide +kernel
theorem dX4_pillar_57 : decode cX4_pillar 57 = .ok (.iconst 1, 1) := by decide +kernel
theorem dX4_pillar_58 : decode cX4_pillar 58 = .ok (.iand, 1) := by decide +kernel
theorem dX4_pillar_59 : decode cX4_pillar 59 = .ok (.iconst 1, 1) := by decide +kernel
theorem dX4_pillar_60 : decode cX4_pillar 60 = .ok (.if_icmp .ne 47, 3) := by decide +kernel
theorem dX4_pillar_63 : decode cX4_pillar 63 = .ok (.iload 4, 2) := by decide +kernel
theorem dX4_pillar_65 : decode cX4_pillar 65 = .ok (.aload_n 0, 1) := by decide +kernel
theorem dX4_pillar_66 : decode cX4_pillar 66 = .ok (.iload_n 3, 1) := by decide +kernel
theorem dX4_pillar_67 : decode cX4_pillar 67 = .ok (.iconst 1, 1) := by decide +kernel
theorem dX4_pillar_68 : decode cX4_pillar 68 = .ok (.iload 7, 2) := by decide +kernel
theorem dX4_pillar_70 : decode cX4_pillar 70 = .ok (.ishl, 1) := by decide +kernel
theorem dX4_pillar_71 : decode cX4_pillar 71 = .ok (.iconst (-1), 1) := by decide +kernel
theorem dX4_pillar_72 : decode cX4_pillar 72 = .ok (.ixor, 1) := by decide +kernel
theorem dX4_pillar_73 : decode cX4_pillar 73 = .ok (.iand, 1) := by decide +kernel
theorem dX4_pillar_74 : decode cX4_pillar 74 = .ok (.invokevirtual 134, 3) := by decide +kernel
theorem dX4_pillar_77 : decode cX4_pillar 77 = .ok (.iconst (-1), 1) := by decide +kernel
theorem dX4_pillar_78 : decode cX4_pillar 78 = .ok (.ixor, 1) := by decide +kernel
theorem dX4_pillar_79 : decode cX4_pillar 79 = .ok (.iand, 1) := by decide +kernel
theorem dX4_pillar_80 : decode cX4_pillar 80 = .ok (.invokestatic 165, 3) := by decide +kernel
theorem dX4_pillar_83 : decode cX4_pillar 83 = .ok (.iconst 1, 1) := by decide +kernel
theorem dX4_pillar_84 : decode cX4_pillar 84 = .ok (.isub, 1) := by decide +kernel
theorem dX4_pillar_85 : decode cX4_pillar 85 = .ok (.istore 8, 2) := by decide +kernel
theorem dX4_pillar_87 : decode cX4_pillar 87 = .ok (.iload 5, 2) := by decide +kernel
theorem dX4_pillar_89 : decode cX4_pillar 89 = .ok (.ifCond .lt 10, 3) := by decide +kernel
theorem dX4_pillar_92 : decode cX4_pillar 92 = .ok (.iload 8, 2) := by decide +kernel
theorem dX4_pillar_94 : decode cX4_pillar 94 = .ok (.iload 6, 2) := by decide +kernel
theorem dX4_pillar_96 : decode cX4_pillar 96 = .ok (.if_icmp .le 11, 3) := by decide +kernel
theorem dX4_pillar_99 : decode cX4_pillar 99 = .ok (.iload 7, 2) := by decide +kernel
theorem dX4_pillar_101 : decode cX4_pillar 101 = .ok (.istore 5, 2) := by decide +kernel
theorem dX4_pillar_103 : decode cX4_pillar 103 = .ok (.iload 8, 2) := by decide +kernel
theorem dX4_pillar_105 : decode cX4_pillar 105 = .ok (.istore 6, 2) := by decide +kernel
theorem dX4_pillar_107 : decode cX4_pillar 107 = .ok (.iinc 7 1, 3) := by decide +kernel
theorem dX4_pillar_110 : decode cX4_pillar 110 = .ok (.goto (-67), 3) := by decide +kernel
theorem dX4_pillar_113 : decode cX4_pillar 113 = .ok (.iload_n 2, 1) := by decide +kernel
theorem dX4_pillar_114 : decode cX4_pillar 114 = .ok (.ifCond .ne 8, 3) := by decide +kernel
theorem dX4_pillar_117 : decode cX4_pillar 117 = .ok (.iload 5, 2) := by decide +kernel
theorem dX4_pillar_119 : decode cX4_pillar 119 = .ok (.goto 5, 3) := by decide +kernel
theorem dX4_pillar_122 : decode cX4_pillar 122 = .ok (.iload 6, 2) := by decide +kernel
theorem dX4_pillar_124 : decode cX4_pillar 124 = .ok (.ireturn, 1) := by decide +kernel
theorem dX4_hangs_0 : decode cX4_hangs 0 = .ok (.aload_n 0, 1) := by decide +kernel
theorem dX4_hangs_1 : decode cX4_hangs 1 = .ok (.iload_n 1, 1) := by decide +kernel
theorem dX4_hangs_2 : decode cX4_hangs 2 = .ok (.invokevirtual 71, 3) := by decide +kernel
theorem dX4_hangs_5 : decode cX4_hangs 5 = .ok (.ifCond .ne 5, 3) := by decide +kernel
theorem dX4_hangs_8 : decode cX4_hangs 8 = .ok (.iconst (-1), 1) := by decide +kernel
theorem dX4_hangs_9 : decode cX4_hangs 9 = .ok (.ireturn, 1) := by decide +kernel
theorem dX4_hangs_10 : decode cX4_hangs 10 = .ok (.iload_n 2, 1) := by decide +kernel
theorem dX4_hangs_11 : decode cX4_hangs 11 = .ok (.invokestatic 68, 3) := by decide +kernel
theorem dX4_hangs_14 : decode cX4_hangs 14 = .ok (.ifCond .eq 11, 3) := by decide +kernel
theorem dX4_hangs_17 : decode cX4_hangs 17 = .ok (.aload_n 0, 1) := by decide +kernel
theorem dX4_hangs_18 : decode cX4_hangs 18 = .ok (.iload_n 3, 1) := by decide +kernel
theorem dX4_hangs_19 : decode cX4_hangs 19 = .ok (.invokevirtual 162, 3) := by decide +kernel
theorem dX4_hangs_22 : decode cX4_hangs 22 = .ok (.ifCond .ne 6, 3) := by decide +kernel
theorem dX4_hangs_25 : decode cX4_hangs 25 = .ok (.bipush (-2), 2) := by decide +kernel
theorem dX4_hangs_27 : decode cX4_hangs 27 = .ok (.ireturn, 1) := by decide +kernel
theorem dX4_hangs_28 : decode cX4_hangs 28 = .ok (.aload_n 0, 1) := by decide +kernel
theorem dX4_hangs_29 : decode cX4_hangs 29 = .ok (.getfield 78, 3) := by decide +kernel
theorem dX4_hangs_32 : decode cX4_hangs 32 = .ok (.istore 4, 2) := by decide +kernel
theorem dX4_hangs_34 : decode cX4_hangs 34 = .ok (.iconst 0, 1) := by decide +kernel
theorem dX4_hangs_35 : decode cX4_hangs 35 = .ok (.istore 5, 2) := by decide +kernel
theorem dX4_hangs_37 : decode cX4_hangs 37 = .ok (.iconst 1, 1) := by decide +kernel
theorem dX4_hangs_38 : decode cX4_hangs 38 = .ok (.istore 6, 2) := by decide +kernel
theorem dX4_hangs_40 : decode cX4_hangs 40 = .ok (.aload_n 0, 1) := by decide +kernel
theorem dX4_hangs_41 : decode cX4_hangs 41 = .ok (.iload_n 2, 1) := by decide +kernel
theorem dX4_hangs_42 : decode cX4_hangs 42 = .ok (.invokevirtual 131, 3) := by decide +kernel
theorem dX4_hangs_45 : decode cX4_hangs 45 = .ok (.istore 7, 2) := by decide +kernel
theorem dX4_hangs_47 : decode cX4_hangs 47 = .ok (.iconst 0, 1) := by decide +kernel
theorem dX4_hangs_48 : decode cX4_hangs 48 = .ok (.istore 8, 2) := by decide +kernel
theorem dX4_hangs_50 : decode cX4_hangs 50 = .ok (.iconst 1, 1) := by decide +kernel
theorem dX4_hangs_51 : decode cX4_hangs 51 = .ok (.istore 9, 2) := by decide +kernel
theorem dX4_hangs_53 : decode cX4_hangs 53 = .ok (.iload 9, 2) := by decide +kernel
theorem dX4_hangs_55 : decode cX4_hangs 55 = .ok (.ifCond .eq 94, 3) := by decide +kernel
theorem dX4_hangs_58 : decode cX4_hangs 58 = .ok (.aload_n 0, 1) := by decide +kernel
theorem dX4_hangs_59 : decode cX4_hangs 59 = .ok (.iload 4, 2) := by decide +kernel
theorem dX4_hangs_61 : decode cX4_hangs 61 = .ok (.iload_n 3, 1) := by decide +kernel
theorem dX4_hangs_62 : decode cX4_hangs 62 = .ok (.iconst (-1), 1) := by decide +kernel
theorem dX4_hangs_63 : decode cX4_hangs 63 = .ok (.ixor, 1) := by decide +kernel
theorem dX4_hangs_64 : decode cX4_hangs 64 = .ok (.iand, 1) := by decide +kernel
theorem dX4_hangs_65 : decode cX4_hangs 65 = .ok (.iload 8, 2) := by decide +kernel
theorem dX4_hangs_67 : decode cX4_hangs 67 = .ok (.ior, 1) := by decide +kernel
theorem dX4_hangs_68 : decode cX4_hangs 68 = .ok (.putfield 78, 3) := by decide +kernel
theorem dX4_hangs_71 : decode cX4_hangs 71 = .ok (.aload_n 0, 1) := by decide +kernel
theorem dX4_hangs_72 : decode cX4_hangs 72 = .ok (.iload 7, 2) := by decide +kernel
theorem dX4_hangs_74 : decode cX4_hangs 74 = .ok (.invokevirtual 134, 3) := by decide +kernel
theorem dX4_hangs_77 : decode cX4_hangs 77 = .ok (.iload_n 1, 1) := by decide +kernel
theorem dX4_hangs_78 : decode cX4_hangs 78 = .ok (.ishr, 1) := by decide +kernel
theorem dX4_hangs_79 : decode cX4_hangs 79 = .ok (.iconst 1, 1) := by decide +kernel
theorem dX4_hangs_80 : decode cX4_hangs 80 = .ok (.iand, 1) := by decide +kernel
theorem dX4_hangs_81 : decode cX4_hangs 81 = .ok (.iconst 1, 1) := by decide +kernel
theorem dX4_hangs_82 : decode cX4_hangs 82 = .ok (.if_icmp .ne 7, 3) := by decide +kernel
theorem dX4_hangs_85 : decode cX4_hangs 85 = .ok (.iconst 1, 1) := by decide +kernel
theorem dX4_hangs_86 : decode cX4_hangs 86 = .ok (.goto 4, 3) := by decide +kernel
theorem dX4_hangs_89 : decode cX4_hangs 89 = .ok (.iconst 0, 1) := by decide +kernel
theorem dX4_hangs_90 : decode cX4_hangs 90 = .ok (.istore 10, 2) := by decide +kernel
theorem dX4_hangs_92 : decode cX4_hangs 92 = .ok (.iload 5, 2) := by decide +kernel
theorem dX4_hangs_94 : decode cX4_hangs 94 = .ok (.ifCond .ne 8, 3) := by decide +kernel
theorem dX4_hangs_97 : decode cX4_hangs 97 = .ok (.iload 10, 2) := by decide +kernel
theorem dX4_hangs_99 : decode cX4_hangs 99 = .ok (.ifCond .eq 7, 3) := by decide +kernel
theorem dX4_hangs_102 : decode cX4_hangs 102 = .ok (.iconst 1, 1) := by decide +kernel
theorem dX4_hangs_103 : decode cX4_hangs 103 = .ok (.goto 4, 3) := by decide +kernel
theorem dX4_hangs_106 : decode cX4_hangs 106 = .ok (.iconst 0, 1) := by decide +kernel
theorem dX4_hangs_107 : decode cX4_hangs 107 = .ok (.istore 5, 2) := by decide +kernel
theorem dX4_hangs_109 : decode cX4_hangs 109 = .ok (.iload 6, 2) := by decide +kernel
theorem dX4_hangs_111 : decode cX4_hangs 111 = .ok (.ifCond .eq 12, 3) := by decide +kernel
theorem dX4_hangs_114 : decode cX4_hangs 114 = .ok (.iload 10, 2) := by decide +kernel
theorem dX4_hangs_116 : decode cX4_hangs 116 = .ok (.ifCond .eq 7, 3) := by decide +kernel
theorem dX4_hangs_119 : decode cX4_hangs 119 = .ok (.iconst 1, 1) := by decide +kernel
theorem dX4_hangs_120 : decode cX4_hangs 120 = .ok (.goto 4, 3) := by decide +kernel
theorem dX4_hangs_123 : decode cX4_hangs 123 = .ok (.iconst 0, 1) := by decide +kernel
theorem dX4_hangs_124 : decode cX4_hangs 124 = .ok (.istore 6, 2) := by decide +kernel
theorem dX4_hangs_126 : decode cX4_hangs 126 = .ok (.iload 8, 2) := by decide +kernel
theorem dX4_hangs_128 : decode cX4_hangs 128 = .ok (.iload_n 3, 1) := by decide +kernel
theorem dX4_hangs_129 : decode cX4_hangs 129 = .ok (.isub, 1) := by decide +kernel
theorem dX4_hangs_130 : decode cX4_hangs 130 = .ok (.iload_n 3, 1) := by decide +kernel
theorem dX4_hangs_131 : decode cX4_hangs 131 = .ok (.iand, 1) := by decide +kernel
theorem dX4_hangs_132 : decode cX4_hangs 132 = .ok (.istore 8, 2) := by decide +kernel
theorem dX4_hangs_134 : decode cX4_hangs 134 = .ok (.iload 8, 2) := by decide +kernel
theorem dX4_hangs_136 : decode cX4_hangs 136 = .ok (.ifCond .eq 7, 3) := by decide +kernel
theorem dX4_hangs_139 : decode cX4_hangs 139 = .ok (.iconst 1, 1) := by decide +kernel
theorem dX4_hangs_140 : decode cX4_hangs 140 = .ok (.goto 4, 3) := by decide +kernel
theorem dX4_hangs_143 : decode cX4_hangs 143 = .ok (.iconst 0, 1) := by decide +kernel
theorem dX4_hangs_144 : decode cX4_hangs 144 = .ok (.istore 9, 2) := by decide +kernel
theorem dX4_hangs_146 : decode cX4_hangs 146 = .ok (.goto (-93), 3) := by decide +kernel
theorem dX4_hangs_149 : decode cX4_hangs 149 = .ok (.aload_n 0, 1) := by decide +kernel
theorem dX4_hangs_150 : decode cX4_hangs 150 = .ok (.iload 4, 2) := by decide +kernel
theorem dX4_hangs_152 : decode cX4_hangs 152 = .ok (.putfield 78, 3) := by decide +kernel
theorem dX4_hangs_155 : decode cX4_hangs 155 = .ok (.iload 6, 2) := by decide +kernel
theorem dX4_hangs_157 : decode cX4_hangs 157 = .ok (.ifCond .eq 7, 3) := by decide +kernel
theorem dX4_hangs_160 : decode cX4_hangs 160 = .ok (.iconst 2, 1) := by decide +kernel
theorem dX4_hangs_161 : decode cX4_hangs 161 = .ok (.goto 13, 3) := by decide +kernel
theorem dX4_hangs_164 : decode cX4_hangs 164 = .ok (.iload 5, 2) := by decide +kernel
theorem dX4_hangs_166 : decode cX4_hangs 166 = .ok (.ifCond .eq 7, 3) := by decide +kernel
theorem dX4_hangs_169 : decode cX4_hangs 169 = .ok (.iconst 1, 1) := by decide +kernel
theorem dX4_hangs_170 : decode cX4_hangs 170 = .ok (.goto 4, 3) := by decide +kernel
theorem dX4_hangs_173 : decode cX4_hangs 173 = .ok (.iconst 0, 1) := by decide +kernel
theorem dX4_hangs_174 : decode cX4_hangs 174 = .ok (.ireturn, 1) := by decide +kernel
theorem dX4_isSafeOn_0 : decode cX4_isSafeOn 0 = .ok (.aload_n 0, 1) := by decide +kernel
theorem dX4_isSafeOn_1 : decode cX4_isSafeOn 1 = .ok (.iload_n 2, 1) := by decide +kernel
theorem dX4_isSafeOn_2 : decode cX4_isSafeOn 2 = .ok (.invokevirtual 131, 3) := by decide +kernel
theorem dX4_isSafeOn_5 : decode cX4_isSafeOn 5 = .ok (.istore_n 3, 1) := by decide +kernel
theorem dX4_isSafeOn_6 : decode cX4_isSafeOn 6 = .ok (.aload_n 0, 1) := by decide +kernel
theorem dX4_isSafeOn_7 : decode cX4_isSafeOn 7 = .ok (.iload_n 3, 1) := by decide +kernel
theorem dX4_isSafeOn_8 : decode cX4_isSafeOn 8 = .ok (.invokevirtual 134, 3) := by decide +kernel
theorem dX4_isSafeOn_11 : decode cX4_isSafeOn 11 = .ok (.iload_n 1, 1) := by decide +kernel
theorem dX4_isSafeOn_12 : decode cX4_isSafeOn 12 = .ok (.ishr, 1) := by decide +kernel
theorem dX4_isSafeOn_13 : decode cX4_isSafeOn 13 = .ok (.iconst 1, 1) := by decide +kernel
theorem dX4_isSafeOn_14 : decode cX4_isSafeOn 14 = .ok (.iand, 1) := by decide +kernel
theorem dX4_isSafeOn_15 : decode cX4_isSafeOn 15 = .ok (.iconst 1, 1) := by decide +kernel
theorem dX4_isSafeOn_16 : decode cX4_isSafeOn 16 = .ok (.if_icmp .ne 7, 3) := by decide +kernel
theorem dX4_isSafeOn_19 : decode cX4_isSafeOn 19 = .ok (.iconst 1, 1) := by decide +kernel
theorem dX4_isSafeOn_20 : decode cX4_isSafeOn 20 = .ok (.goto 4, 3) := by decide +kernel
theorem dX4_isSafeOn_23 : decode cX4_isSafeOn 23 = .ok (.iconst 0, 1) := by decide +kernel
theorem dX4_isSafeOn_24 : decode cX4_isSafeOn 24 = .ok (.istore 4, 2) := by decide +kernel
theorem dX4_isSafeOn_26 : decode cX4_isSafeOn 26 = .ok (.iconst 0, 1) := by decide +kernel
theorem dX4_isSafeOn_27 : decode cX4_isSafeOn 27 = .ok (.istore 5, 2) := by decide +kernel
theorem dX4_isSafeOn_29 : decode cX4_isSafeOn 29 = .ok (.iload 5, 2) := by decide +kernel
theorem dX4_isSafeOn_31 : decode cX4_isSafeOn 31 = .ok (.aload_n 0, 1) := by decide +kernel
theorem dX4_isSafeOn_32 : decode cX4_isSafeOn 32 = .ok (.getfield 61, 3) := by decide +kernel
theorem dX4_isSafeOn_35 : decode cX4_isSafeOn 35 = .ok (.if_icmp .ge 88, 3) := by decide +kernel
theorem dX4_isSafeOn_38 : decode cX4_isSafeOn 38 = .ok (.iload 4, 2) := by decide +kernel
theorem dX4_isSafeOn_40 : decode cX4_isSafeOn 40 = .ok (.ifCond .eq 83, 3) := by decide +kernel
theorem dX4_isSafeOn_43 : decode cX4_isSafeOn 43 = .ok (.iconst 0, 1) := by decide +kernel
theorem dX4_isSafeOn_44 : decode cX4_isSafeOn 44 = .ok (.istore 6, 2) := by decide +kernel
theorem dX4_isSafeOn_46 : decode cX4_isSafeOn 46 = .ok (.iconst 0, 1) := by decide +kernel
theorem dX4_isSafeOn_47 : decode cX4_isSafeOn 47 = .ok (.istore 7, 2) := by decide +kernel
theorem dX4_isSafeOn_49 : decode cX4_isSafeOn 49 = .ok (.iload 7, 2) := by decide +kernel
theorem dX4_isSafeOn_51 : decode cX4_isSafeOn 51 = .ok (.iconst 4, 1) := by decide +kernel
theorem dX4_isSafeOn_52 : decode cX4_isSafeOn 52 = .ok (.if_icmp .ge 33, 3) := by decide +kernel
theorem dX4_isSafeOn_55 : decode cX4_isSafeOn 55 = .ok (.iload 6, 2) := by decide +kernel
theorem dX4_isSafeOn_57 : decode cX4_isSafeOn 57 = .ok (.ifCond .ne 15, 3) := by decide +kernel
theorem dX4_isSafeOn_60 : decode cX4_isSafeOn 60 = .ok (.aload_n 0, 1) := by decide +kernel
theorem dX4_isSafeOn_61 : decode cX4_isSafeOn 61 = .ok (.iload 5, 2) := by decide +kernel
theorem dX4_isSafeOn_63 : decode cX4_isSafeOn 63 = .ok (.iload 7, 2) := by decide +kernel
theorem dX4_isSafeOn_65 : decode cX4_isSafeOn 65 = .ok (.iload_n 2, 1) := by decide +kernel
theorem dX4_isSafeOn_66 : decode cX4_isSafeOn 66 = .ok (.invokevirtual 111, 3) := by decide +kernel
theorem dX4_isSafeOn_69 : decode cX4_isSafeOn 69 = .ok (.ifCond .eq 7, 3) := by decide +kernel
theorem dX4_isSafeOn_72 : decode cX4_isSafeOn 72 = .ok (.iconst 1, 1) := by decide +kernel
theorem dX4_isSafeOn_73 : decode cX4_isSafeOn 73 = .ok (.goto 4, 3) := by decide +kernel
theorem dX4_isSafeOn_76 : decode cX4_isSafeOn 76 = .ok (.iconst 0, 1) := by decide +kernel
theorem dX4_isSafeOn_77 : decode cX4_isSafeOn 77 = .ok (.istore 6, 2) := by decide +kernel
theorem dX4_isSafeOn_79 : decode cX4_isSafeOn 79 = .ok (.iinc 7 1, 3) := by decide +kernel
theorem dX4_isSafeOn_82 : decode cX4_isSafeOn 82 = .ok (.goto (-33), 3) := by decide +kernel
theorem dX4_isSafeOn_85 : decode cX4_isSafeOn 85 = .ok (.iload 6, 2) := by decide +kernel
theorem dX4_isSafeOn_87 : decode cX4_isSafeOn 87 = .ok (.ifCond .eq 23, 3) := by decide +kernel
theorem dX4_isSafeOn_90 : decode cX4_isSafeOn 90 = .ok (.aload_n 0, 1) := by decide +kernel
theorem dX4_isSafeOn_91 : decode cX4_isSafeOn 91 = .ok (.iload_n 3, 1) := by decide +kernel
theorem dX4_isSafeOn_92 : decode cX4_isSafeOn 92 = .ok (.iconst 1, 1) := by decide +kernel
theorem dX4_isSafeOn_93 : decode cX4_isSafeOn 93 = .ok (.iload 5, 2) := by decide +kernel
theorem dX4_isSafeOn_95 : decode cX4_isSafeOn 95 = .ok (.ishl, 1) := by decide +kernel
theorem dX4_isSafeOn_96 : decode cX4_isSafeOn 96 = .ok (.iconst (-1), 1) := by decide +kernel
theorem dX4_isSafeOn_97 : decode cX4_isSafeOn 97 = .ok (.ixor, 1) := by decide +kernel
theorem dX4_isSafeOn_98 : decode cX4_isSafeOn 98 = .ok (.iand, 1) := by decide +kernel
theorem dX4_isSafeOn_99 : decode cX4_isSafeOn 99 = .ok (.invokevirtual 134, 3) := by decide +kernel
theorem dX4_isSafeOn_102 : decode cX4_isSafeOn 102 = .ok (.iload_n 1, 1) := by decide +kernel
theorem dX4_isSafeOn_103 : decode cX4_isSafeOn 103 = .ok (.ishr, 1) := by decide +kernel
theorem dX4_isSafeOn_104 : decode cX4_isSafeOn 104 = .ok (.iconst 1, 1) := by decide +kernel
theorem dX4_isSafeOn_105 : decode cX4_isSafeOn 105 = .ok (.iand, 1) := by decide +kernel
theorem dX4_isSafeOn_106 : decode cX4_isSafeOn 106 = .ok (.iconst 1, 1) := by decide +kernel
theorem dX4_isSafeOn_107 : decode cX4_isSafeOn 107 = .ok (.if_icmp .ne 7, 3) := by decide +kernel
theorem dX4_isSafeOn_110 : decode cX4_isSafeOn 110 = .ok (.iconst 1, 1) := by decide +kernel
theorem dX4_isSafeOn_111 : decode cX4_isSafeOn 111 = .ok (.goto 4, 3) := by decide +kernel
theorem dX4_isSafeOn_114 : decode cX4_isSafeOn 114 = .ok (.iconst 0, 1) := by decide +kernel
theorem dX4_isSafeOn_115 : decode cX4_isSafeOn 115 = .ok (.istore 4, 2) := by decide +kernel
theorem dX4_isSafeOn_117 : decode cX4_isSafeOn 117 = .ok (.iinc 5 1, 3) := by decide +kernel
theorem dX4_isSafeOn_120 : decode cX4_isSafeOn 120 = .ok (.goto (-91), 3) := by decide +kernel
theorem dX4_isSafeOn_123 : decode cX4_isSafeOn 123 = .ok (.iload 4, 2) := by decide +kernel
theorem dX4_isSafeOn_125 : decode cX4_isSafeOn 125 = .ok (.ireturn, 1) := by decide +kernel
theorem dX4_safe_0 : decode cX4_safe 0 = .ok (.aload_n 0, 1) := by decide +kernel
theorem dX4_safe_1 : decode cX4_safe 1 = .ok (.iload_n 1, 1) := by decide +kernel
theorem dX4_safe_2 : decode cX4_safe 2 = .ok (.invokevirtual 71, 3) := by decide +kernel
theorem dX4_safe_5 : decode cX4_safe 5 = .ok (.ifCond .ne 5, 3) := by decide +kernel
theorem dX4_safe_8 : decode cX4_safe 8 = .ok (.iconst (-1), 1) := by decide +kernel
theorem dX4_safe_9 : decode cX4_safe 9 = .ok (.ireturn, 1) := by decide +kernel
theorem dX4_safe_10 : decode cX4_safe 10 = .ok (.bipush 100, 2) := by decide +kernel
theorem dX4_safe_12 : decode cX4_safe 12 = .ok (.istore_n 2, 1) := by decide +kernel
theorem dX4_safe_13 : decode cX4_safe 13 = .ok (.iload_n 2, 1) := by decide +kernel
theorem dX4_safe_14 : decode cX4_safe 14 = .ok (.aload_n 0, 1) := by decide +kernel
theorem dX4_safe_15 : decode cX4_safe 15 = .ok (.getfield 7, 3) := by decide +kernel
theorem dX4_safe_18 : decode cX4_safe 18 = .ok (.iload_n 1, 1) := by decide +kernel
theorem dX4_safe_19 : decode cX4_safe 19 = .ok (.iaload, 1) := by decide +kernel
theorem dX4_safe_20 : decode cX4_safe 20 = .ok (.if_icmp .le 20, 3) := by decide +kernel
theorem dX4_safe_23 : decode cX4_safe 23 = .ok (.aload_n 0, 1) := by decide +kernel
theorem dX4_safe_24 : decode cX4_safe 24 = .ok (.iload_n 1, 1) := by decide +kernel
theorem dX4_safe_25 : decode cX4_safe 25 = .ok (.iload_n 2, 1) := by decide +kernel
theorem dX4_safe_26 : decode cX4_safe 26 = .ok (.iconst 1, 1) := by decide +kernel
theorem dX4_safe_27 : decode cX4_safe 27 = .ok (.isub, 1) := by decide +kernel
theorem dX4_safe_28 : decode cX4_safe 28 = .ok (.invokevirtual 168, 3) := by decide +kernel
theorem dX4_safe_31 : decode cX4_safe 31 = .ok (.ifCond .eq 9, 3) := by decide +kernel
theorem dX4_safe_34 : decode cX4_safe 34 = .ok (.iinc 2 (-1), 3) := by decide +kernel
theorem dX4_safe_37 : decode cX4_safe 37 = .ok (.goto (-24), 3) := by decide +kernel
theorem dX4_safe_40 : decode cX4_safe 40 = .ok (.iload_n 2, 1) := by decide +kernel
theorem dX4_safe_41 : decode cX4_safe 41 = .ok (.bipush 99, 2) := by decide +kernel
theorem dX4_safe_43 : decode cX4_safe 43 = .ok (.if_icmp .le 8, 3) := by decide +kernel
theorem dX4_safe_46 : decode cX4_safe 46 = .ok (.bipush (-6), 2) := by decide +kernel
theorem dX4_safe_48 : decode cX4_safe 48 = .ok (.goto 4, 3) := by decide +kernel
theorem dX4_safe_51 : decode cX4_safe 51 = .ok (.iload_n 2, 1) := by decide +kernel
theorem dX4_safe_52 : decode cX4_safe 52 = .ok (.ireturn, 1) := by decide +kernel
theorem dX4_beside_0 : decode cX4_beside 0 = .ok (.iload_n 1, 1) := by decide +kernel
theorem dX4_beside_1 : decode cX4_beside 1 = .ok (.invokestatic 68, 3) := by decide +kernel
theorem dX4_beside_4 : decode cX4_beside 4 = .ok (.ifCond .ne 6, 3) := by decide +kernel
theorem dX4_beside_7 : decode cX4_beside 7 = .ok (.bipush (-2), 2) := by decide +kernel
theorem dX4_beside_9 : decode cX4_beside 9 = .ok (.ireturn, 1) := by decide +kernel
theorem dX4_beside_10 : decode cX4_beside 10 = .ok (.aload_n 0, 1) := by decide +kernel
theorem dX4_beside_11 : decode cX4_beside 11 = .ok (.getfield 83, 3) := by decide +kernel
theorem dX4_beside_14 : decode cX4_beside 14 = .ok (.istore_n 2, 1) := by decide +kernel
theorem dX4_beside_15 : decode cX4_beside 15 = .ok (.aload_n 0, 1) := by decide +kernel
theorem dX4_beside_16 : decode cX4_beside 16 = .ok (.iload_n 1, 1) := by decide +kernel
theorem dX4_beside_17 : decode cX4_beside 17 = .ok (.invokevirtual 131, 3) := by decide +kernel
theorem dX4_beside_20 : decode cX4_beside 20 = .ok (.istore_n 3, 1) := by decide +kernel
theorem dX4_beside_21 : decode cX4_beside 21 = .ok (.aload_n 0, 1) := by decide +kernel
theorem dX4_beside_22 : decode cX4_beside 22 = .ok (.iconst 0, 1) := by decide +kernel
theorem dX4_beside_23 : decode cX4_beside 23 = .ok (.putfield 83, 3) := by decide +kernel
theorem dX4_beside_26 : decode cX4_beside 26 = .ok (.aload_n 0, 1) := by decide +kernel
theorem dX4_beside_27 : decode cX4_beside 27 = .ok (.iload_n 3, 1) := by decide +kernel
theorem dX4_beside_28 : decode cX4_beside 28 = .ok (.invokevirtual 134, 3) := by decide +kernel
theorem dX4_beside_31 : decode cX4_beside 31 = .ok (.istore 4, 2) := by decide +kernel
theorem dX4_beside_33 : decode cX4_beside 33 = .ok (.aload_n 0, 1) := by decide +kernel
theorem dX4_beside_34 : decode cX4_beside 34 = .ok (.iconst 1, 1) := by decide +kernel
theorem dX4_beside_35 : decode cX4_beside 35 = .ok (.putfield 83, 3) := by decide +kernel
theorem dX4_beside_38 : decode cX4_beside 38 = .ok (.aload_n 0, 1) := by decide +kernel
theorem dX4_beside_39 : decode cX4_beside 39 = .ok (.iload_n 3, 1) := by decide +kernel
theorem dX4_beside_40 : decode cX4_beside 40 = .ok (.invokevirtual 134, 3) := by decide +kernel
theorem dX4_beside_43 : decode cX4_beside 43 = .ok (.istore 5, 2) := by decide +kernel
theorem dX4_beside_45 : decode cX4_beside 45 = .ok (.aload_n 0, 1) := by decide +kernel
theorem dX4_beside_46 : decode cX4_beside 46 = .ok (.iload_n 2, 1) := by decide +kernel
theorem dX4_beside_47 : decode cX4_beside 47 = .ok (.putfield 83, 3) := by decide +kernel
theorem dX4_beside_50 : decode cX4_beside 50 = .ok (.iload 4, 2) := by decide +kernel
theorem dX4_beside_52 : decode cX4_beside 52 = .ok (.iload 5, 2) := by decide +kernel
theorem dX4_beside_54 : decode cX4_beside 54 = .ok (.ixor, 1) := by decide +kernel
theorem dX4_beside_55 : decode cX4_beside 55 = .ok (.ireturn, 1) := by decide +kernel
theorem dX4_told_0 : decode cX4_told 0 = .ok (.iload_n 1, 1) := by decide +kernel
theorem dX4_told_1 : decode cX4_told 1 = .ok (.i2l, 1) := by decide +kernel
theorem dX4_told_2 : decode cX4_told 2 = .ok (.ldc2_w 171, 3) := by decide +kernel
theorem dX4_told_5 : decode cX4_told 5 = .ok (.ldc2_w 173, 3) := by decide +kernel
theorem dX4_told_8 : decode cX4_told 8 = .ok (.invokestatic 55, 3) := by decide +kernel
theorem dX4_told_11 : decode cX4_told 11 = .ok (.ifCond .eq 28, 3) := by decide +kernel
theorem dX4_told_14 : decode cX4_told 14 = .ok (.aload_n 0, 1) := by decide +kernel
theorem dX4_told_15 : decode cX4_told 15 = .ok (.iload_n 1, 1) := by decide +kernel
theorem dX4_told_16 : decode cX4_told 16 = .ok (.bipush 10, 2) := by decide +kernel
theorem dX4_told_18 : decode cX4_told 18 = .ok (.isub, 1) := by decide +kernel
theorem dX4_told_19 : decode cX4_told 19 = .ok (.invokevirtual 71, 3) := by decide +kernel
theorem dX4_told_22 : decode cX4_told 22 = .ok (.ifCond .eq 15, 3) := by decide +kernel
theorem dX4_told_25 : decode cX4_told 25 = .ok (.aload_n 0, 1) := by decide +kernel
theorem dX4_told_26 : decode cX4_told 26 = .ok (.getfield 34, 3) := by decide +kernel
theorem dX4_told_29 : decode cX4_told 29 = .ok (.iload_n 1, 1) := by decide +kernel
theorem dX4_told_30 : decode cX4_told 30 = .ok (.bipush 10, 2) := by decide +kernel
theorem dX4_told_32 : decode cX4_told 32 = .ok (.isub, 1) := by decide +kernel
theorem dX4_told_33 : decode cX4_told 33 = .ok (.iaload, 1) := by decide +kernel
theorem dX4_told_34 : decode cX4_told 34 = .ok (.goto 4, 3) := by decide +kernel
theorem dX4_told_37 : decode cX4_told 37 = .ok (.iconst 0, 1) := by decide +kernel
theorem dX4_told_38 : decode cX4_told 38 = .ok (.ireturn, 1) := by decide +kernel
theorem dX4_told_39 : decode cX4_told 39 = .ok (.iload_n 1, 1) := by decide +kernel
theorem dX4_told_40 : decode cX4_told 40 = .ok (.tableswitch 61 0 4 #[36, 41, 46, 51, 56], 36) := by decide +kernel
theorem dX4_told_76 : decode cX4_told 76 = .ok (.aload_n 0, 1) := by decide +kernel
theorem dX4_told_77 : decode cX4_told 77 = .ok (.getfield 61, 3) := by decide +kernel
theorem dX4_told_80 : decode cX4_told 80 = .ok (.ireturn, 1) := by decide +kernel
theorem dX4_told_81 : decode cX4_told 81 = .ok (.aload_n 0, 1) := by decide +kernel
theorem dX4_told_82 : decode cX4_told 82 = .ok (.getfield 101, 3) := by decide +kernel
theorem dX4_told_85 : decode cX4_told 85 = .ok (.ireturn, 1) := by decide +kernel
theorem dX4_told_86 : decode cX4_told 86 = .ok (.aload_n 0, 1) := by decide +kernel
theorem dX4_told_87 : decode cX4_told 87 = .ok (.getfield 90, 3) := by decide +kernel
theorem dX4_told_90 : decode cX4_told 90 = .ok (.ireturn, 1) := by decide +kernel
theorem dX4_told_91 : decode cX4_told 91 = .ok (.aload_n 0, 1) := by decide +kernel
theorem dX4_told_92 : decode cX4_told 92 = .ok (.getfield 83, 3) := by decide +kernel
theorem dX4_told_95 : decode cX4_told 95 = .ok (.ireturn, 1) := by decide +kernel
theorem dX4_told_96 : decode cX4_told 96 = .ok (.aload_n 0, 1) := by decide +kernel
theorem dX4_told_97 : decode cX4_told 97 = .ok (.getfield 49, 3) := by decide +kernel
theorem dX4_told_100 : decode cX4_told 100 = .ok (.ireturn, 1) := by decide +kernel
theorem dX4_told_101 : decode cX4_told 101 = .ok (.bipush (-2), 2) := by decide +kernel
theorem dX4_told_103 : decode cX4_told 103 = .ok (.ireturn, 1) := by decide +kernel
