theorem dX3_init_0 : decode cX3_init 0 = .ok (.aload_n 0, 1) := by decide +kernel
theorem dX3_init_1 : decode cX3_init 1 = .ok (.invokespecial 1, 3) := by decide +kernel
theorem dX3_init_4 : decode cX3_init 4 = .ok (.aload_n 0, 1) := by decide +kernel
theorem dX3_init_5 : decode cX3_init 5 = .ok (.new 7, 3) := by decide +kernel
theorem dX3_init_8 : decode cX3_init 8 = .ok (.dup, 1) := by decide +kernel
theorem dX3_init_9 : decode cX3_init 9 = .ok (.invokespecial 9, 3) := by decide +kernel
theorem dX3_init_12 : decode cX3_init 12 = .ok (.putfield 10, 3) := by decide +kernel
theorem dX3_init_15 : decode cX3_init 15 = .ok (.aload_n 0, 1) := by decide +kernel
theorem dX3_init_16 : decode cX3_init 16 = .ok (.new 16, 3) := by decide +kernel
theorem dX3_init_19 : decode cX3_init 19 = .ok (.dup, 1) := by decide +kernel
theorem dX3_init_20 : decode cX3_init 20 = .ok (.invokespecial 18, 3) := by decide +kernel
theorem dX3_init_23 : decode cX3_init 23 = .ok (.putfield 19, 3) := by decide +kernel
theorem dX3_init_26 : decode cX3_init 26 = .ok (.aload_n 0, 1) := by decide +kernel
theorem dX3_init_27 : decode cX3_init 27 = .ok (.new 23, 3) := by decide +kernel
theorem dX3_init_30 : decode cX3_init 30 = .ok (.dup, 1) := by decide +kernel
theorem dX3_init_31 : decode cX3_init 31 = .ok (.invokespecial 25, 3) := by decide +kernel
theorem dX3_init_34 : decode cX3_init 34 = .ok (.putfield 26, 3) := by decide +kernel
theorem dX3_init_37 : decode cX3_init 37 = .ok (.aload_n 0, 1) := by decide +kernel
theorem dX3_init_38 : decode cX3_init 38 = .ok (.iconst 0, 1) := by decide +kernel
theorem dX3_init_39 : decode cX3_init 39 = .ok (.putfield 30, 3) := by decide +kernel
theorem dX3_init_42 : decode cX3_init 42 = .ok (.aload_n 0, 1) := by decide +kernel
theorem dX3_init_43 : decode cX3_init 43 = .ok (.iconst 1, 1) := by decide +kernel
theorem dX3_init_44 : decode cX3_init 44 = .ok (.putfield 34, 3) := by decide +kernel
theorem dX3_init_47 : decode cX3_init 47 = .ok (.return_, 1) := by decide +kernel
theorem dX3_act_0 : decode cX3_act 0 = .ok (.iload_n 2, 1) := by decide +kernel
theorem dX3_act_1 : decode cX3_act 1 = .ok (.invokestatic 37, 3) := by decide +kernel
theorem dX3_act_4 : decode cX3_act 4 = .ok (.ifCond .eq 15, 3) := by decide +kernel
theorem dX3_act_7 : decode cX3_act 7 = .ok (.iload_n 3, 1) := by decide +kernel
theorem dX3_act_8 : decode cX3_act 8 = .ok (.invokestatic 37, 3) := by decide +kernel
theorem dX3_act_11 : decode cX3_act 11 = .ok (.ifCond .eq 8, 3) := by decide +kernel
theorem dX3_act_14 : decode cX3_act 14 = .ok (.iload_n 2, 1) := by decide +kernel
theorem dX3_act_15 : decode cX3_act 15 = .ok (.iload_n 3, 1) := by decide +kernel
theorem dX3_act_16 : decode cX3_act 16 = .ok (.if_icmp .ne 5, 3) := by decide +kernel
theorem dX3_act_19 : decode cX3_act 19 = .ok (.iconst (-1), 1) := by decide +kernel
theorem dX3_act_20 : decode cX3_act 20 = .ok (.ireturn, 1) := by decide +kernel
theorem dX3_act_21 : decode cX3_act 21 = .ok (.iload_n 1, 1) := by decide +kernel
theorem dX3_act_22 : decode cX3_act 22 = .ok (.invokestatic 41, 3) := by decide +kernel
theorem dX3_act_25 : decode cX3_act 25 = .ok (.ifCond .eq 14, 3) := by decide +kernel
theorem dX3_act_28 : decode cX3_act 28 = .ok (.iload 4, 2) := by decide +kernel
theorem dX3_act_30 : decode cX3_act 30 = .ok (.iconst 0, 1) := by decide +kernel
theorem dX3_act_31 : decode cX3_act 31 = .ok (.bipush 99, 2) := by decide +kernel
theorem dX3_act_33 : decode cX3_act 33 = .ok (.invokestatic 44, 3) := by decide +kernel
theorem dX3_act_36 : decode cX3_act 36 = .ok (.ifCond .ne 6, 3) := by decide +kernel
theorem dX3_act_39 : decode cX3_act 39 = .ok (.bipush (-2), 2) := by decide +kernel
theorem dX3_act_41 : decode cX3_act 41 = .ok (.ireturn, 1) := by decide +kernel
theorem dX3_act_42 : decode cX3_act 42 = .ok (.aload_n 0, 1) := by decide +kernel
theorem dX3_act_43 : decode cX3_act 43 = .ok (.getfield 10, 3) := by decide +kernel
theorem dX3_act_46 : decode cX3_act 46 = .ok (.getfield 48, 3) := by decide +kernel
theorem dX3_act_49 : decode cX3_act 49 = .ok (.bipush 12, 2) := by decide +kernel
theorem dX3_act_51 : decode cX3_act 51 = .ok (.if_icmp .lt 6, 3) := by decide +kernel
theorem dX3_act_54 : decode cX3_act 54 = .ok (.bipush (-4), 2) := by decide +kernel
theorem dX3_act_56 : decode cX3_act 56 = .ok (.ireturn, 1) := by decide +kernel
theorem dX3_act_57 : decode cX3_act 57 = .ok (.aload_n 0, 1) := by decide +kernel
theorem dX3_act_58 : decode cX3_act 58 = .ok (.getfield 10, 3) := by decide +kernel
theorem dX3_act_61 : decode cX3_act 61 = .ok (.iload_n 1, 1) := by decide +kernel
theorem dX3_act_62 : decode cX3_act 62 = .ok (.iload_n 2, 1) := by decide +kernel
theorem dX3_act_63 : decode cX3_act 63 = .ok (.iload_n 3, 1) := by decide +kernel
theorem dX3_act_64 : decode cX3_act 64 = .ok (.iload 4, 2) := by decide +kernel
theorem dX3_act_66 : decode cX3_act 66 = .ok (.invokevirtual 51, 3) := by decide +kernel
theorem dX3_act_69 : decode cX3_act 69 = .ok (.ireturn, 1) := by decide +kernel
theorem dX3_set_0 : decode cX3_set 0 = .ok (.aload_n 0, 1) := by decide +kernel
theorem dX3_set_1 : decode cX3_set 1 = .ok (.getfield 10, 3) := by decide +kernel
theorem dX3_set_4 : decode cX3_set 4 = .ok (.iload_n 1, 1) := by decide +kernel
theorem dX3_set_5 : decode cX3_set 5 = .ok (.invokevirtual 55, 3) := by decide +kernel
theorem dX3_set_8 : decode cX3_set 8 = .ok (.ifCond .ne 5, 3) := by decide +kernel
theorem dX3_set_11 : decode cX3_set 11 = .ok (.iconst (-1), 1) := by decide +kernel
theorem dX3_set_12 : decode cX3_set 12 = .ok (.ireturn, 1) := by decide +kernel
theorem dX3_set_13 : decode cX3_set 13 = .ok (.iload_n 2, 1) := by decide +kernel
theorem dX3_set_14 : decode cX3_set 14 = .ok (.iconst 0, 1) := by decide +kernel
theorem dX3_set_15 : decode cX3_set 15 = .ok (.iconst 3, 1) := by decide +kernel
theorem dX3_set_16 : decode cX3_set 16 = .ok (.invokestatic 44, 3) := by decide +kernel
theorem dX3_set_19 : decode cX3_set 19 = .ok (.ifCond .eq 20, 3) := by decide +kernel
theorem dX3_set_22 : decode cX3_set 22 = .ok (.iload_n 3, 1) := by decide +kernel
theorem dX3_set_23 : decode cX3_set 23 = .ok (.getstatic 58, 3) := by decide +kernel
theorem dX3_set_26 : decode cX3_set 26 = .ok (.iload_n 2, 1) := by decide +kernel
theorem dX3_set_27 : decode cX3_set 27 = .ok (.iaload, 1) := by decide +kernel
theorem dX3_set_28 : decode cX3_set 28 = .ok (.getstatic 62, 3) := by decide +kernel
theorem dX3_set_31 : decode cX3_set 31 = .ok (.iload_n 2, 1) := by decide +kernel
theorem dX3_set_32 : decode cX3_set 32 = .ok (.iaload, 1) := by decide +kernel
theorem dX3_set_33 : decode cX3_set 33 = .ok (.invokestatic 44, 3) := by decide +kernel
theorem dX3_set_36 : decode cX3_set 36 = .ok (.ifCond .ne 6, 3) := by decide +kernel
theorem dX3_set_39 : decode cX3_set 39 = .ok (.bipush (-2), 2) := by decide +kernel
theorem dX3_set_41 : decode cX3_set 41 = .ok (.ireturn, 1) := by decide +kernel
theorem dX3_set_42 : decode cX3_set 42 = .ok (.aload_n 0, 1) := by decide +kernel
theorem dX3_set_43 : decode cX3_set 43 = .ok (.getfield 10, 3) := by decide +kernel
theorem dX3_set_46 : decode cX3_set 46 = .ok (.getfield 65, 3) := by decide +kernel
theorem dX3_set_49 : decode cX3_set 49 = .ok (.iload_n 2, 1) := by decide +kernel
theorem dX3_set_50 : decode cX3_set 50 = .ok (.aaload, 1) := by decide +kernel
theorem dX3_set_51 : decode cX3_set 51 = .ok (.iload_n 1, 1) := by decide +kernel
theorem dX3_set_52 : decode cX3_set 52 = .ok (.iaload, 1) := by decide +kernel
theorem dX3_set_53 : decode cX3_set 53 = .ok (.istore 4, 2) := by decide +kernel
theorem dX3_set_55 : decode cX3_set 55 = .ok (.aload_n 0, 1) := by decide +kernel
theorem dX3_set_56 : decode cX3_set 56 = .ok (.getfield 10, 3) := by decide +kernel
theorem dX3_set_59 : decode cX3_set 59 = .ok (.getfield 65, 3) := by decide +kernel
theorem dX3_set_62 : decode cX3_set 62 = .ok (.iload_n 2, 1) := by decide +kernel
theorem dX3_set_63 : decode cX3_set 63 = .ok (.aaload, 1) := by decide +kernel
theorem dX3_set_64 : decode cX3_set 64 = .ok (.iload_n 1, 1) := by decide +kernel
theorem dX3_set_65 : decode cX3_set 65 = .ok (.iload_n 3, 1) := by decide +kernel
theorem dX3_set_66 : decode cX3_set 66 = .ok (.iastore, 1) := by decide +kernel
theorem dX3_set_67 : decode cX3_set 67 = .ok (.iload_n 2, 1) := by decide +kernel
theorem dX3_set_68 : decode cX3_set 68 = .ok (.iconst 2, 1) := by decide +kernel
theorem dX3_set_69 : decode cX3_set 69 = .ok (.if_icmp .ne 14, 3) := by decide +kernel
theorem dX3_set_72 : decode cX3_set 72 = .ok (.iload 4, 2) := by decide +kernel
theorem dX3_set_74 : decode cX3_set 74 = .ok (.iconst (-1), 1) := by decide +kernel
theorem dX3_set_75 : decode cX3_set 75 = .ok (.if_icmp .ne 8, 3) := by decide +kernel
theorem dX3_set_78 : decode cX3_set 78 = .ok (.bipush (-6), 2) := by decide +kernel
theorem dX3_set_80 : decode cX3_set 80 = .ok (.goto 5, 3) := by decide +kernel
theorem dX3_set_83 : decode cX3_set 83 = .ok (.iload 4, 2) := by decide +kernel
theorem dX3_set_85 : decode cX3_set 85 = .ok (.ireturn, 1) := by decide +kernel
theorem dX3_law_0 : decode cX3_law 0 = .ok (.iload_n 1, 1) := by decide +kernel
theorem dX3_law_1 : decode cX3_law 1 = .ok (.ifCond .ne 24, 3) := by decide +kernel
theorem dX3_law_4 : decode cX3_law 4 = .ok (.iload_n 2, 1) := by decide +kernel
theorem dX3_law_5 : decode cX3_law 5 = .ok (.iconst 0, 1) := by decide +kernel
theorem dX3_law_6 : decode cX3_law 6 = .ok (.iconst 1, 1) := by decide +kernel
theorem dX3_law_7 : decode cX3_law 7 = .ok (.invokestatic 44, 3) := by decide +kernel
theorem dX3_law_10 : decode cX3_law 10 = .ok (.ifCond .eq 15, 3) := by decide +kernel
theorem dX3_law_13 : decode cX3_law 13 = .ok (.aload_n 0, 1) := by decide +kernel
theorem dX3_law_14 : decode cX3_law 14 = .ok (.getfield 30, 3) := by decide +kernel
theorem dX3_law_17 : decode cX3_law 17 = .ok (.istore_n 3, 1) := by decide +kernel
theorem dX3_law_18 : decode cX3_law 18 = .ok (.aload_n 0, 1) := by decide +kernel
theorem dX3_law_19 : decode cX3_law 19 = .ok (.iload_n 2, 1) := by decide +kernel
theorem dX3_law_20 : decode cX3_law 20 = .ok (.putfield 30, 3) := by decide +kernel
theorem dX3_law_23 : decode cX3_law 23 = .ok (.iload_n 3, 1) := by decide +kernel
theorem dX3_law_24 : decode cX3_law 24 = .ok (.ireturn, 1) := by decide +kernel
theorem dX3_law_25 : decode cX3_law 25 = .ok (.iload_n 1, 1) := by decide +kernel
theorem dX3_law_26 : decode cX3_law 26 = .ok (.iconst 1, 1) := by decide +kernel
theorem dX3_law_27 : decode cX3_law 27 = .ok (.if_icmp .ne 25, 3) := by decide +kernel
theorem dX3_law_30 : decode cX3_law 30 = .ok (.iload_n 2, 1) := by decide +kernel
theorem dX3_law_31 : decode cX3_law 31 = .ok (.iconst 0, 1) := by decide +kernel
theorem dX3_law_32 : decode cX3_law 32 = .ok (.bipush 9, 2) := by decide +kernel
theorem dX3_law_34 : decode cX3_law 34 = .ok (.invokestatic 44, 3) := by decide +kernel
theorem dX3_law_37 : decode cX3_law 37 = .ok (.ifCond .eq 15, 3) := by decide +kernel
theorem dX3_law_40 : decode cX3_law 40 = .ok (.aload_n 0, 1) := by decide +kernel
theorem dX3_law_41 : decode cX3_law 41 = .ok (.getfield 34, 3) := by decide +kernel
theorem dX3_law_44 : decode cX3_law 44 = .ok (.istore_n 3, 1) := by decide +kernel
theorem dX3_law_45 : decode cX3_law 45 = .ok (.aload_n 0, 1) := by decide +kernel
theorem dX3_law_46 : decode cX3_law 46 = .ok (.iload_n 2, 1) := by decide +kernel
theorem dX3_law_47 : decode cX3_law 47 = .ok (.putfield 34, 3) := by decide +kernel
theorem dX3_law_50 : decode cX3_law 50 = .ok (.iload_n 3, 1) := by decide +kernel
theorem dX3_law_51 : decode cX3_law 51 = .ok (.ireturn, 1) := by decide +kernel
theorem dX3_law_52 : decode cX3_law 52 = .ok (.bipush (-2), 2) := by decide +kernel
theorem dX3_law_54 : decode cX3_law 54 = .ok (.ireturn, 1) := by decide +kernel
theorem dX3_say_0 : decode cX3_say 0 = .ok (.iload_n 1, 1) := by decide +kernel
theorem dX3_say_1 : decode cX3_say 1 = .ok (.bipush 33, 2) := by decide +kernel
theorem dX3_say_3 : decode cX3_say 3 = .ok (.bipush 126, 2) := by decide +kernel
theorem dX3_say_5 : decode cX3_say 5 = .ok (.invokestatic 44, 3) := by decide +kernel
theorem dX3_say_8 : decode cX3_say 8 = .ok (.ifCond .ne 6, 3) := by decide +kernel
theorem dX3_say_11 : decode cX3_say 11 = .ok (.bipush (-2), 2) := by decide +kernel
theorem dX3_say_13 : decode cX3_say 13 = .ok (.ireturn, 1) := by decide +kernel
theorem dX3_say_14 : decode cX3_say 14 = .ok (.aload_n 0, 1) := by decide +kernel
theorem dX3_say_15 : decode cX3_say 15 = .ok (.getfield 26, 3) := by decide +kernel
theorem dX3_say_18 : decode cX3_say 18 = .ok (.getfield 69, 3) := by decide +kernel
theorem dX3_say_21 : decode cX3_say 21 = .ok (.bipush 40, 2) := by decide +kernel
theorem dX3_say_23 : decode cX3_say 23 = .ok (.if_icmp .lt 6, 3) := by decide +kernel
theorem dX3_say_26 : decode cX3_say 26 = .ok (.bipush (-4), 2) := by decide +kernel
theorem dX3_say_28 : decode cX3_say 28 = .ok (.ireturn, 1) := by decide +kernel
theorem dX3_say_29 : decode cX3_say 29 = .ok (.aload_n 0, 1) := by decide +kernel
theorem dX3_say_30 : decode cX3_say 30 = .ok (.getfield 26, 3) := by decide +kernel
theorem dX3_say_33 : decode cX3_say 33 = .ok (.iload_n 1, 1) := by decide +kernel
theorem dX3_say_34 : decode cX3_say 34 = .ok (.invokevirtual 70, 3) := by decide +kernel
theorem dX3_say_37 : decode cX3_say 37 = .ok (.ireturn, 1) := by decide +kernel
theorem dX3_wipe_0 : decode cX3_wipe 0 = .ok (.aload_n 0, 1) := by decide +kernel
theorem dX3_wipe_1 : decode cX3_wipe 1 = .ok (.getfield 26, 3) := by decide +kernel
theorem dX3_wipe_4 : decode cX3_wipe 4 = .ok (.invokevirtual 73, 3) := by decide +kernel
theorem dX3_wipe_7 : decode cX3_wipe 7 = .ok (.ireturn, 1) := by decide +kernel
theorem dX3_fault_0 : decode cX3_fault 0 = .ok (.aload_n 0, 1) := by decide +kernel
theorem dX3_fault_1 : decode cX3_fault 1 = .ok (.getfield 26, 3) := by decide +kernel
theorem dX3_fault_4 : decode cX3_fault 4 = .ok (.invokevirtual 77, 3) := by decide +kernel
theorem dX3_fault_7 : decode cX3_fault 7 = .ok (.ireturn, 1) := by decide +kernel
theorem dX3_leans_0 : decode cX3_leans 0 = .ok (.aload_n 0, 1) := by decide +kernel
theorem dX3_leans_1 : decode cX3_leans 1 = .ok (.getfield 10, 3) := by decide +kernel
theorem dX3_leans_4 : decode cX3_leans 4 = .ok (.iload_n 1, 1) := by decide +kernel
theorem dX3_leans_5 : decode cX3_leans 5 = .ok (.invokevirtual 55, 3) := by decide +kernel
theorem dX3_leans_8 : decode cX3_leans 8 = .ok (.ifCond .ne 5, 3) := by decide +kernel
theorem dX3_leans_11 : decode cX3_leans 11 = .ok (.iconst (-1), 1) := by decide +kernel
theorem dX3_leans_12 : decode cX3_leans 12 = .ok (.ireturn, 1) := by decide +kernel
theorem dX3_leans_13 : decode cX3_leans 13 = .ok (.aload_n 0, 1) := by decide +kernel
theorem dX3_leans_14 : decode cX3_leans 14 = .ok (.getfield 26, 3) := by decide +kernel
theorem dX3_leans_17 : decode cX3_leans 17 = .ok (.invokevirtual 77, 3) := by decide +kernel
theorem dX3_leans_20 : decode cX3_leans 20 = .ok (.bipush (-6), 2) := by decide +kernel
theorem dX3_leans_22 : decode cX3_leans 22 = .ok (.if_icmp .eq 6, 3) := by decide +kernel
theorem dX3_leans_25 : decode cX3_leans 25 = .ok (.bipush (-5), 2) := by decide +kernel
theorem dX3_leans_27 : decode cX3_leans 27 = .ok (.ireturn, 1) := by decide +kernel
theorem dX3_leans_28 : decode cX3_leans 28 = .ok (.aload_n 0, 1) := by decide +kernel
theorem dX3_leans_29 : decode cX3_leans 29 = .ok (.getfield 10, 3) := by decide +kernel
theorem dX3_leans_32 : decode cX3_leans 32 = .ok (.iload_n 1, 1) := by decide +kernel
theorem dX3_leans_33 : decode cX3_leans 33 = .ok (.aload_n 0, 1) := by decide +kernel
theorem dX3_leans_34 : decode cX3_leans 34 = .ok (.getfield 26, 3) := by decide +kernel
theorem dX3_leans_37 : decode cX3_leans 37 = .ok (.invokevirtual 80, 3) := by decide +kernel
theorem dX3_leans_40 : decode cX3_leans 40 = .ok (.aload_n 0, 1) := by decide +kernel
theorem dX3_leans_41 : decode cX3_leans 41 = .ok (.getfield 26, 3) := by decide +kernel
theorem dX3_leans_44 : decode cX3_leans 44 = .ok (.invokevirtual 73, 3) := by decide +kernel
theorem dX3_leans_47 : decode cX3_leans 47 = .ok (.pop, 1) := by decide +kernel
theorem dX3_leans_48 : decode cX3_leans 48 = .ok (.aload_n 0, 1) := by decide +kernel
theorem dX3_leans_49 : decode cX3_leans 49 = .ok (.getfield 10, 3) := by decide +kernel
theorem dX3_leans_52 : decode cX3_leans 52 = .ok (.getfield 84, 3) := by decide +kernel
theorem dX3_leans_55 : decode cX3_leans 55 = .ok (.iload_n 1, 1) := by decide +kernel
theorem dX3_leans_56 : decode cX3_leans 56 = .ok (.iaload, 1) := by decide +kernel
theorem dX3_leans_57 : decode cX3_leans 57 = .ok (.ireturn, 1) := by decide +kernel
theorem dX3_free_0 : decode cX3_free 0 = .ok (.aload_n 0, 1) := by decide +kernel
theorem dX3_free_1 : decode cX3_free 1 = .ok (.getfield 10, 3) := by decide +kernel
theorem dX3_free_4 : decode cX3_free 4 = .ok (.iload_n 1, 1) := by decide +kernel
theorem dX3_free_5 : decode cX3_free 5 = .ok (.invokevirtual 55, 3) := by decide +kernel
theorem dX3_free_8 : decode cX3_free 8 = .ok (.ifCond .ne 5, 3) := by decide +kernel
theorem dX3_free_11 : decode cX3_free 11 = .ok (.iconst (-1), 1) := by decide +kernel
theorem dX3_free_12 : decode cX3_free 12 = .ok (.ireturn, 1) := by decide +kernel
theorem dX3_free_13 : decode cX3_free 13 = .ok (.aload_n 0, 1) := by decide +kernel
theorem dX3_free_14 : decode cX3_free 14 = .ok (.getfield 10, 3) := by decide +kernel
theorem dX3_free_17 : decode cX3_free 17 = .ok (.getfield 84, 3) := by decide +kernel
theorem dX3_free_20 : decode cX3_free 20 = .ok (.iload_n 1, 1) := by decide +kernel
theorem dX3_free_21 : decode cX3_free 21 = .ok (.iaload, 1) := by decide +kernel
theorem dX3_free_22 : decode cX3_free 22 = .ok (.istore_n 2, 1) := by decide +kernel
theorem dX3_free_23 : decode cX3_free 23 = .ok (.aload_n 0, 1) := by decide +kernel
theorem dX3_free_24 : decode cX3_free 24 = .ok (.getfield 10, 3) := by decide +kernel
theorem dX3_free_27 : decode cX3_free 27 = .ok (.getfield 84, 3) := by decide +kernel
theorem dX3_free_30 : decode cX3_free 30 = .ok (.iload_n 1, 1) := by decide +kernel
theorem dX3_free_31 : decode cX3_free 31 = .ok (.iconst 0, 1) := by decide +kernel
theorem dX3_free_32 : decode cX3_free 32 = .ok (.iastore, 1) := by decide +kernel
theorem dX3_free_33 : decode cX3_free 33 = .ok (.iload_n 2, 1) := by decide +kernel
theorem dX3_free_34 : decode cX3_free 34 = .ok (.ireturn, 1) := by decide +kernel
theorem dX3_ask_0 : decode cX3_ask 0 = .ok (.aload_n 0, 1) := by decide +kernel
theorem dX3_ask_1 : decode cX3_ask 1 = .ok (.getfield 10, 3) := by decide +kernel
theorem dX3_ask_4 : decode cX3_ask 4 = .ok (.iload_n 1, 1) := by decide +kernel
theorem dX3_ask_5 : decode cX3_ask 5 = .ok (.invokevirtual 55, 3) := by decide +kernel
theorem dX3_ask_8 : decode cX3_ask 8 = .ok (.ifCond .eq 10, 3) := by decide +kernel
theorem dX3_ask_11 : decode cX3_ask 11 = .ok (.iload_n 2, 1) := by decide +kernel
theorem dX3_ask_12 : decode cX3_ask 12 = .ok (.invokestatic 37, 3) := by decide +kernel
theorem dX3_ask_15 : decode cX3_ask 15 = .ok (.ifCond .ne 5, 3) := by decide +kernel
theorem dX3_ask_18 : decode cX3_ask 18 = .ok (.iconst (-1), 1) := by decide +kernel
theorem dX3_ask_19 : decode cX3_ask 19 = .ok (.ireturn, 1) := by decide +kernel
theorem dX3_ask_20 : decode cX3_ask 20 = .ok (.iload_n 3, 1) := by decide +kernel
theorem dX3_ask_21 : decode cX3_ask 21 = .ok (.invokestatic 41, 3) := by decide +kernel
theorem dX3_ask_24 : decode cX3_ask 24 = .ok (.ifCond .ne 6, 3) := by decide +kernel
theorem dX3_ask_27 : decode cX3_ask 27 = .ok (.bipush (-2), 2) := by decide +kernel
theorem dX3_ask_29 : decode cX3_ask 29 = .ok (.ireturn, 1) := by decide +kernel
theorem dX3_ask_30 : decode cX3_ask 30 = .ok (.aload_n 0, 1) := by decide +kernel
theorem dX3_ask_31 : decode cX3_ask 31 = .ok (.getfield 19, 3) := by decide +kernel
theorem dX3_ask_34 : decode cX3_ask 34 = .ok (.getfield 87, 3) := by decide +kernel
theorem dX3_ask_37 : decode cX3_ask 37 = .ok (.bipush 12, 2) := by decide +kernel
theorem dX3_ask_39 : decode cX3_ask 39 = .ok (.if_icmp .lt 6, 3) := by decide +kernel
theorem dX3_ask_42 : decode cX3_ask 42 = .ok (.bipush (-4), 2) := by decide +kernel
theorem dX3_ask_44 : decode cX3_ask 44 = .ok (.ireturn, 1) := by decide +kernel
theorem dX3_ask_45 : decode cX3_ask 45 = .ok (.aload_n 0, 1) := by decide +kernel
theorem dX3_ask_46 : decode cX3_ask 46 = .ok (.getfield 19, 3) := by decide +kernel
theorem dX3_ask_49 : decode cX3_ask 49 = .ok (.iload_n 1, 1) := by decide +kernel
theorem dX3_ask_50 : decode cX3_ask 50 = .ok (.iload_n 2, 1) := by decide +kernel
theorem dX3_ask_51 : decode cX3_ask 51 = .ok (.iload_n 3, 1) := by decide +kernel
theorem dX3_ask_52 : decode cX3_ask 52 = .ok (.invokevirtual 88, 3) := by decide +kernel
theorem dX3_ask_55 : decode cX3_ask 55 = .ok (.ireturn, 1) := by decide +kernel
theorem dX3_counts_0 : decode cX3_counts 0 = .ok (.iload_n 1, 1) := by decide +kernel
theorem dX3_counts_1 : decode cX3_counts 1 = .ok (.ifCond .lt 14, 3) := by decide +kernel
theorem dX3_counts_4 : decode cX3_counts 4 = .ok (.iload_n 1, 1) := by decide +kernel
theorem dX3_counts_5 : decode cX3_counts 5 = .ok (.aload_n 0, 1) := by decide +kernel
theorem dX3_counts_6 : decode cX3_counts 6 = .ok (.getfield 19, 3) := by decide +kernel
theorem dX3_counts_9 : decode cX3_counts 9 = .ok (.getfield 87, 3) := by decide +kernel
theorem dX3_counts_12 : decode cX3_counts 12 = .ok (.if_icmp .lt 5, 3) := by decide +kernel
theorem dX3_counts_15 : decode cX3_counts 15 = .ok (.iconst (-1), 1) := by decide +kernel
theorem dX3_counts_16 : decode cX3_counts 16 = .ok (.ireturn, 1) := by decide +kernel
theorem dX3_counts_17 : decode cX3_counts 17 = .ok (.aload_n 0, 1) := by decide +kernel
theorem dX3_counts_18 : decode cX3_counts 18 = .ok (.getfield 19, 3) := by decide +kernel
theorem dX3_counts_21 : decode cX3_counts 21 = .ok (.iload_n 1, 1) := by decide +kernel
theorem dX3_counts_22 : decode cX3_counts 22 = .ok (.aload_n 0, 1) := by decide +kernel
theorem dX3_counts_23 : decode cX3_counts 23 = .ok (.getfield 10, 3) := by decide +kernel
theorem dX3_counts_26 : decode cX3_counts 26 = .ok (.invokevirtual 91, 3) := by decide +kernel
theorem dX3_counts_29 : decode cX3_counts 29 = .ok (.ifCond .eq 7, 3) := by decide +kernel
theorem dX3_counts_32 : decode cX3_counts 32 = .ok (.iconst 1, 1) := by decide +kernel
theorem dX3_counts_33 : decode cX3_counts 33 = .ok (.goto 4, 3) := by decide +kernel
theorem dX3_counts_36 : decode cX3_counts 36 = .ok (.iconst 0, 1) := by decide +kernel
theorem dX3_counts_37 : decode cX3_counts 37 = .ok (.ireturn, 1) := by decide +kernel
theorem dX3_drop_0 : decode cX3_drop 0 = .ok (.aload_n 0, 1) := by decide +kernel
theorem dX3_drop_1 : decode cX3_drop 1 = .ok (.getfield 19, 3) := by decide +kernel
theorem dX3_drop_4 : decode cX3_drop 4 = .ok (.getfield 87, 3) := by decide +kernel
theorem dX3_drop_7 : decode cX3_drop 7 = .ok (.ifCond .ne 6, 3) := by decide +kernel
theorem dX3_drop_10 : decode cX3_drop 10 = .ok (.bipush (-5), 2) := by decide +kernel
theorem dX3_drop_12 : decode cX3_drop 12 = .ok (.ireturn, 1) := by decide +kernel
theorem dX3_drop_13 : decode cX3_drop 13 = .ok (.aload_n 0, 1) := by decide +kernel
theorem dX3_drop_14 : decode cX3_drop 14 = .ok (.getfield 19, 3) := by decide +kernel
theorem dX3_drop_17 : decode cX3_drop 17 = .ok (.dup, 1) := by decide +kernel
theorem dX3_drop_18 : decode cX3_drop 18 = .ok (.getfield 87, 3) := by decide +kernel
theorem dX3_drop_21 : decode cX3_drop 21 = .ok (.iconst 1, 1) := by decide +kernel
theorem dX3_drop_22 : decode cX3_drop 22 = .ok (.isub, 1) := by decide +kernel
theorem dX3_drop_23 : decode cX3_drop 23 = .ok (.putfield 87, 3) := by decide +kernel
theorem dX3_drop_26 : decode cX3_drop 26 = .ok (.aload_n 0, 1) := by decide +kernel
theorem dX3_drop_27 : decode cX3_drop 27 = .ok (.getfield 19, 3) := by decide +kernel
theorem dX3_drop_30 : decode cX3_drop 30 = .ok (.getfield 87, 3) := by decide +kernel
theorem dX3_drop_33 : decode cX3_drop 33 = .ok (.ireturn, 1) := by decide +kernel
theorem dX3_all_0 : decode cX3_all 0 = .ok (.iload_n 1, 1) := by decide +kernel
theorem dX3_all_1 : decode cX3_all 1 = .ok (.invokestatic 41, 3) := by decide +kernel
theorem dX3_all_4 : decode cX3_all 4 = .ok (.ifCond .eq 12, 3) := by decide +kernel
theorem dX3_all_7 : decode cX3_all 7 = .ok (.iload_n 2, 1) := by decide +kernel
theorem dX3_all_8 : decode cX3_all 8 = .ok (.iconst 0, 1) := by decide +kernel
theorem dX3_all_9 : decode cX3_all 9 = .ok (.iconst 2, 1) := by decide +kernel
theorem dX3_all_10 : decode cX3_all 10 = .ok (.invokestatic 44, 3) := by decide +kernel
theorem dX3_all_13 : decode cX3_all 13 = .ok (.ifCond .ne 6, 3) := by decide +kernel
theorem dX3_all_16 : decode cX3_all 16 = .ok (.bipush (-2), 2) := by decide +kernel
theorem dX3_all_18 : decode cX3_all 18 = .ok (.ireturn, 1) := by decide +kernel
theorem dX3_all_19 : decode cX3_all 19 = .ok (.aload_n 0, 1) := by decide +kernel
theorem dX3_all_20 : decode cX3_all 20 = .ok (.iload_n 1, 1) := by decide +kernel
theorem dX3_all_21 : decode cX3_all 21 = .ok (.invokevirtual 95, 3) := by decide +kernel
theorem dX3_all_24 : decode cX3_all 24 = .ok (.istore_n 3, 1) := by decide +kernel
theorem dX3_all_25 : decode cX3_all 25 = .ok (.iload_n 2, 1) := by decide +kernel
theorem dX3_all_26 : decode cX3_all 26 = .ok (.ifCond .ne 5, 3) := by decide +kernel
theorem dX3_all_29 : decode cX3_all 29 = .ok (.iload_n 3, 1) := by decide +kernel
theorem dX3_all_30 : decode cX3_all 30 = .ok (.ireturn, 1) := by decide +kernel
theorem dX3_all_31 : decode cX3_all 31 = .ok (.iload_n 2, 1) := by decide +kernel
theorem dX3_all_32 : decode cX3_all 32 = .ok (.iconst 1, 1) := by decide +kernel
theorem dX3_all_33 : decode cX3_all 33 = .ok (.if_icmp .ne 18, 3) := by decide +kernel
theorem dX3_all_36 : decode cX3_all 36 = .ok (.aload_n 0, 1) := by decide +kernel
theorem dX3_all_37 : decode cX3_all 37 = .ok (.getfield 10, 3) := by decide +kernel
theorem dX3_all_40 : decode cX3_all 40 = .ok (.iload_n 3, 1) := by decide +kernel
theorem dX3_all_41 : decode cX3_all 41 = .ok (.aload_n 0, 1) := by decide +kernel
theorem dX3_all_42 : decode cX3_all 42 = .ok (.invokevirtual 98, 3) := by decide +kernel
theorem dX3_all_45 : decode cX3_all 45 = .ok (.invokevirtual 101, 3) := by decide +kernel
theorem dX3_all_48 : decode cX3_all 48 = .ok (.goto 15, 3) := by decide +kernel
theorem dX3_all_51 : decode cX3_all 51 = .ok (.aload_n 0, 1) := by decide +kernel
theorem dX3_all_52 : decode cX3_all 52 = .ok (.getfield 10, 3) := by decide +kernel
theorem dX3_all_55 : decode cX3_all 55 = .ok (.iload_n 3, 1) := by decide +kernel
theorem dX3_all_56 : decode cX3_all 56 = .ok (.aload_n 0, 1) := by decide +kernel
theorem dX3_all_57 : decode cX3_all 57 = .ok (.invokevirtual 98, 3) := by decide +kernel
theorem dX3_all_60 : decode cX3_all 60 = .ok (.invokevirtual 105, 3) := by decide +kernel
theorem dX3_all_63 : decode cX3_all 63 = .ok (.ireturn, 1) := by decide +kernel
theorem dX3_why_0 : decode cX3_why 0 = .ok (.aload_n 0, 1) := by decide +kernel
theorem dX3_why_1 : decode cX3_why 1 = .ok (.getfield 10, 3) := by decide +kernel
theorem dX3_why_4 : decode cX3_why 4 = .ok (.iload_n 1, 1) := by decide +kernel
theorem dX3_why_5 : decode cX3_why 5 = .ok (.invokevirtual 55, 3) := by decide +kernel
theorem dX3_why_8 : decode cX3_why 8 = .ok (.ifCond .ne 5, 3) := by decide +kernel
theorem dX3_why_11 : decode cX3_why 11 = .ok (.iconst (-1), 1) := by decide +kernel
theorem dX3_why_12 : decode cX3_why 12 = .ok (.ireturn, 1) := by decide +kernel
theorem dX3_why_13 : decode cX3_why 13 = .ok (.iload_n 2, 1) := by decide +kernel
theorem dX3_why_14 : decode cX3_why 14 = .ok (.invokestatic 41, 3) := by decide +kernel
theorem dX3_why_17 : decode cX3_why 17 = .ok (.ifCond .ne 6, 3) := by decide +kernel
theorem dX3_why_20 : decode cX3_why 20 = .ok (.bipush (-2), 2) := by decide +kernel
theorem dX3_why_22 : decode cX3_why 22 = .ok (.ireturn, 1) := by decide +kernel
theorem dX3_why_23 : decode cX3_why 23 = .ok (.aload_n 0, 1) := by decide +kernel
theorem dX3_why_24 : decode cX3_why 24 = .ok (.getfield 10, 3) := by decide +kernel
theorem dX3_why_27 : decode cX3_why 27 = .ok (.iload_n 1, 1) := by decide +kernel
theorem dX3_why_28 : decode cX3_why 28 = .ok (.iload_n 2, 1) := by decide +kernel
theorem dX3_why_29 : decode cX3_why 29 = .ok (.invokevirtual 108, 3) := by decide +kernel
theorem dX3_why_32 : decode cX3_why 32 = .ok (.ifCond .ne 5, 3) := by decide +kernel
theorem dX3_why_35 : decode cX3_why 35 = .ok (.iconst 1, 1) := by decide +kernel
theorem dX3_why_36 : decode cX3_why 36 = .ok (.ireturn, 1) := by decide +kernel
theorem dX3_why_37 : decode cX3_why 37 = .ok (.aload_n 0, 1) := by decide +kernel
theorem dX3_why_38 : decode cX3_why 38 = .ok (.getfield 10, 3) := by decide +kernel
theorem dX3_why_41 : decode cX3_why 41 = .ok (.iload_n 1, 1) := by decide +kernel
theorem dX3_why_42 : decode cX3_why 42 = .ok (.iload_n 2, 1) := by decide +kernel
theorem dX3_why_43 : decode cX3_why 43 = .ok (.invokevirtual 112, 3) := by decide +kernel
theorem dX3_why_46 : decode cX3_why 46 = .ok (.ifCond .eq 5, 3) := by decide +kernel
theorem dX3_why_49 : decode cX3_why 49 = .ok (.iconst 2, 1) := by decide +kernel
theorem dX3_why_50 : decode cX3_why 50 = .ok (.ireturn, 1) := by decide +kernel
theorem dX3_why_51 : decode cX3_why 51 = .ok (.aload_n 0, 1) := by decide +kernel
theorem dX3_why_52 : decode cX3_why 52 = .ok (.iload_n 2, 1) := by decide +kernel
theorem dX3_why_53 : decode cX3_why 53 = .ok (.invokevirtual 95, 3) := by decide +kernel
theorem dX3_why_56 : decode cX3_why 56 = .ok (.istore_n 3, 1) := by decide +kernel
theorem dX3_why_57 : decode cX3_why 57 = .ok (.iload_n 3, 1) := by decide +kernel
theorem dX3_why_58 : decode cX3_why 58 = .ok (.iload_n 1, 1) := by decide +kernel
theorem dX3_why_59 : decode cX3_why 59 = .ok (.invokestatic 115, 3) := by decide +kernel
theorem dX3_why_62 : decode cX3_why 62 = .ok (.ifCond .ne 5, 3) := by decide +kernel
theorem dX3_why_65 : decode cX3_why 65 = .ok (.iconst 3, 1) := by decide +kernel
theorem dX3_why_66 : decode cX3_why 66 = .ok (.ireturn, 1) := by decide +kernel
theorem dX3_why_67 : decode cX3_why 67 = .ok (.aload_n 0, 1) := by decide +kernel
theorem dX3_why_68 : decode cX3_why 68 = .ok (.getfield 10, 3) := by decide +kernel
theorem dX3_why_71 : decode cX3_why 71 = .ok (.iload_n 3, 1) := by decide +kernel
theorem dX3_why_72 : decode cX3_why 72 = .ok (.aload_n 0, 1) := by decide +kernel
theorem dX3_why_73 : decode cX3_why 73 = .ok (.invokevirtual 98, 3) := by decide +kernel
theorem dX3_why_76 : decode cX3_why 76 = .ok (.invokevirtual 101, 3) := by decide +kernel
theorem dX3_why_79 : decode cX3_why 79 = .ok (.iload_n 1, 1) := by decide +kernel
theorem dX3_why_80 : decode cX3_why 80 = .ok (.invokestatic 115, 3) := by decide +kernel
theorem dX3_why_83 : decode cX3_why 83 = .ok (.ifCond .eq 7, 3) := by decide +kernel
theorem dX3_why_86 : decode cX3_why 86 = .ok (.iconst 0, 1) := by decide +kernel
theorem dX3_why_87 : decode cX3_why 87 = .ok (.goto 4, 3) := by decide +kernel
theorem dX3_why_90 : decode cX3_why 90 = .ok (.iconst 4, 1) := by decide +kernel
theorem dX3_why_91 : decode cX3_why 91 = .ok (.ireturn, 1) := by decide +kernel
theorem dX3_under_0 : decode cX3_under 0 = .ok (.aload_n 0, 1) := by decide +kernel
theorem dX3_under_1 : decode cX3_under 1 = .ok (.getfield 10, 3) := by decide +kernel
theorem dX3_under_4 : decode cX3_under 4 = .ok (.iload_n 1, 1) := by decide +kernel
theorem dX3_under_5 : decode cX3_under 5 = .ok (.invokevirtual 55, 3) := by decide +kernel
theorem dX3_under_8 : decode cX3_under 8 = .ok (.ifCond .ne 5, 3) := by decide +kernel
theorem dX3_under_11 : decode cX3_under 11 = .ok (.iconst (-1), 1) := by decide +kernel
theorem dX3_under_12 : decode cX3_under 12 = .ok (.ireturn, 1) := by decide +kernel
theorem dX3_under_13 : decode cX3_under 13 = .ok (.aload_n 0, 1) := by decide +kernel
theorem dX3_under_14 : decode cX3_under 14 = .ok (.getfield 10, 3) := by decide +kernel
theorem dX3_under_17 : decode cX3_under 17 = .ok (.iload_n 1, 1) := by decide +kernel
theorem dX3_under_18 : decode cX3_under 18 = .ok (.invokevirtual 118, 3) := by decide +kernel
theorem dX3_under_21 : decode cX3_under 21 = .ok (.istore_n 2, 1) := by decide +kernel
theorem dX3_under_22 : decode cX3_under 22 = .ok (.iconst 0, 1) := by decide +kernel
theorem dX3_under_23 : decode cX3_under 23 = .ok (.istore_n 3, 1) := by decide +kernel
theorem dX3_under_24 : decode cX3_under 24 = .ok (.iload_n 3, 1) := by decide +kernel
theorem dX3_under_25 : decode cX3_under 25 = .ok (.bipush 12, 2) := by decide +kernel
theorem dX3_under_27 : decode cX3_under 27 = .ok (.if_icmp .ge 33, 3) := by decide +kernel
theorem dX3_under_30 : decode cX3_under 30 = .ok (.iload_n 2, 1) := by decide +kernel
theorem dX3_under_31 : decode cX3_under 31 = .ok (.aload_n 0, 1) := by decide +kernel
theorem dX3_under_32 : decode cX3_under 32 = .ok (.getfield 10, 3) := by decide +kernel
theorem dX3_under_35 : decode cX3_under 35 = .ok (.iload_n 2, 1) := by decide +kernel
theorem dX3_under_36 : decode cX3_under 36 = .ok (.invokevirtual 121, 3) := by decide +kernel
theorem dX3_under_39 : decode cX3_under 39 = .ok (.ior, 1) := by decide +kernel
theorem dX3_under_40 : decode cX3_under 40 = .ok (.istore 4, 2) := by decide +kernel
theorem dX3_under_42 : decode cX3_under 42 = .ok (.iload 4, 2) := by decide +kernel
theorem dX3_under_44 : decode cX3_under 44 = .ok (.iload_n 2, 1) := by decide +kernel
theorem dX3_under_45 : decode cX3_under 45 = .ok (.if_icmp .ne 6, 3) := by decide +kernel
theorem dX3_under_48 : decode cX3_under 48 = .ok (.goto 12, 3) := by decide +kernel
theorem dX3_under_51 : decode cX3_under 51 = .ok (.iload 4, 2) := by decide +kernel
theorem dX3_under_53 : decode cX3_under 53 = .ok (.istore_n 2, 1) := by decide +kernel
theorem dX3_under_54 : decode cX3_under 54 = .ok (.iinc 3 1, 3) := by decide +kernel
theorem dX3_under_57 : decode cX3_under 57 = .ok (.goto (-33), 3) := by decide +kernel
theorem dX3_under_60 : decode cX3_under 60 = .ok (.iload_n 2, 1) := by decide +kernel
theorem dX3_under_61 : decode cX3_under 61 = .ok (.ireturn, 1) := by decide +kernel
theorem dX3_fall_0 : decode cX3_fall 0 = .ok (.aload_n 0, 1) := by decide +kernel
theorem dX3_fall_1 : decode cX3_fall 1 = .ok (.getfield 10, 3) := by decide +kernel
theorem dX3_fall_4 : decode cX3_fall 4 = .ok (.iload_n 1, 1) := by decide +kernel
theorem dX3_fall_5 : decode cX3_fall 5 = .ok (.invokevirtual 55, 3) := by decide +kernel
theorem dX3_fall_8 : decode cX3_fall 8 = .ok (.ifCond .eq 10, 3) := by decide +kernel
theorem dX3_fall_11 : decode cX3_fall 11 = .ok (.iload_n 2, 1) := by decide +kernel
theorem dX3_fall_12 : decode cX3_fall 12 = .ok (.invokestatic 37, 3) := by decide +kernel
theorem dX3_fall_15 : decode cX3_fall 15 = .ok (.ifCond .ne 5, 3) := by decide +kernel
theorem dX3_fall_18 : decode cX3_fall 18 = .ok (.iconst (-1), 1) := by decide +kernel
theorem dX3_fall_19 : decode cX3_fall 19 = .ok (.ireturn, 1) := by decide +kernel
theorem dX3_fall_20 : decode cX3_fall 20 = .ok (.iload_n 3, 1) := by decide +kernel
theorem dX3_fall_21 : decode cX3_fall 21 = .ok (.invokestatic 41, 3) := by decide +kernel
theorem dX3_fall_24 : decode cX3_fall 24 = .ok (.ifCond .ne 6, 3) := by decide +kernel
theorem dX3_fall_27 : decode cX3_fall 27 = .ok (.bipush (-2), 2) := by decide +kernel
theorem dX3_fall_29 : decode cX3_fall 29 = .ok (.ireturn, 1) := by decide +kernel
theorem dX3_fall_30 : decode cX3_fall 30 = .ok (.aload_n 0, 1) := by decide +kernel
theorem dX3_fall_31 : decode cX3_fall 31 = .ok (.getfield 10, 3) := by decide +kernel
theorem dX3_fall_34 : decode cX3_fall 34 = .ok (.iload_n 1, 1) := by decide +kernel
theorem dX3_fall_35 : decode cX3_fall 35 = .ok (.iload_n 2, 1) := by decide +kernel
theorem dX3_fall_36 : decode cX3_fall 36 = .ok (.iload_n 3, 1) := by decide +kernel
theorem dX3_fall_37 : decode cX3_fall 37 = .ok (.invokevirtual 124, 3) := by decide +kernel
theorem dX3_fall_40 : decode cX3_fall 40 = .ok (.ifCond .ne 6, 3) := by decide +kernel
theorem dX3_fall_43 : decode cX3_fall 43 = .ok (.bipush (-5), 2) := by decide +kernel
theorem dX3_fall_45 : decode cX3_fall 45 = .ok (.ireturn, 1) := by decide +kernel
theorem dX3_fall_46 : decode cX3_fall 46 = .ok (.aload_n 0, 1) := by decide +kernel
theorem dX3_fall_47 : decode cX3_fall 47 = .ok (.iload_n 3, 1) := by decide +kernel
theorem dX3_fall_48 : decode cX3_fall 48 = .ok (.invokevirtual 95, 3) := by decide +kernel
theorem dX3_fall_51 : decode cX3_fall 51 = .ok (.istore 5, 2) := by decide +kernel
theorem dX3_fall_53 : decode cX3_fall 53 = .ok (.iload 4, 2) := by decide +kernel
theorem dX3_fall_55 : decode cX3_fall 55 = .ok (.bipush (-2), 2) := by decide +kernel
theorem dX3_fall_57 : decode cX3_fall 57 = .ok (.if_icmp .ne 11, 3) := by decide +kernel
theorem dX3_fall_60 : decode cX3_fall 60 = .ok (.aload_n 0, 1) := by decide +kernel
theorem dX3_fall_61 : decode cX3_fall 61 = .ok (.iload_n 1, 1) := by decide +kernel
theorem dX3_fall_62 : decode cX3_fall 62 = .ok (.iload 5, 2) := by decide +kernel
theorem dX3_fall_64 : decode cX3_fall 64 = .ok (.invokevirtual 127, 3) := by decide +kernel
theorem dX3_fall_67 : decode cX3_fall 67 = .ok (.ireturn, 1) := by decide +kernel
theorem dX3_fall_68 : decode cX3_fall 68 = .ok (.iload 4, 2) := by decide +kernel
theorem dX3_fall_70 : decode cX3_fall 70 = .ok (.iconst (-1), 1) := by decide +kernel
theorem dX3_fall_71 : decode cX3_fall 71 = .ok (.if_icmp .ne 13, 3) := by decide +kernel
theorem dX3_fall_74 : decode cX3_fall 74 = .ok (.aload_n 0, 1) := by decide +kernel
theorem dX3_fall_75 : decode cX3_fall 75 = .ok (.iload_n 1, 1) := by decide +kernel
theorem dX3_fall_76 : decode cX3_fall 76 = .ok (.iload 5, 2) := by decide +kernel
theorem dX3_fall_78 : decode cX3_fall 78 = .ok (.invokevirtual 130, 3) := by decide +kernel
theorem dX3_fall_81 : decode cX3_fall 81 = .ok (.goto 12, 3) := by decide +kernel
theorem dX3_fall_84 : decode cX3_fall 84 = .ok (.aload_n 0, 1) := by decide +kernel
theorem dX3_fall_85 : decode cX3_fall 85 = .ok (.iload_n 1, 1) := by decide +kernel
theorem dX3_fall_86 : decode cX3_fall 86 = .ok (.iload 5, 2) := by decide +kernel
theorem dX3_fall_88 : decode cX3_fall 88 = .ok (.iload 4, 2) := by decide +kernel
theorem dX3_fall_90 : decode cX3_fall 90 = .ok (.invokevirtual 133, 3) := by decide +kernel
theorem dX3_fall_93 : decode cX3_fall 93 = .ok (.ireturn, 1) := by decide +kernel
theorem dX3_back_0 : decode cX3_back 0 = .ok (.aload_n 0, 1) := by decide +kernel
theorem dX3_back_1 : decode cX3_back 1 = .ok (.getfield 10, 3) := by decide +kernel
theorem dX3_back_4 : decode cX3_back 4 = .ok (.iload_n 1, 1) := by decide +kernel
theorem dX3_back_5 : decode cX3_back 5 = .ok (.invokevirtual 55, 3) := by decide +kernel
theorem dX3_back_8 : decode cX3_back 8 = .ok (.ifCond .eq 18, 3) := by decide +kernel
theorem dX3_back_11 : decode cX3_back 11 = .ok (.iload_n 2, 1) := by decide +kernel
theorem dX3_back_12 : decode cX3_back 12 = .ok (.invokestatic 37, 3) := by decide +kernel
theorem dX3_back_15 : decode cX3_back 15 = .ok (.ifCond .eq 11, 3) := by decide +kernel
theorem dX3_back_18 : decode cX3_back 18 = .ok (.iload 4, 2) := by decide +kernel
theorem dX3_back_20 : decode cX3_back 20 = .ok (.invokestatic 37, 3) := by decide +kernel
theorem dX3_back_23 : decode cX3_back 23 = .ok (.ifCond .ne 6, 3) := by decide +kernel
theorem dX3_back_26 : decode cX3_back 26 = .ok (.ldc 136, 2) := by decide +kernel
theorem dX3_back_28 : decode cX3_back 28 = .ok (.ireturn, 1) := by decide +kernel
theorem dX3_back_29 : decode cX3_back 29 = .ok (.iload_n 3, 1) := by decide +kernel
theorem dX3_back_30 : decode cX3_back 30 = .ok (.invokestatic 41, 3) := by decide +kernel
theorem dX3_back_33 : decode cX3_back 33 = .ok (.ifCond .ne 6, 3) := by decide +kernel
theorem dX3_back_36 : decode cX3_back 36 = .ok (.ldc 137, 2) := by decide +kernel
theorem dX3_back_38 : decode cX3_back 38 = .ok (.ireturn, 1) := by decide +kernel
theorem dX3_back_39 : decode cX3_back 39 = .ok (.aload_n 0, 1) := by decide +kernel
theorem dX3_back_40 : decode cX3_back 40 = .ok (.getfield 10, 3) := by decide +kernel
theorem dX3_back_43 : decode cX3_back 43 = .ok (.iload_n 1, 1) := by decide +kernel
theorem dX3_back_44 : decode cX3_back 44 = .ok (.iload_n 2, 1) := by decide +kernel
theorem dX3_back_45 : decode cX3_back 45 = .ok (.iload_n 3, 1) := by decide +kernel
theorem dX3_back_46 : decode cX3_back 46 = .ok (.invokevirtual 124, 3) := by decide +kernel
theorem dX3_back_49 : decode cX3_back 49 = .ok (.ifCond .ne 6, 3) := by decide +kernel
theorem dX3_back_52 : decode cX3_back 52 = .ok (.ldc 138, 2) := by decide +kernel
theorem dX3_back_54 : decode cX3_back 54 = .ok (.ireturn, 1) := by decide +kernel
theorem dX3_back_55 : decode cX3_back 55 = .ok (.aload_n 0, 1) := by decide +kernel
theorem dX3_back_56 : decode cX3_back 56 = .ok (.getfield 10, 3) := by decide +kernel
theorem dX3_back_59 : decode cX3_back 59 = .ok (.aload_n 0, 1) := by decide +kernel
theorem dX3_back_60 : decode cX3_back 60 = .ok (.iload_n 1, 1) := by decide +kernel
theorem dX3_back_61 : decode cX3_back 61 = .ok (.aload_n 0, 1) := by decide +kernel
theorem dX3_back_62 : decode cX3_back 62 = .ok (.iload_n 3, 1) := by decide +kernel
theorem dX3_back_63 : decode cX3_back 63 = .ok (.invokevirtual 95, 3) := by decide +kernel
theorem dX3_back_66 : decode cX3_back 66 = .ok (.invokevirtual 127, 3) := by decide +kernel
theorem dX3_back_69 : decode cX3_back 69 = .ok (.iload_n 3, 1) := by decide +kernel
theorem dX3_back_70 : decode cX3_back 70 = .ok (.iload 4, 2) := by decide +kernel
theorem dX3_back_72 : decode cX3_back 72 = .ok (.aload_n 0, 1) := by decide +kernel
theorem dX3_back_73 : decode cX3_back 73 = .ok (.getfield 34, 3) := by decide +kernel
theorem dX3_back_76 : decode cX3_back 76 = .ok (.invokevirtual 139, 3) := by decide +kernel
theorem dX3_back_79 : decode cX3_back 79 = .ok (.ireturn, 1) := by decide +kernel
theorem dX3_wise_0 : decode cX3_wise 0 = .ok (.aload_n 0, 1) := by decide +kernel
theorem dX3_wise_1 : decode cX3_wise 1 = .ok (.getfield 10, 3) := by decide +kernel
theorem dX3_wise_4 : decode cX3_wise 4 = .ok (.iload_n 1, 1) := by decide +kernel
theorem dX3_wise_5 : decode cX3_wise 5 = .ok (.invokevirtual 55, 3) := by decide +kernel
theorem dX3_wise_8 : decode cX3_wise 8 = .ok (.ifCond .ne 5, 3) := by decide +kernel
theorem dX3_wise_11 : decode cX3_wise 11 = .ok (.iconst (-1), 1) := by decide +kernel
theorem dX3_wise_12 : decode cX3_wise 12 = .ok (.ireturn, 1) := by decide +kernel
theorem dX3_wise_13 : decode cX3_wise 13 = .ok (.iload_n 2, 1) := by decide +kernel
theorem dX3_wise_14 : decode cX3_wise 14 = .ok (.invokestatic 41, 3) := by decide +kernel
theorem dX3_wise_17 : decode cX3_wise 17 = .ok (.ifCond .ne 6, 3) := by decide +kernel
theorem dX3_wise_20 : decode cX3_wise 20 = .ok (.bipush (-2), 2) := by decide +kernel
theorem dX3_wise_22 : decode cX3_wise 22 = .ok (.ireturn, 1) := by decide +kernel
theorem dX3_wise_23 : decode cX3_wise 23 = .ok (.aload_n 0, 1) := by decide +kernel
theorem dX3_wise_24 : decode cX3_wise 24 = .ok (.iload_n 1, 1) := by decide +kernel
theorem dX3_wise_25 : decode cX3_wise 25 = .ok (.iload_n 2, 1) := by decide +kernel
theorem dX3_wise_26 : decode cX3_wise 26 = .ok (.aload_n 0, 1) := by decide +kernel
theorem dX3_wise_27 : decode cX3_wise 27 = .ok (.iload_n 2, 1) := by decide +kernel
theorem dX3_wise_28 : decode cX3_wise 28 = .ok (.invokevirtual 95, 3) := by decide +kernel
theorem dX3_wise_31 : decode cX3_wise 31 = .ok (.invokevirtual 142, 3) := by decide +kernel
theorem dX3_wise_34 : decode cX3_wise 34 = .ok (.ireturn, 1) := by decide +kernel
theorem dX3_rest_0 : decode cX3_rest 0 = .ok (.iload_n 1, 1) := by decide +kernel
theorem dX3_rest_1 : decode cX3_rest 1 = .ok (.invokestatic 41, 3) := by decide +kernel
theorem dX3_rest_4 : decode cX3_rest 4 = .ok (.ifCond .eq 12, 3) := by decide +kernel
theorem dX3_rest_7 : decode cX3_rest 7 = .ok (.iload_n 2, 1) := by decide +kernel
theorem dX3_rest_8 : decode cX3_rest 8 = .ok (.iconst 0, 1) := by decide +kernel
theorem dX3_rest_9 : decode cX3_rest 9 = .ok (.iconst 1, 1) := by decide +kernel
theorem dX3_rest_10 : decode cX3_rest 10 = .ok (.invokestatic 44, 3) := by decide +kernel
theorem dX3_rest_13 : decode cX3_rest 13 = .ok (.ifCond .ne 6, 3) := by decide +kernel
theorem dX3_rest_16 : decode cX3_rest 16 = .ok (.bipush (-2), 2) := by decide +kernel
theorem dX3_rest_18 : decode cX3_rest 18 = .ok (.ireturn, 1) := by decide +kernel
theorem dX3_rest_19 : decode cX3_rest 19 = .ok (.aload_n 0, 1) := by decide +kernel
theorem dX3_rest_20 : decode cX3_rest 20 = .ok (.iload_n 1, 1) := by decide +kernel
theorem dX3_rest_21 : decode cX3_rest 21 = .ok (.invokevirtual 95, 3) := by decide +kernel
theorem dX3_rest_24 : decode cX3_rest 24 = .ok (.istore_n 3, 1) := by decide +kernel
theorem dX3_rest_25 : decode cX3_rest 25 = .ok (.iconst 0, 1) := by decide +kernel
theorem dX3_rest_26 : decode cX3_rest 26 = .ok (.istore 4, 2) := by decide +kernel
theorem dX3_rest_28 : decode cX3_rest 28 = .ok (.iload 4, 2) := by decide +kernel
theorem dX3_rest_30 : decode cX3_rest 30 = .ok (.bipush 12, 2) := by decide +kernel
theorem dX3_rest_32 : decode cX3_rest 32 = .ok (.if_icmp .ge 34, 3) := by decide +kernel
theorem dX3_rest_35 : decode cX3_rest 35 = .ok (.aload_n 0, 1) := by decide +kernel
theorem dX3_rest_36 : decode cX3_rest 36 = .ok (.iload_n 1, 1) := by decide +kernel
theorem dX3_rest_37 : decode cX3_rest 37 = .ok (.iload_n 3, 1) := by decide +kernel
theorem dX3_rest_38 : decode cX3_rest 38 = .ok (.invokevirtual 145, 3) := by decide +kernel
theorem dX3_rest_41 : decode cX3_rest 41 = .ok (.istore 5, 2) := by decide +kernel
theorem dX3_rest_43 : decode cX3_rest 43 = .ok (.iload 5, 2) := by decide +kernel
theorem dX3_rest_45 : decode cX3_rest 45 = .ok (.bipush (-6), 2) := by decide +kernel
theorem dX3_rest_47 : decode cX3_rest 47 = .ok (.if_icmp .ne 6, 3) := by decide +kernel
theorem dX3_rest_50 : decode cX3_rest 50 = .ok (.goto 16, 3) := by decide +kernel
theorem dX3_rest_53 : decode cX3_rest 53 = .ok (.iload_n 3, 1) := by decide +kernel
theorem dX3_rest_54 : decode cX3_rest 54 = .ok (.iload 5, 2) := by decide +kernel
theorem dX3_rest_56 : decode cX3_rest 56 = .ok (.invokestatic 148, 3) := by decide +kernel
theorem dX3_rest_59 : decode cX3_rest 59 = .ok (.istore_n 3, 1) := by decide +kernel
theorem dX3_rest_60 : decode cX3_rest 60 = .ok (.iinc 4 1, 3) := by decide +kernel
theorem dX3_rest_63 : decode cX3_rest 63 = .ok (.goto (-35), 3) := by decide +kernel
theorem dX3_rest_66 : decode cX3_rest 66 = .ok (.iload_n 2, 1) := by decide +kernel
theorem dX3_rest_67 : decode cX3_rest 67 = .ok (.ifCond .ne 8, 3) := by decide +kernel
theorem dX3_rest_70 : decode cX3_rest 70 = .ok (.iload 4, 2) := by decide +kernel
theorem dX3_rest_72 : decode cX3_rest 72 = .ok (.goto 15, 3) := by decide +kernel
theorem dX3_rest_75 : decode cX3_rest 75 = .ok (.aload_n 0, 1) := by decide +kernel
theorem dX3_rest_76 : decode cX3_rest 76 = .ok (.getfield 10, 3) := by decide +kernel
theorem dX3_rest_79 : decode cX3_rest 79 = .ok (.iload_n 3, 1) := by decide +kernel
theorem dX3_rest_80 : decode cX3_rest 80 = .ok (.aload_n 0, 1) := by decide +kernel
theorem dX3_rest_81 : decode cX3_rest 81 = .ok (.invokevirtual 98, 3) := by decide +kernel
theorem dX3_rest_84 : decode cX3_rest 84 = .ok (.invokevirtual 101, 3) := by decide +kernel
theorem dX3_rest_87 : decode cX3_rest 87 = .ok (.ireturn, 1) := by decide +kernel
theorem dX3_heal_0 : decode cX3_heal 0 = .ok (.aload_n 0, 1) := by decide +kernel
theorem dX3_heal_1 : decode cX3_heal 1 = .ok (.getfield 10, 3) := by decide +kernel
theorem dX3_heal_4 : decode cX3_heal 4 = .ok (.iload_n 1, 1) := by decide +kernel
theorem dX3_heal_5 : decode cX3_heal 5 = .ok (.invokevirtual 151, 3) := by decide +kernel
theorem dX3_heal_8 : decode cX3_heal 8 = .ok (.ifCond .eq 19, 3) := by decide +kernel
theorem dX3_heal_11 : decode cX3_heal 11 = .ok (.iload_n 2, 1) := by decide +kernel
theorem dX3_heal_12 : decode cX3_heal 12 = .ok (.invokestatic 41, 3) := by decide +kernel
theorem dX3_heal_15 : decode cX3_heal 15 = .ok (.ifCond .eq 12, 3) := by decide +kernel
theorem dX3_heal_18 : decode cX3_heal 18 = .ok (.iload_n 3, 1) := by decide +kernel
theorem dX3_heal_19 : decode cX3_heal 19 = .ok (.iconst 0, 1) := by decide +kernel
theorem dX3_heal_20 : decode cX3_heal 20 = .ok (.iconst 1, 1) := by decide +kernel
theorem dX3_heal_21 : decode cX3_heal 21 = .ok (.invokestatic 44, 3) := by decide +kernel
theorem dX3_heal_24 : decode cX3_heal 24 = .ok (.ifCond .ne 6, 3) := by decide +kernel
theorem dX3_heal_27 : decode cX3_heal 27 = .ok (.bipush (-2), 2) := by decide +kernel
theorem dX3_heal_29 : decode cX3_heal 29 = .ok (.ireturn, 1) := by decide +kernel
theorem dX3_heal_30 : decode cX3_heal 30 = .ok (.aload_n 0, 1) := by decide +kernel
theorem dX3_heal_31 : decode cX3_heal 31 = .ok (.iload_n 1, 1) := by decide +kernel
theorem dX3_heal_32 : decode cX3_heal 32 = .ok (.iload_n 2, 1) := by decide +kernel
theorem dX3_heal_33 : decode cX3_heal 33 = .ok (.invokevirtual 154, 3) := by decide +kernel
theorem dX3_heal_36 : decode cX3_heal 36 = .ok (.istore 4, 2) := by decide +kernel
theorem dX3_heal_38 : decode cX3_heal 38 = .ok (.iload 4, 2) := by decide +kernel
theorem dX3_heal_40 : decode cX3_heal 40 = .ok (.bipush (-6), 2) := by decide +kernel
theorem dX3_heal_42 : decode cX3_heal 42 = .ok (.if_icmp .ne 6, 3) := by decide +kernel
theorem dX3_heal_45 : decode cX3_heal 45 = .ok (.bipush (-5), 2) := by decide +kernel
theorem dX3_heal_47 : decode cX3_heal 47 = .ok (.ireturn, 1) := by decide +kernel
theorem dX3_heal_48 : decode cX3_heal 48 = .ok (.iload_n 3, 1) := by decide +kernel
theorem dX3_heal_49 : decode cX3_heal 49 = .ok (.ifCond .ne 8, 3) := by decide +kernel
theorem dX3_heal_52 : decode cX3_heal 52 = .ok (.iload 4, 2) := by decide +kernel
theorem dX3_heal_54 : decode cX3_heal 54 = .ok (.goto 8, 3) := by decide +kernel
theorem dX3_heal_57 : decode cX3_heal 57 = .ok (.iload 4, 2) := by decide +kernel
theorem dX3_heal_59 : decode cX3_heal 59 = .ok (.invokestatic 157, 3) := by decide +kernel
theorem dX3_heal_62 : decode cX3_heal 62 = .ok (.ireturn, 1) := by decide +kernel
theorem dX3_pillar_0 : decode cX3_pillar 0 = .ok (.iload_n 1, 1) := by decide +kernel
theorem dX3_pillar_1 : decode cX3_pillar 1 = .ok (.invokestatic 41, 3) := by decide +kernel
theorem dX3_pillar_4 : decode cX3_pillar 4 = .ok (.ifCond .eq 12, 3) := by decide +kernel
theorem dX3_pillar_7 : decode cX3_pillar 7 = .ok (.iload_n 2, 1) := by decide +kernel
theorem dX3_pillar_8 : decode cX3_pillar 8 = .ok (.iconst 0, 1) := by decide +kernel
theorem dX3_pillar_9 : decode cX3_pillar 9 = .ok (.iconst 1, 1) := by decide +kernel
theorem dX3_pillar_10 : decode cX3_pillar 10 = .ok (.invokestatic 44, 3) := by decide +kernel
theorem dX3_pillar_13 : decode cX3_pillar 13 = .ok (.ifCond .ne 6, 3) := by decide +kernel
theorem dX3_pillar_16 : decode cX3_pillar 16 = .ok (.bipush (-2), 2) := by decide +kernel
theorem dX3_pillar_18 : decode cX3_pillar 18 = .ok (.ireturn, 1) := by decide +kernel
theorem dX3_pillar_19 : decode cX3_pillar 19 = .ok (.aload_n 0, 1) := by decide +kernel
theorem dX3_pillar_20 : decode cX3_pillar 20 = .ok (.iload_n 1, 1) := by decide +kernel
theorem dX3_pillar_21 : decode cX3_pillar 21 = .ok (.invokevirtual 95, 3) := by decide +kernel
theorem dX3_pillar_24 : decode cX3_pillar 24 = .ok (.istore_n 3, 1) := by decide +kernel
theorem dX3_pillar_25 : decode cX3_pillar 25 = .ok (.aload_n 0, 1) := by decide +kernel
theorem dX3_pillar_26 : decode cX3_pillar 26 = .ok (.getfield 10, 3) := by decide +kernel
theorem dX3_pillar_29 : decode cX3_pillar 29 = .ok (.iload_n 3, 1) := by decide +kernel
theorem dX3_pillar_30 : decode cX3_pillar 30 = .ok (.aload_n 0, 1) := by decide +kernel
theorem dX3_pillar_31 : decode cX3_pillar 31 = .ok (.invokevirtual 98, 3) := by decide +kernel
theorem dX3_pillar_34 : decode cX3_pillar 34 = .ok (.invokevirtual 101, 3) := by decide +kernel
theorem dX3_pillar_37 : decode cX3_pillar 37 = .ok (.istore 4, 2) := by decide +kernel
theorem dX3_pillar_39 : decode cX3_pillar 39 = .ok (.bipush (-6), 2) := by decide +kernel
theorem dX3_pillar_41 : decode cX3_pillar 41 = .ok (.istore 5, 2) := by decide +kernel
theorem dX3_pillar_43 : decode cX3_pillar 43 = .ok (.iconst 0, 1) := by decide +kernel
theorem dX3_pillar_44 : decode cX3_pillar 44 = .ok (.istore 6, 2) := by decide +kernel
theorem dX3_pillar_46 : decode cX3_pillar 46 = .ok (.iconst 0, 1) := by decide +kernel
theorem dX3_pillar_47 : decode cX3_pillar 47 = .ok (.istore 7, 2) := by decide +kernel
theorem dX3_pillar_49 : decode cX3_pillar 49 = .ok (.iload 7, 2) := by decide +kernel
theorem dX3_pillar_51 : decode cX3_pillar 51 = .ok (.aload_n 0, 1) := by decide +kernel
theorem dX3_pillar_52 : decode cX3_pillar 52 = .ok (.getfield 10, 3) := by decide +kernel
theorem dX3_pillar_55 : decode cX3_pillar 55 = .ok (.getfield 48, 3) := by decide +kernel
theorem dX3_pillar_58 : decode cX3_pillar 58 = .ok (.if_icmp .ge 55, 3) := by decide +kernel
theorem dX3_pillar_61 : decode cX3_pillar 61 = .ok (.iload 4, 2) := by decide +kernel
theorem dX3_pillar_63 : decode cX3_pillar 63 = .ok (.iload 7, 2) := by decide +kernel
theorem dX3_pillar_65 : decode cX3_pillar 65 = .ok (.invokestatic 115, 3) := by decide +kernel
theorem dX3_pillar_68 : decode cX3_pillar 68 = .ok (.ifCond .eq 39, 3) := by decide +kernel
theorem dX3_pillar_71 : decode cX3_pillar 71 = .ok (.aload_n 0, 1) := by decide +kernel
theorem dX3_pillar_72 : decode cX3_pillar 72 = .ok (.iload 7, 2) := by decide +kernel
theorem dX3_pillar_74 : decode cX3_pillar 74 = .ok (.iload_n 3, 1) := by decide +kernel
theorem dX3_pillar_75 : decode cX3_pillar 75 = .ok (.invokevirtual 127, 3) := by decide +kernel
theorem dX3_pillar_78 : decode cX3_pillar 78 = .ok (.invokestatic 157, 3) := by decide +kernel
theorem dX3_pillar_81 : decode cX3_pillar 81 = .ok (.iconst 1, 1) := by decide +kernel
theorem dX3_pillar_82 : decode cX3_pillar 82 = .ok (.isub, 1) := by decide +kernel
theorem dX3_pillar_83 : decode cX3_pillar 83 = .ok (.istore 8, 2) := by decide +kernel
theorem dX3_pillar_85 : decode cX3_pillar 85 = .ok (.iload 5, 2) := by decide +kernel
theorem dX3_pillar_87 : decode cX3_pillar 87 = .ok (.bipush (-6), 2) := by decide +kernel
theorem dX3_pillar_89 : decode cX3_pillar 89 = .ok (.if_icmp .eq 10, 3) := by decide +kernel
theorem dX3_pillar_92 : decode cX3_pillar 92 = .ok (.iload 8, 2) := by decide +kernel
theorem dX3_pillar_94 : decode cX3_pillar 94 = .ok (.iload 6, 2) := by decide +kernel
theorem dX3_pillar_96 : decode cX3_pillar 96 = .ok (.if_icmp .le 11, 3) := by decide +kernel
theorem dX3_pillar_99 : decode cX3_pillar 99 = .ok (.iload 7, 2) := by decide +kernel
theorem dX3_pillar_101 : decode cX3_pillar 101 = .ok (.istore 5, 2) := by decide +kernel
theorem dX3_pillar_103 : decode cX3_pillar 103 = .ok (.iload 8, 2) := by decide +kernel
theorem dX3_pillar_105 : decode cX3_pillar 105 = .ok (.istore 6, 2) := by decide +kernel
theorem dX3_pillar_107 : decode cX3_pillar 107 = .ok (.iinc 7 1, 3) := by decide +kernel
theorem dX3_pillar_110 : decode cX3_pillar 110 = .ok (.goto (-61), 3) := by decide +kernel
theorem dX3_pillar_113 : decode cX3_pillar 113 = .ok (.iload_n 2, 1) := by decide +kernel
theorem dX3_pillar_114 : decode cX3_pillar 114 = .ok (.ifCond .ne 8, 3) := by decide +kernel
theorem dX3_pillar_117 : decode cX3_pillar 117 = .ok (.iload 5, 2) := by decide +kernel
theorem dX3_pillar_119 : decode cX3_pillar 119 = .ok (.goto 5, 3) := by decide +kernel
theorem dX3_pillar_122 : decode cX3_pillar 122 = .ok (.iload 6, 2) := by decide +kernel
theorem dX3_pillar_124 : decode cX3_pillar 124 = .ok (.ireturn, 1) := by decide +kernel
theorem dX3_hangs_0 : decode cX3_hangs 0 = .ok (.aload_n 0, 1) := by decide +kernel
theorem dX3_hangs_1 : decode cX3_hangs 1 = .ok (.getfield 10, 3) := by decide +kernel
theorem dX3_hangs_4 : decode cX3_hangs 4 = .ok (.iload_n 1, 1) := by decide +kernel
theorem dX3_hangs_5 : decode cX3_hangs 5 = .ok (.invokevirtual 55, 3) := by decide +kernel
theorem dX3_hangs_8 : decode cX3_hangs 8 = .ok (.ifCond .ne 5, 3) := by decide +kernel
theorem dX3_hangs_11 : decode cX3_hangs 11 = .ok (.iconst (-1), 1) := by decide +kernel
theorem dX3_hangs_12 : decode cX3_hangs 12 = .ok (.ireturn, 1) := by decide +kernel
theorem dX3_hangs_13 : decode cX3_hangs 13 = .ok (.iload_n 2, 1) := by decide +kernel
theorem dX3_hangs_14 : decode cX3_hangs 14 = .ok (.invokestatic 41, 3) := by decide +kernel
theorem dX3_hangs_17 : decode cX3_hangs 17 = .ok (.ifCond .eq 14, 3) := by decide +kernel
theorem dX3_hangs_20 : decode cX3_hangs 20 = .ok (.aload_n 0, 1) := by decide +kernel
theorem dX3_hangs_21 : decode cX3_hangs 21 = .ok (.getfield 10, 3) := by decide +kernel
theorem dX3_hangs_24 : decode cX3_hangs 24 = .ok (.iload_n 3, 1) := by decide +kernel
theorem dX3_hangs_25 : decode cX3_hangs 25 = .ok (.invokevirtual 151, 3) := by decide +kernel
theorem dX3_hangs_28 : decode cX3_hangs 28 = .ok (.ifCond .ne 6, 3) := by decide +kernel
theorem dX3_hangs_31 : decode cX3_hangs 31 = .ok (.bipush (-2), 2) := by decide +kernel
theorem dX3_hangs_33 : decode cX3_hangs 33 = .ok (.ireturn, 1) := by decide +kernel
theorem dX3_hangs_34 : decode cX3_hangs 34 = .ok (.aload_n 0, 1) := by decide +kernel
theorem dX3_hangs_35 : decode cX3_hangs 35 = .ok (.iload_n 2, 1) := by decide +kernel
theorem dX3_hangs_36 : decode cX3_hangs 36 = .ok (.invokevirtual 95, 3) := by decide +kernel
theorem dX3_hangs_39 : decode cX3_hangs 39 = .ok (.istore 4, 2) := by decide +kernel
theorem dX3_hangs_41 : decode cX3_hangs 41 = .ok (.aload_n 0, 1) := by decide +kernel
theorem dX3_hangs_42 : decode cX3_hangs 42 = .ok (.getfield 10, 3) := by decide +kernel
theorem dX3_hangs_45 : decode cX3_hangs 45 = .ok (.invokevirtual 162, 3) := by decide +kernel
theorem dX3_hangs_48 : decode cX3_hangs 48 = .ok (.istore 5, 2) := by decide +kernel
theorem dX3_hangs_50 : decode cX3_hangs 50 = .ok (.aload_n 0, 1) := by decide +kernel
theorem dX3_hangs_51 : decode cX3_hangs 51 = .ok (.getfield 10, 3) := by decide +kernel
theorem dX3_hangs_54 : decode cX3_hangs 54 = .ok (.iload 4, 2) := by decide +kernel
theorem dX3_hangs_56 : decode cX3_hangs 56 = .ok (.aload_n 0, 1) := by decide +kernel
theorem dX3_hangs_57 : decode cX3_hangs 57 = .ok (.getfield 30, 3) := by decide +kernel
theorem dX3_hangs_60 : decode cX3_hangs 60 = .ok (.iload 5, 2) := by decide +kernel
theorem dX3_hangs_62 : decode cX3_hangs 62 = .ok (.iload_n 3, 1) := by decide +kernel
theorem dX3_hangs_63 : decode cX3_hangs 63 = .ok (.iconst (-1), 1) := by decide +kernel
theorem dX3_hangs_64 : decode cX3_hangs 64 = .ok (.ixor, 1) := by decide +kernel
theorem dX3_hangs_65 : decode cX3_hangs 65 = .ok (.iand, 1) := by decide +kernel
theorem dX3_hangs_66 : decode cX3_hangs 66 = .ok (.invokestatic 165, 3) := by decide +kernel
theorem dX3_hangs_69 : decode cX3_hangs 69 = .ok (.invokevirtual 101, 3) := by decide +kernel
theorem dX3_hangs_72 : decode cX3_hangs 72 = .ok (.iload_n 1, 1) := by decide +kernel
theorem dX3_hangs_73 : decode cX3_hangs 73 = .ok (.invokestatic 115, 3) := by decide +kernel
theorem dX3_hangs_76 : decode cX3_hangs 76 = .ok (.ifCond .eq 5, 3) := by decide +kernel
theorem dX3_hangs_79 : decode cX3_hangs 79 = .ok (.iconst 2, 1) := by decide +kernel
theorem dX3_hangs_80 : decode cX3_hangs 80 = .ok (.ireturn, 1) := by decide +kernel
theorem dX3_hangs_81 : decode cX3_hangs 81 = .ok (.aload_n 0, 1) := by decide +kernel
theorem dX3_hangs_82 : decode cX3_hangs 82 = .ok (.getfield 10, 3) := by decide +kernel
theorem dX3_hangs_85 : decode cX3_hangs 85 = .ok (.iload 4, 2) := by decide +kernel
theorem dX3_hangs_87 : decode cX3_hangs 87 = .ok (.aload_n 0, 1) := by decide +kernel
theorem dX3_hangs_88 : decode cX3_hangs 88 = .ok (.getfield 30, 3) := by decide +kernel
theorem dX3_hangs_91 : decode cX3_hangs 91 = .ok (.iload 5, 2) := by decide +kernel
theorem dX3_hangs_93 : decode cX3_hangs 93 = .ok (.iload_n 3, 1) := by decide +kernel
theorem dX3_hangs_94 : decode cX3_hangs 94 = .ok (.ior, 1) := by decide +kernel
theorem dX3_hangs_95 : decode cX3_hangs 95 = .ok (.invokestatic 165, 3) := by decide +kernel
theorem dX3_hangs_98 : decode cX3_hangs 98 = .ok (.invokevirtual 101, 3) := by decide +kernel
theorem dX3_hangs_101 : decode cX3_hangs 101 = .ok (.iload_n 1, 1) := by decide +kernel
theorem dX3_hangs_102 : decode cX3_hangs 102 = .ok (.invokestatic 115, 3) := by decide +kernel
theorem dX3_hangs_105 : decode cX3_hangs 105 = .ok (.ifCond .eq 7, 3) := by decide +kernel
theorem dX3_hangs_108 : decode cX3_hangs 108 = .ok (.iconst 1, 1) := by decide +kernel
theorem dX3_hangs_109 : decode cX3_hangs 109 = .ok (.goto 4, 3) := by decide +kernel
theorem dX3_hangs_112 : decode cX3_hangs 112 = .ok (.iconst 0, 1) := by decide +kernel
theorem dX3_hangs_113 : decode cX3_hangs 113 = .ok (.ireturn, 1) := by decide +kernel
theorem dX3_safe_0 : decode cX3_safe 0 = .ok (.aload_n 0, 1) := by decide +kernel
theorem dX3_safe_1 : decode cX3_safe 1 = .ok (.getfield 10, 3) := by decide +kernel
theorem dX3_safe_4 : decode cX3_safe 4 = .ok (.iload_n 1, 1) := by decide +kernel
theorem dX3_safe_5 : decode cX3_safe 5 = .ok (.invokevirtual 55, 3) := by decide +kernel
theorem dX3_safe_8 : decode cX3_safe 8 = .ok (.ifCond .ne 5, 3) := by decide +kernel
theorem dX3_safe_11 : decode cX3_safe 11 = .ok (.iconst (-1), 1) := by decide +kernel
theorem dX3_safe_12 : decode cX3_safe 12 = .ok (.ireturn, 1) := by decide +kernel
theorem dX3_safe_13 : decode cX3_safe 13 = .ok (.bipush (-6), 2) := by decide +kernel
theorem dX3_safe_15 : decode cX3_safe 15 = .ok (.istore_n 2, 1) := by decide +kernel
theorem dX3_safe_16 : decode cX3_safe 16 = .ok (.iconst 0, 1) := by decide +kernel
theorem dX3_safe_17 : decode cX3_safe 17 = .ok (.istore_n 3, 1) := by decide +kernel
theorem dX3_safe_18 : decode cX3_safe 18 = .ok (.iconst 0, 1) := by decide +kernel
theorem dX3_safe_19 : decode cX3_safe 19 = .ok (.istore 4, 2) := by decide +kernel
theorem dX3_safe_21 : decode cX3_safe 21 = .ok (.bipush 99, 2) := by decide +kernel
theorem dX3_safe_23 : decode cX3_safe 23 = .ok (.istore 5, 2) := by decide +kernel
theorem dX3_safe_25 : decode cX3_safe 25 = .ok (.iload 5, 2) := by decide +kernel
theorem dX3_safe_27 : decode cX3_safe 27 = .ok (.aload_n 0, 1) := by decide +kernel
theorem dX3_safe_28 : decode cX3_safe 28 = .ok (.getfield 10, 3) := by decide +kernel
theorem dX3_safe_31 : decode cX3_safe 31 = .ok (.getfield 168, 3) := by decide +kernel
theorem dX3_safe_34 : decode cX3_safe 34 = .ok (.iload_n 1, 1) := by decide +kernel
theorem dX3_safe_35 : decode cX3_safe 35 = .ok (.iaload, 1) := by decide +kernel
theorem dX3_safe_36 : decode cX3_safe 36 = .ok (.if_icmp .lt 84, 3) := by decide +kernel
theorem dX3_safe_39 : decode cX3_safe 39 = .ok (.aload_n 0, 1) := by decide +kernel
theorem dX3_safe_40 : decode cX3_safe 40 = .ok (.iload 5, 2) := by decide +kernel
theorem dX3_safe_42 : decode cX3_safe 42 = .ok (.invokevirtual 95, 3) := by decide +kernel
theorem dX3_safe_45 : decode cX3_safe 45 = .ok (.istore 6, 2) := by decide +kernel
theorem dX3_safe_47 : decode cX3_safe 47 = .ok (.aload_n 0, 1) := by decide +kernel
theorem dX3_safe_48 : decode cX3_safe 48 = .ok (.getfield 10, 3) := by decide +kernel
theorem dX3_safe_51 : decode cX3_safe 51 = .ok (.iload 5, 2) := by decide +kernel
theorem dX3_safe_53 : decode cX3_safe 53 = .ok (.invokevirtual 171, 3) := by decide +kernel
theorem dX3_safe_56 : decode cX3_safe 56 = .ok (.istore 7, 2) := by decide +kernel
theorem dX3_safe_58 : decode cX3_safe 58 = .ok (.iload_n 2, 1) := by decide +kernel
theorem dX3_safe_59 : decode cX3_safe 59 = .ok (.bipush (-6), 2) := by decide +kernel
theorem dX3_safe_61 : decode cX3_safe 61 = .ok (.if_icmp .eq 20, 3) := by decide +kernel
theorem dX3_safe_64 : decode cX3_safe 64 = .ok (.iload 6, 2) := by decide +kernel
theorem dX3_safe_66 : decode cX3_safe 66 = .ok (.iload_n 3, 1) := by decide +kernel
theorem dX3_safe_67 : decode cX3_safe 67 = .ok (.if_icmp .ne 14, 3) := by decide +kernel
theorem dX3_safe_70 : decode cX3_safe 70 = .ok (.iload 7, 2) := by decide +kernel
theorem dX3_safe_72 : decode cX3_safe 72 = .ok (.iload 4, 2) := by decide +kernel
theorem dX3_safe_74 : decode cX3_safe 74 = .ok (.if_icmp .ne 7, 3) := by decide +kernel
theorem dX3_safe_77 : decode cX3_safe 77 = .ok (.iconst 1, 1) := by decide +kernel
theorem dX3_safe_78 : decode cX3_safe 78 = .ok (.goto 4, 3) := by decide +kernel
theorem dX3_safe_81 : decode cX3_safe 81 = .ok (.iconst 0, 1) := by decide +kernel
theorem dX3_safe_82 : decode cX3_safe 82 = .ok (.istore 8, 2) := by decide +kernel
theorem dX3_safe_84 : decode cX3_safe 84 = .ok (.iload 8, 2) := by decide +kernel
theorem dX3_safe_86 : decode cX3_safe 86 = .ok (.ifCond .ne 18, 3) := by decide +kernel
theorem dX3_safe_89 : decode cX3_safe 89 = .ok (.aload_n 0, 1) := by decide +kernel
theorem dX3_safe_90 : decode cX3_safe 90 = .ok (.iload_n 1, 1) := by decide +kernel
theorem dX3_safe_91 : decode cX3_safe 91 = .ok (.iload 6, 2) := by decide +kernel
theorem dX3_safe_93 : decode cX3_safe 93 = .ok (.iload 7, 2) := by decide +kernel
theorem dX3_safe_95 : decode cX3_safe 95 = .ok (.invokevirtual 174, 3) := by decide +kernel
theorem dX3_safe_98 : decode cX3_safe 98 = .ok (.ifCond .ne 6, 3) := by decide +kernel
theorem dX3_safe_101 : decode cX3_safe 101 = .ok (.goto 19, 3) := by decide +kernel
theorem dX3_safe_104 : decode cX3_safe 104 = .ok (.iload 5, 2) := by decide +kernel
theorem dX3_safe_106 : decode cX3_safe 106 = .ok (.istore_n 2, 1) := by decide +kernel
theorem dX3_safe_107 : decode cX3_safe 107 = .ok (.iload 6, 2) := by decide +kernel
theorem dX3_safe_109 : decode cX3_safe 109 = .ok (.istore_n 3, 1) := by decide +kernel
theorem dX3_safe_110 : decode cX3_safe 110 = .ok (.iload 7, 2) := by decide +kernel
theorem dX3_safe_112 : decode cX3_safe 112 = .ok (.istore 4, 2) := by decide +kernel
theorem dX3_safe_114 : decode cX3_safe 114 = .ok (.iinc 5 (-1), 3) := by decide +kernel
theorem dX3_safe_117 : decode cX3_safe 117 = .ok (.goto (-92), 3) := by decide +kernel
theorem dX3_safe_120 : decode cX3_safe 120 = .ok (.iload_n 2, 1) := by decide +kernel
theorem dX3_safe_121 : decode cX3_safe 121 = .ok (.ireturn, 1) := by decide +kernel
theorem dX3_beside_0 : decode cX3_beside 0 = .ok (.iload_n 1, 1) := by decide +kernel
theorem dX3_beside_1 : decode cX3_beside 1 = .ok (.invokestatic 41, 3) := by decide +kernel
theorem dX3_beside_4 : decode cX3_beside 4 = .ok (.ifCond .ne 6, 3) := by decide +kernel
theorem dX3_beside_7 : decode cX3_beside 7 = .ok (.bipush (-2), 2) := by decide +kernel
theorem dX3_beside_9 : decode cX3_beside 9 = .ok (.ireturn, 1) := by decide +kernel
theorem dX3_beside_10 : decode cX3_beside 10 = .ok (.aload_n 0, 1) := by decide +kernel
theorem dX3_beside_11 : decode cX3_beside 11 = .ok (.iload_n 1, 1) := by decide +kernel
theorem dX3_beside_12 : decode cX3_beside 12 = .ok (.invokevirtual 95, 3) := by decide +kernel
theorem dX3_beside_15 : decode cX3_beside 15 = .ok (.istore_n 2, 1) := by decide +kernel
theorem dX3_beside_16 : decode cX3_beside 16 = .ok (.aload_n 0, 1) := by decide +kernel
theorem dX3_beside_17 : decode cX3_beside 17 = .ok (.getfield 10, 3) := by decide +kernel
theorem dX3_beside_20 : decode cX3_beside 20 = .ok (.invokevirtual 162, 3) := by decide +kernel
theorem dX3_beside_23 : decode cX3_beside 23 = .ok (.istore_n 3, 1) := by decide +kernel
theorem dX3_beside_24 : decode cX3_beside 24 = .ok (.aload_n 0, 1) := by decide +kernel
theorem dX3_beside_25 : decode cX3_beside 25 = .ok (.getfield 10, 3) := by decide +kernel
theorem dX3_beside_28 : decode cX3_beside 28 = .ok (.iload_n 2, 1) := by decide +kernel
theorem dX3_beside_29 : decode cX3_beside 29 = .ok (.iconst 0, 1) := by decide +kernel
theorem dX3_beside_30 : decode cX3_beside 30 = .ok (.iload_n 3, 1) := by decide +kernel
theorem dX3_beside_31 : decode cX3_beside 31 = .ok (.invokestatic 165, 3) := by decide +kernel
theorem dX3_beside_34 : decode cX3_beside 34 = .ok (.invokevirtual 101, 3) := by decide +kernel
theorem dX3_beside_37 : decode cX3_beside 37 = .ok (.aload_n 0, 1) := by decide +kernel
theorem dX3_beside_38 : decode cX3_beside 38 = .ok (.getfield 10, 3) := by decide +kernel
theorem dX3_beside_41 : decode cX3_beside 41 = .ok (.iload_n 2, 1) := by decide +kernel
theorem dX3_beside_42 : decode cX3_beside 42 = .ok (.iconst 1, 1) := by decide +kernel
theorem dX3_beside_43 : decode cX3_beside 43 = .ok (.iload_n 3, 1) := by decide +kernel
theorem dX3_beside_44 : decode cX3_beside 44 = .ok (.invokestatic 165, 3) := by decide +kernel
theorem dX3_beside_47 : decode cX3_beside 47 = .ok (.invokevirtual 101, 3) := by decide +kernel
theorem dX3_beside_50 : decode cX3_beside 50 = .ok (.ixor, 1) := by decide +kernel
theorem dX3_beside_51 : decode cX3_beside 51 = .ok (.ireturn, 1) := by decide +kernel
theorem dX3_told_0 : decode cX3_told 0 = .ok (.iload_n 1, 1) := by decide +kernel
theorem dX3_told_1 : decode cX3_told 1 = .ok (.bipush 10, 2) := by decide +kernel
theorem dX3_told_3 : decode cX3_told 3 = .ok (.bipush 21, 2) := by decide +kernel
theorem dX3_told_5 : decode cX3_told 5 = .ok (.invokestatic 44, 3) := by decide +kernel
theorem dX3_told_8 : decode cX3_told 8 = .ok (.ifCond .eq 16, 3) := by decide +kernel
theorem dX3_told_11 : decode cX3_told 11 = .ok (.aload_n 0, 1) := by decide +kernel
theorem dX3_told_12 : decode cX3_told 12 = .ok (.getfield 10, 3) := by decide +kernel
theorem dX3_told_15 : decode cX3_told 15 = .ok (.getfield 84, 3) := by decide +kernel
theorem dX3_told_18 : decode cX3_told 18 = .ok (.iload_n 1, 1) := by decide +kernel
theorem dX3_told_19 : decode cX3_told 19 = .ok (.bipush 10, 2) := by decide +kernel
theorem dX3_told_21 : decode cX3_told 21 = .ok (.isub, 1) := by decide +kernel
theorem dX3_told_22 : decode cX3_told 22 = .ok (.iaload, 1) := by decide +kernel
theorem dX3_told_23 : decode cX3_told 23 = .ok (.ireturn, 1) := by decide +kernel
theorem dX3_told_24 : decode cX3_told 24 = .ok (.iload_n 1, 1) := by decide +kernel
theorem dX3_told_25 : decode cX3_told 25 = .ok (.tableswitch 69 0 4 #[35, 43, 51, 59, 64], 35) := by decide +kernel
theorem dX3_told_60 : decode cX3_told 60 = .ok (.aload_n 0, 1) := by decide +kernel
theorem dX3_told_61 : decode cX3_told 61 = .ok (.getfield 10, 3) := by decide +kernel
theorem dX3_told_64 : decode cX3_told 64 = .ok (.getfield 48, 3) := by decide +kernel
theorem dX3_told_67 : decode cX3_told 67 = .ok (.ireturn, 1) := by decide +kernel
theorem dX3_told_68 : decode cX3_told 68 = .ok (.aload_n 0, 1) := by decide +kernel
theorem dX3_told_69 : decode cX3_told 69 = .ok (.getfield 19, 3) := by decide +kernel
theorem dX3_told_72 : decode cX3_told 72 = .ok (.getfield 87, 3) := by decide +kernel
theorem dX3_told_75 : decode cX3_told 75 = .ok (.ireturn, 1) := by decide +kernel
theorem dX3_told_76 : decode cX3_told 76 = .ok (.aload_n 0, 1) := by decide +kernel
theorem dX3_told_77 : decode cX3_told 77 = .ok (.getfield 26, 3) := by decide +kernel
theorem dX3_told_80 : decode cX3_told 80 = .ok (.getfield 69, 3) := by decide +kernel
theorem dX3_told_83 : decode cX3_told 83 = .ok (.ireturn, 1) := by decide +kernel
theorem dX3_told_84 : decode cX3_told 84 = .ok (.aload_n 0, 1) := by decide +kernel
theorem dX3_told_85 : decode cX3_told 85 = .ok (.getfield 30, 3) := by decide +kernel
theorem dX3_told_88 : decode cX3_told 88 = .ok (.ireturn, 1) := by decide +kernel
theorem dX3_told_89 : decode cX3_told 89 = .ok (.aload_n 0, 1) := by decide +kernel
theorem dX3_told_90 : decode cX3_told 90 = .ok (.getfield 34, 3) := by decide +kernel
theorem dX3_told_93 : decode cX3_told 93 = .ok (.ireturn, 1) := by decide +kernel
theorem dX3_told_94 : decode cX3_told 94 = .ok (.bipush (-2), 2) := by decide +kernel
theorem dX3_told_96 : decode cX3_told 96 = .ok (.ireturn, 1) := by decide +kernel
theorem dX3_within_0 : decode cX3_within 0 = .ok (.iload_n 0, 1) := by decide +kernel
theorem dX3_within_1 : decode cX3_within 1 = .ok (.iload_n 1, 1) := by decide +kernel
theorem dX3_within_2 : decode cX3_within 2 = .ok (.if_icmp .lt 12, 3) := by decide +kernel
theorem dX3_within_5 : decode cX3_within 5 = .ok (.iload_n 0, 1) := by decide +kernel
theorem dX3_within_6 : decode cX3_within 6 = .ok (.iload_n 2, 1) := by decide +kernel
theorem dX3_within_7 : decode cX3_within 7 = .ok (.if_icmp .gt 7, 3) := by decide +kernel
theorem dX3_within_10 : decode cX3_within 10 = .ok (.iconst 1, 1) := by decide +kernel
theorem dX3_within_11 : decode cX3_within 11 = .ok (.goto 4, 3) := by decide +kernel
theorem dX3_within_14 : decode cX3_within 14 = .ok (.iconst 0, 1) := by decide +kernel
theorem dX3_within_15 : decode cX3_within 15 = .ok (.ireturn, 1) := by decide +kernel
theorem dX3_isDay_0 : decode cX3_isDay 0 = .ok (.iload_n 0, 1) := by decide +kernel
theorem dX3_isDay_1 : decode cX3_isDay 1 = .ok (.iconst 0, 1) := by decide +kernel
theorem dX3_isDay_2 : decode cX3_isDay 2 = .ok (.bipush 99, 2) := by decide +kernel
theorem dX3_isDay_4 : decode cX3_isDay 4 = .ok (.invokestatic 44, 3) := by decide +kernel
theorem dX3_isDay_7 : decode cX3_isDay 7 = .ok (.ireturn, 1) := by decide +kernel
theorem dX3_isWho_0 : decode cX3_isWho 0 = .ok (.iload_n 0, 1) := by decide +kernel
theorem dX3_isWho_1 : decode cX3_isWho 1 = .ok (.iconst 0, 1) := by decide +kernel
theorem dX3_isWho_2 : decode cX3_isWho 2 = .ok (.iconst 3, 1) := by decide +kernel
theorem dX3_isWho_3 : decode cX3_isWho 3 = .ok (.invokestatic 44, 3) := by decide +kernel
theorem dX3_isWho_6 : decode cX3_isWho 6 = .ok (.ireturn, 1) := by decide +kernel
theorem dX3_contains_0 : decode cX3_contains 0 = .ok (.iload_n 0, 1) := by decide +kernel
theorem dX3_contains_1 : decode cX3_contains 1 = .ok (.iload_n 1, 1) := by decide +kernel
theorem dX3_contains_2 : decode cX3_contains 2 = .ok (.ishr, 1) := by decide +kernel
theorem dX3_contains_3 : decode cX3_contains 3 = .ok (.iconst 1, 1) := by decide +kernel
theorem dX3_contains_4 : decode cX3_contains 4 = .ok (.iand, 1) := by decide +kernel
theorem dX3_contains_5 : decode cX3_contains 5 = .ok (.iconst 1, 1) := by decide +kernel
theorem dX3_contains_6 : decode cX3_contains 6 = .ok (.if_icmp .ne 7, 3) := by decide +kernel
theorem dX3_contains_9 : decode cX3_contains 9 = .ok (.iconst 1, 1) := by decide +kernel
theorem dX3_contains_10 : decode cX3_contains 10 = .ok (.goto 4, 3) := by decide +kernel
theorem dX3_contains_13 : decode cX3_contains 13 = .ok (.iconst 0, 1) := by decide +kernel
theorem dX3_contains_14 : decode cX3_contains 14 = .ok (.ireturn, 1) := by decide +kernel
theorem dX3_without_0 : decode cX3_without 0 = .ok (.iload_n 0, 1) := by decide +kernel
theorem dX3_without_1 : decode cX3_without 1 = .ok (.iconst 1, 1) := by decide +kernel
theorem dX3_without_2 : decode cX3_without 2 = .ok (.iload_n 1, 1) := by decide +kernel
theorem dX3_without_3 : decode cX3_without 3 = .ok (.ishl, 1) := by decide +kernel
theorem dX3_without_4 : decode cX3_without 4 = .ok (.iconst (-1), 1) := by decide +kernel
theorem dX3_without_5 : decode cX3_without 5 = .ok (.ixor, 1) := by decide +kernel
theorem dX3_without_6 : decode cX3_without 6 = .ok (.iand, 1) := by decide +kernel
theorem dX3_without_7 : decode cX3_without 7 = .ok (.ireturn, 1) := by decide +kernel
theorem dX3_soundOn_0 : decode cX3_soundOn 0 = .ok (.aload_n 0, 1) := by decide +kernel
theorem dX3_soundOn_1 : decode cX3_soundOn 1 = .ok (.getfield 10, 3) := by decide +kernel
theorem dX3_soundOn_4 : decode cX3_soundOn 4 = .ok (.iload_n 1, 1) := by decide +kernel
theorem dX3_soundOn_5 : decode cX3_soundOn 5 = .ok (.invokevirtual 177, 3) := by decide +kernel
theorem dX3_soundOn_8 : decode cX3_soundOn 8 = .ok (.aload_n 0, 1) := by decide +kernel
theorem dX3_soundOn_9 : decode cX3_soundOn 9 = .ok (.getfield 19, 3) := by decide +kernel
theorem dX3_soundOn_12 : decode cX3_soundOn 12 = .ok (.iload_n 1, 1) := by decide +kernel
theorem dX3_soundOn_13 : decode cX3_soundOn 13 = .ok (.aload_n 0, 1) := by decide +kernel
theorem dX3_soundOn_14 : decode cX3_soundOn 14 = .ok (.getfield 10, 3) := by decide +kernel
theorem dX3_soundOn_17 : decode cX3_soundOn 17 = .ok (.invokevirtual 180, 3) := by decide +kernel
theorem dX3_soundOn_20 : decode cX3_soundOn 20 = .ok (.iconst (-1), 1) := by decide +kernel
theorem dX3_soundOn_21 : decode cX3_soundOn 21 = .ok (.ixor, 1) := by decide +kernel
theorem dX3_soundOn_22 : decode cX3_soundOn 22 = .ok (.iand, 1) := by decide +kernel
theorem dX3_soundOn_23 : decode cX3_soundOn 23 = .ok (.ireturn, 1) := by decide +kernel
theorem dX3_exempt_0 : decode cX3_exempt 0 = .ok (.aload_n 0, 1) := by decide +kernel
theorem dX3_exempt_1 : decode cX3_exempt 1 = .ok (.getfield 30, 3) := by decide +kernel
theorem dX3_exempt_4 : decode cX3_exempt 4 = .ok (.aload_n 0, 1) := by decide +kernel
theorem dX3_exempt_5 : decode cX3_exempt 5 = .ok (.getfield 10, 3) := by decide +kernel
theorem dX3_exempt_8 : decode cX3_exempt 8 = .ok (.invokevirtual 162, 3) := by decide +kernel
theorem dX3_exempt_11 : decode cX3_exempt 11 = .ok (.invokestatic 165, 3) := by decide +kernel
theorem dX3_exempt_14 : decode cX3_exempt 14 = .ok (.ireturn, 1) := by decide +kernel
theorem dX3_exemptBy_0 : decode cX3_exemptBy 0 = .ok (.iload_n 0, 1) := by decide +kernel
theorem dX3_exemptBy_1 : decode cX3_exemptBy 1 = .ok (.iconst 1, 1) := by decide +kernel
theorem dX3_exemptBy_2 : decode cX3_exemptBy 2 = .ok (.if_icmp .ne 7, 3) := by decide +kernel
theorem dX3_exemptBy_5 : decode cX3_exemptBy 5 = .ok (.iload_n 1, 1) := by decide +kernel
theorem dX3_exemptBy_6 : decode cX3_exemptBy 6 = .ok (.goto 4, 3) := by decide +kernel
theorem dX3_exemptBy_9 : decode cX3_exemptBy 9 = .ok (.iconst 0, 1) := by decide +kernel
theorem dX3_exemptBy_10 : decode cX3_exemptBy 10 = .ok (.ireturn, 1) := by decide +kernel
theorem dX3_fallen_0 : decode cX3_fallen 0 = .ok (.aload_n 0, 1) := by decide +kernel
theorem dX3_fallen_1 : decode cX3_fallen 1 = .ok (.invokevirtual 98, 3) := by decide +kernel
theorem dX3_fallen_4 : decode cX3_fallen 4 = .ok (.istore_n 3, 1) := by decide +kernel
theorem dX3_fallen_5 : decode cX3_fallen 5 = .ok (.aload_n 0, 1) := by decide +kernel
theorem dX3_fallen_6 : decode cX3_fallen 6 = .ok (.getfield 10, 3) := by decide +kernel
theorem dX3_fallen_9 : decode cX3_fallen 9 = .ok (.iload_n 2, 1) := by decide +kernel
theorem dX3_fallen_10 : decode cX3_fallen 10 = .ok (.iload_n 3, 1) := by decide +kernel
theorem dX3_fallen_11 : decode cX3_fallen 11 = .ok (.invokevirtual 101, 3) := by decide +kernel
theorem dX3_fallen_14 : decode cX3_fallen 14 = .ok (.istore 4, 2) := by decide +kernel
theorem dX3_fallen_16 : decode cX3_fallen 16 = .ok (.iload 4, 2) := by decide +kernel
theorem dX3_fallen_18 : decode cX3_fallen 18 = .ok (.iload_n 1, 1) := by decide +kernel
theorem dX3_fallen_19 : decode cX3_fallen 19 = .ok (.invokestatic 115, 3) := by decide +kernel
theorem dX3_fallen_22 : decode cX3_fallen 22 = .ok (.ifCond .ne 5, 3) := by decide +kernel
theorem dX3_fallen_25 : decode cX3_fallen 25 = .ok (.iconst 0, 1) := by decide +kernel
theorem dX3_fallen_26 : decode cX3_fallen 26 = .ok (.ireturn, 1) := by decide +kernel
theorem dX3_fallen_27 : decode cX3_fallen 27 = .ok (.iload 4, 2) := by decide +kernel
theorem dX3_fallen_29 : decode cX3_fallen 29 = .ok (.aload_n 0, 1) := by decide +kernel
theorem dX3_fallen_30 : decode cX3_fallen 30 = .ok (.getfield 10, 3) := by decide +kernel
theorem dX3_fallen_33 : decode cX3_fallen 33 = .ok (.iload 4, 2) := by decide +kernel
theorem dX3_fallen_35 : decode cX3_fallen 35 = .ok (.iload_n 1, 1) := by decide +kernel
theorem dX3_fallen_36 : decode cX3_fallen 36 = .ok (.invokestatic 148, 3) := by decide +kernel
theorem dX3_fallen_39 : decode cX3_fallen 39 = .ok (.iload_n 3, 1) := by decide +kernel
theorem dX3_fallen_40 : decode cX3_fallen 40 = .ok (.invokevirtual 101, 3) := by decide +kernel
theorem dX3_fallen_43 : decode cX3_fallen 43 = .ok (.iconst (-1), 1) := by decide +kernel
theorem dX3_fallen_44 : decode cX3_fallen 44 = .ok (.ixor, 1) := by decide +kernel
theorem dX3_fallen_45 : decode cX3_fallen 45 = .ok (.iand, 1) := by decide +kernel
theorem dX3_fallen_46 : decode cX3_fallen 46 = .ok (.ireturn, 1) := by decide +kernel
theorem dX3_stepCount_0 : decode cX3_stepCount 0 = .ok (.iconst 0, 1) := by decide +kernel
theorem dX3_stepCount_1 : decode cX3_stepCount 1 = .ok (.istore_n 3, 1) := by decide +kernel
theorem dX3_stepCount_2 : decode cX3_stepCount 2 = .ok (.iload_n 3, 1) := by decide +kernel
theorem dX3_stepCount_3 : decode cX3_stepCount 3 = .ok (.bipush 12, 2) := by decide +kernel
theorem dX3_stepCount_5 : decode cX3_stepCount 5 = .ok (.if_icmp .ge 21, 3) := by decide +kernel
theorem dX3_stepCount_8 : decode cX3_stepCount 8 = .ok (.aload_n 0, 1) := by decide +kernel
theorem dX3_stepCount_9 : decode cX3_stepCount 9 = .ok (.iload_n 1, 1) := by decide +kernel
theorem dX3_stepCount_10 : decode cX3_stepCount 10 = .ok (.iload_n 2, 1) := by decide +kernel
theorem dX3_stepCount_11 : decode cX3_stepCount 11 = .ok (.iload_n 3, 1) := by decide +kernel
theorem dX3_stepCount_12 : decode cX3_stepCount 12 = .ok (.invokevirtual 133, 3) := by decide +kernel
theorem dX3_stepCount_15 : decode cX3_stepCount 15 = .ok (.bipush (-6), 2) := by decide +kernel
theorem dX3_stepCount_17 : decode cX3_stepCount 17 = .ok (.if_icmp .eq 9, 3) := by decide +kernel
theorem dX3_stepCount_20 : decode cX3_stepCount 20 = .ok (.iinc 3 1, 3) := by decide +kernel
theorem dX3_stepCount_23 : decode cX3_stepCount 23 = .ok (.goto (-21), 3) := by decide +kernel
theorem dX3_stepCount_26 : decode cX3_stepCount 26 = .ok (.iload_n 3, 1) := by decide +kernel
theorem dX3_stepCount_27 : decode cX3_stepCount 27 = .ok (.ireturn, 1) := by decide +kernel
theorem dX3_stepAt_0 : decode cX3_stepAt 0 = .ok (.aload_n 0, 1) := by decide +kernel
theorem dX3_stepAt_1 : decode cX3_stepAt 1 = .ok (.invokevirtual 98, 3) := by decide +kernel
theorem dX3_stepAt_4 : decode cX3_stepAt 4 = .ok (.istore 4, 2) := by decide +kernel
theorem dX3_stepAt_6 : decode cX3_stepAt 6 = .ok (.aload_n 0, 1) := by decide +kernel
theorem dX3_stepAt_7 : decode cX3_stepAt 7 = .ok (.getfield 10, 3) := by decide +kernel
theorem dX3_stepAt_10 : decode cX3_stepAt 10 = .ok (.iload_n 2, 1) := by decide +kernel
theorem dX3_stepAt_11 : decode cX3_stepAt 11 = .ok (.iload 4, 2) := by decide +kernel
theorem dX3_stepAt_13 : decode cX3_stepAt 13 = .ok (.invokevirtual 101, 3) := by decide +kernel
theorem dX3_stepAt_16 : decode cX3_stepAt 16 = .ok (.istore 5, 2) := by decide +kernel
theorem dX3_stepAt_18 : decode cX3_stepAt 18 = .ok (.iload 5, 2) := by decide +kernel
theorem dX3_stepAt_20 : decode cX3_stepAt 20 = .ok (.iload_n 1, 1) := by decide +kernel
theorem dX3_stepAt_21 : decode cX3_stepAt 21 = .ok (.invokestatic 115, 3) := by decide +kernel
theorem dX3_stepAt_24 : decode cX3_stepAt 24 = .ok (.ifCond .eq 13, 3) := by decide +kernel
theorem dX3_stepAt_27 : decode cX3_stepAt 27 = .ok (.iload_n 3, 1) := by decide +kernel
theorem dX3_stepAt_28 : decode cX3_stepAt 28 = .ok (.iconst 0, 1) := by decide +kernel
theorem dX3_stepAt_29 : decode cX3_stepAt 29 = .ok (.bipush 11, 2) := by decide +kernel
theorem dX3_stepAt_31 : decode cX3_stepAt 31 = .ok (.invokestatic 44, 3) := by decide +kernel
theorem dX3_stepAt_34 : decode cX3_stepAt 34 = .ok (.ifCond .ne 6, 3) := by decide +kernel
theorem dX3_stepAt_37 : decode cX3_stepAt 37 = .ok (.bipush (-6), 2) := by decide +kernel
theorem dX3_stepAt_39 : decode cX3_stepAt 39 = .ok (.ireturn, 1) := by decide +kernel
theorem dX3_stepAt_40 : decode cX3_stepAt 40 = .ok (.iconst 1, 1) := by decide +kernel
theorem dX3_stepAt_41 : decode cX3_stepAt 41 = .ok (.iload_n 1, 1) := by decide +kernel
theorem dX3_stepAt_42 : decode cX3_stepAt 42 = .ok (.ishl, 1) := by decide +kernel
theorem dX3_stepAt_43 : decode cX3_stepAt 43 = .ok (.istore 6, 2) := by decide +kernel
theorem dX3_stepAt_45 : decode cX3_stepAt 45 = .ok (.iconst 0, 1) := by decide +kernel
theorem dX3_stepAt_46 : decode cX3_stepAt 46 = .ok (.istore 7, 2) := by decide +kernel
theorem dX3_stepAt_48 : decode cX3_stepAt 48 = .ok (.iload 7, 2) := by decide +kernel
theorem dX3_stepAt_50 : decode cX3_stepAt 50 = .ok (.iload_n 3, 1) := by decide +kernel
theorem dX3_stepAt_51 : decode cX3_stepAt 51 = .ok (.if_icmp .ge 31, 3) := by decide +kernel
theorem dX3_stepAt_54 : decode cX3_stepAt 54 = .ok (.iload 5, 2) := by decide +kernel
theorem dX3_stepAt_56 : decode cX3_stepAt 56 = .ok (.iload 6, 2) := by decide +kernel
theorem dX3_stepAt_58 : decode cX3_stepAt 58 = .ok (.iconst (-1), 1) := by decide +kernel
theorem dX3_stepAt_59 : decode cX3_stepAt 59 = .ok (.ixor, 1) := by decide +kernel
theorem dX3_stepAt_60 : decode cX3_stepAt 60 = .ok (.iand, 1) := by decide +kernel
theorem dX3_stepAt_61 : decode cX3_stepAt 61 = .ok (.istore 5, 2) := by decide +kernel
theorem dX3_stepAt_63 : decode cX3_stepAt 63 = .ok (.aload_n 0, 1) := by decide +kernel
theorem dX3_stepAt_64 : decode cX3_stepAt 64 = .ok (.getfield 10, 3) := by decide +kernel
theorem dX3_stepAt_67 : decode cX3_stepAt 67 = .ok (.iload 5, 2) := by decide +kernel
theorem dX3_stepAt_69 : decode cX3_stepAt 69 = .ok (.iload 4, 2) := by decide +kernel
theorem dX3_stepAt_71 : decode cX3_stepAt 71 = .ok (.invokevirtual 184, 3) := by decide +kernel
theorem dX3_stepAt_74 : decode cX3_stepAt 74 = .ok (.istore 6, 2) := by decide +kernel
theorem dX3_stepAt_76 : decode cX3_stepAt 76 = .ok (.iinc 7 1, 3) := by decide +kernel
theorem dX3_stepAt_79 : decode cX3_stepAt 79 = .ok (.goto (-31), 3) := by decide +kernel
theorem dX3_stepAt_82 : decode cX3_stepAt 82 = .ok (.iload 6, 2) := by decide +kernel
theorem dX3_stepAt_84 : decode cX3_stepAt 84 = .ok (.ifCond .ne 8, 3) := by decide +kernel
theorem dX3_stepAt_87 : decode cX3_stepAt 87 = .ok (.bipush (-6), 2) := by decide +kernel
theorem dX3_stepAt_89 : decode cX3_stepAt 89 = .ok (.goto 5, 3) := by decide +kernel
theorem dX3_stepAt_92 : decode cX3_stepAt 92 = .ok (.iload 6, 2) := by decide +kernel
theorem dX3_stepAt_94 : decode cX3_stepAt 94 = .ok (.ireturn, 1) := by decide +kernel
theorem dX3_wiseWho_0 : decode cX3_wiseWho 0 = .ok (.aload_n 0, 1) := by decide +kernel
theorem dX3_wiseWho_1 : decode cX3_wiseWho 1 = .ok (.iload_n 1, 1) := by decide +kernel
theorem dX3_wiseWho_2 : decode cX3_wiseWho 2 = .ok (.iload_n 3, 1) := by decide +kernel
theorem dX3_wiseWho_3 : decode cX3_wiseWho 3 = .ok (.invokevirtual 127, 3) := by decide +kernel
theorem dX3_wiseWho_6 : decode cX3_wiseWho 6 = .ok (.istore 4, 2) := by decide +kernel
theorem dX3_wiseWho_8 : decode cX3_wiseWho 8 = .ok (.iconst 0, 1) := by decide +kernel
theorem dX3_wiseWho_9 : decode cX3_wiseWho 9 = .ok (.istore 5, 2) := by decide +kernel
theorem dX3_wiseWho_11 : decode cX3_wiseWho 11 = .ok (.iload 5, 2) := by decide +kernel
theorem dX3_wiseWho_13 : decode cX3_wiseWho 13 = .ok (.iconst 4, 1) := by decide +kernel
theorem dX3_wiseWho_14 : decode cX3_wiseWho 14 = .ok (.if_icmp .ge 45, 3) := by decide +kernel
theorem dX3_wiseWho_17 : decode cX3_wiseWho 17 = .ok (.aload_n 0, 1) := by decide +kernel
theorem dX3_wiseWho_18 : decode cX3_wiseWho 18 = .ok (.getfield 10, 3) := by decide +kernel
theorem dX3_wiseWho_21 : decode cX3_wiseWho 21 = .ok (.iload_n 1, 1) := by decide +kernel
theorem dX3_wiseWho_22 : decode cX3_wiseWho 22 = .ok (.iload 5, 2) := by decide +kernel
theorem dX3_wiseWho_24 : decode cX3_wiseWho 24 = .ok (.iload_n 2, 1) := by decide +kernel
theorem dX3_wiseWho_25 : decode cX3_wiseWho 25 = .ok (.invokevirtual 124, 3) := by decide +kernel
theorem dX3_wiseWho_28 : decode cX3_wiseWho 28 = .ok (.ifCond .eq 25, 3) := by decide +kernel
theorem dX3_wiseWho_31 : decode cX3_wiseWho 31 = .ok (.aload_n 0, 1) := by decide +kernel
theorem dX3_wiseWho_32 : decode cX3_wiseWho 32 = .ok (.getfield 10, 3) := by decide +kernel
theorem dX3_wiseWho_35 : decode cX3_wiseWho 35 = .ok (.iload 4, 2) := by decide +kernel
theorem dX3_wiseWho_37 : decode cX3_wiseWho 37 = .ok (.iload_n 2, 1) := by decide +kernel
theorem dX3_wiseWho_38 : decode cX3_wiseWho 38 = .ok (.iload 5, 2) := by decide +kernel
theorem dX3_wiseWho_40 : decode cX3_wiseWho 40 = .ok (.aload_n 0, 1) := by decide +kernel
theorem dX3_wiseWho_41 : decode cX3_wiseWho 41 = .ok (.getfield 34, 3) := by decide +kernel
theorem dX3_wiseWho_44 : decode cX3_wiseWho 44 = .ok (.invokevirtual 139, 3) := by decide +kernel
theorem dX3_wiseWho_47 : decode cX3_wiseWho 47 = .ok (.ifCond .le 6, 3) := by decide +kernel
theorem dX3_wiseWho_50 : decode cX3_wiseWho 50 = .ok (.iload 5, 2) := by decide +kernel
theorem dX3_wiseWho_52 : decode cX3_wiseWho 52 = .ok (.ireturn, 1) := by decide +kernel
theorem dX3_wiseWho_53 : decode cX3_wiseWho 53 = .ok (.iinc 5 1, 3) := by decide +kernel
theorem dX3_wiseWho_56 : decode cX3_wiseWho 56 = .ok (.goto (-45), 3) := by decide +kernel
theorem dX3_wiseWho_59 : decode cX3_wiseWho 59 = .ok (.bipush (-6), 2) := by decide +kernel
theorem dX3_wiseWho_61 : decode cX3_wiseWho 61 = .ok (.ireturn, 1) := by decide +kernel
theorem dX3_firstWiseAct_0 : decode cX3_firstWiseAct 0 = .ok (.iconst 0, 1) := by decide +kernel
theorem dX3_firstWiseAct_1 : decode cX3_firstWiseAct 1 = .ok (.istore_n 3, 1) := by decide +kernel
theorem dX3_firstWiseAct_2 : decode cX3_firstWiseAct 2 = .ok (.iload_n 3, 1) := by decide +kernel
theorem dX3_firstWiseAct_3 : decode cX3_firstWiseAct 3 = .ok (.aload_n 0, 1) := by decide +kernel
theorem dX3_firstWiseAct_4 : decode cX3_firstWiseAct 4 = .ok (.getfield 10, 3) := by decide +kernel
theorem dX3_firstWiseAct_7 : decode cX3_firstWiseAct 7 = .ok (.getfield 48, 3) := by decide +kernel
theorem dX3_firstWiseAct_10 : decode cX3_firstWiseAct 10 = .ok (.if_icmp .ge 23, 3) := by decide +kernel
theorem dX3_firstWiseAct_13 : decode cX3_firstWiseAct 13 = .ok (.aload_n 0, 1) := by decide +kernel
theorem dX3_firstWiseAct_14 : decode cX3_firstWiseAct 14 = .ok (.iload_n 3, 1) := by decide +kernel
theorem dX3_firstWiseAct_15 : decode cX3_firstWiseAct 15 = .ok (.iload_n 1, 1) := by decide +kernel
theorem dX3_firstWiseAct_16 : decode cX3_firstWiseAct 16 = .ok (.iload_n 2, 1) := by decide +kernel
theorem dX3_firstWiseAct_17 : decode cX3_firstWiseAct 17 = .ok (.invokevirtual 142, 3) := by decide +kernel
theorem dX3_firstWiseAct_20 : decode cX3_firstWiseAct 20 = .ok (.bipush (-6), 2) := by decide +kernel
theorem dX3_firstWiseAct_22 : decode cX3_firstWiseAct 22 = .ok (.if_icmp .eq 5, 3) := by decide +kernel
theorem dX3_firstWiseAct_25 : decode cX3_firstWiseAct 25 = .ok (.iload_n 3, 1) := by decide +kernel
theorem dX3_firstWiseAct_26 : decode cX3_firstWiseAct 26 = .ok (.ireturn, 1) := by decide +kernel
theorem dX3_firstWiseAct_27 : decode cX3_firstWiseAct 27 = .ok (.iinc 3 1, 3) := by decide +kernel
theorem dX3_firstWiseAct_30 : decode cX3_firstWiseAct 30 = .ok (.goto (-28), 3) := by decide +kernel
theorem dX3_firstWiseAct_33 : decode cX3_firstWiseAct 33 = .ok (.bipush (-6), 2) := by decide +kernel
theorem dX3_firstWiseAct_35 : decode cX3_firstWiseAct 35 = .ok (.ireturn, 1) := by decide +kernel
theorem dX3_fewestHealed_0 : decode cX3_fewestHealed 0 = .ok (.aload_n 0, 1) := by decide +kernel
theorem dX3_fewestHealed_1 : decode cX3_fewestHealed 1 = .ok (.iload_n 2, 1) := by decide +kernel
theorem dX3_fewestHealed_2 : decode cX3_fewestHealed 2 = .ok (.invokevirtual 95, 3) := by decide +kernel
theorem dX3_fewestHealed_5 : decode cX3_fewestHealed 5 = .ok (.istore_n 3, 1) := by decide +kernel
theorem dX3_fewestHealed_6 : decode cX3_fewestHealed 6 = .ok (.aload_n 0, 1) := by decide +kernel
theorem dX3_fewestHealed_7 : decode cX3_fewestHealed 7 = .ok (.invokevirtual 98, 3) := by decide +kernel
theorem dX3_fewestHealed_10 : decode cX3_fewestHealed 10 = .ok (.istore 4, 2) := by decide +kernel
theorem dX3_fewestHealed_12 : decode cX3_fewestHealed 12 = .ok (.aload_n 0, 1) := by decide +kernel
theorem dX3_fewestHealed_13 : decode cX3_fewestHealed 13 = .ok (.getfield 10, 3) := by decide +kernel
theorem dX3_fewestHealed_16 : decode cX3_fewestHealed 16 = .ok (.iload_n 2, 1) := by decide +kernel
theorem dX3_fewestHealed_17 : decode cX3_fewestHealed 17 = .ok (.invokevirtual 187, 3) := by decide +kernel
theorem dX3_fewestHealed_20 : decode cX3_fewestHealed 20 = .ok (.iload_n 3, 1) := by decide +kernel
theorem dX3_fewestHealed_21 : decode cX3_fewestHealed 21 = .ok (.iconst (-1), 1) := by decide +kernel
theorem dX3_fewestHealed_22 : decode cX3_fewestHealed 22 = .ok (.ixor, 1) := by decide +kernel
theorem dX3_fewestHealed_23 : decode cX3_fewestHealed 23 = .ok (.iand, 1) := by decide +kernel
theorem dX3_fewestHealed_24 : decode cX3_fewestHealed 24 = .ok (.istore 5, 2) := by decide +kernel
theorem dX3_fewestHealed_26 : decode cX3_fewestHealed 26 = .ok (.aload_n 0, 1) := by decide +kernel
theorem dX3_fewestHealed_27 : decode cX3_fewestHealed 27 = .ok (.getfield 10, 3) := by decide +kernel
theorem dX3_fewestHealed_30 : decode cX3_fewestHealed 30 = .ok (.iload_n 3, 1) := by decide +kernel
theorem dX3_fewestHealed_31 : decode cX3_fewestHealed 31 = .ok (.iload 5, 2) := by decide +kernel
theorem dX3_fewestHealed_33 : decode cX3_fewestHealed 33 = .ok (.ior, 1) := by decide +kernel
theorem dX3_fewestHealed_34 : decode cX3_fewestHealed 34 = .ok (.iload 4, 2) := by decide +kernel
theorem dX3_fewestHealed_36 : decode cX3_fewestHealed 36 = .ok (.invokevirtual 101, 3) := by decide +kernel
theorem dX3_fewestHealed_39 : decode cX3_fewestHealed 39 = .ok (.istore 6, 2) := by decide +kernel
theorem dX3_fewestHealed_41 : decode cX3_fewestHealed 41 = .ok (.iload_n 1, 1) := by decide +kernel
theorem dX3_fewestHealed_42 : decode cX3_fewestHealed 42 = .ok (.iload 6, 2) := by decide +kernel
theorem dX3_fewestHealed_44 : decode cX3_fewestHealed 44 = .ok (.iconst (-1), 1) := by decide +kernel
theorem dX3_fewestHealed_45 : decode cX3_fewestHealed 45 = .ok (.ixor, 1) := by decide +kernel
theorem dX3_fewestHealed_46 : decode cX3_fewestHealed 46 = .ok (.iand, 1) := by decide +kernel
theorem dX3_fewestHealed_47 : decode cX3_fewestHealed 47 = .ok (.ifCond .eq 6, 3) := by decide +kernel
theorem dX3_fewestHealed_50 : decode cX3_fewestHealed 50 = .ok (.bipush (-6), 2) := by decide +kernel
theorem dX3_fewestHealed_52 : decode cX3_fewestHealed 52 = .ok (.ireturn, 1) := by decide +kernel
theorem dX3_fewestHealed_53 : decode cX3_fewestHealed 53 = .ok (.iload 5, 2) := by decide +kernel
theorem dX3_fewestHealed_55 : decode cX3_fewestHealed 55 = .ok (.iload 6, 2) := by decide +kernel
theorem dX3_fewestHealed_57 : decode cX3_fewestHealed 57 = .ok (.iand, 1) := by decide +kernel
theorem dX3_fewestHealed_58 : decode cX3_fewestHealed 58 = .ok (.istore 7, 2) := by decide +kernel
theorem dX3_fewestHealed_60 : decode cX3_fewestHealed 60 = .ok (.aload_n 0, 1) := by decide +kernel
theorem dX3_fewestHealed_61 : decode cX3_fewestHealed 61 = .ok (.iload_n 1, 1) := by decide +kernel
theorem dX3_fewestHealed_62 : decode cX3_fewestHealed 62 = .ok (.iload 6, 2) := by decide +kernel
theorem dX3_fewestHealed_64 : decode cX3_fewestHealed 64 = .ok (.iload 7, 2) := by decide +kernel
theorem dX3_fewestHealed_66 : decode cX3_fewestHealed 66 = .ok (.iload 4, 2) := by decide +kernel
theorem dX3_fewestHealed_68 : decode cX3_fewestHealed 68 = .ok (.invokevirtual 190, 3) := by decide +kernel
theorem dX3_fewestHealed_71 : decode cX3_fewestHealed 71 = .ok (.istore 8, 2) := by decide +kernel
theorem dX3_fewestHealed_73 : decode cX3_fewestHealed 73 = .ok (.iload 7, 2) := by decide +kernel
theorem dX3_fewestHealed_75 : decode cX3_fewestHealed 75 = .ok (.iload 8, 2) := by decide +kernel
theorem dX3_fewestHealed_77 : decode cX3_fewestHealed 77 = .ok (.iconst (-1), 1) := by decide +kernel
theorem dX3_fewestHealed_78 : decode cX3_fewestHealed 78 = .ok (.ixor, 1) := by decide +kernel
theorem dX3_fewestHealed_79 : decode cX3_fewestHealed 79 = .ok (.iand, 1) := by decide +kernel
theorem dX3_fewestHealed_80 : decode cX3_fewestHealed 80 = .ok (.istore 9, 2) := by decide +kernel
theorem dX3_fewestHealed_82 : decode cX3_fewestHealed 82 = .ok (.iconst 0, 1) := by decide +kernel
theorem dX3_fewestHealed_83 : decode cX3_fewestHealed 83 = .ok (.istore 10, 2) := by decide +kernel
theorem dX3_fewestHealed_85 : decode cX3_fewestHealed 85 = .ok (.iconst 0, 1) := by decide +kernel
theorem dX3_fewestHealed_86 : decode cX3_fewestHealed 86 = .ok (.istore 11, 2) := by decide +kernel
theorem dX3_fewestHealed_88 : decode cX3_fewestHealed 88 = .ok (.iload 11, 2) := by decide +kernel
theorem dX3_fewestHealed_90 : decode cX3_fewestHealed 90 = .ok (.sipush 4096, 3) := by decide +kernel
theorem dX3_fewestHealed_93 : decode cX3_fewestHealed 93 = .ok (.if_icmp .ge 72, 3) := by decide +kernel
theorem dX3_fewestHealed_96 : decode cX3_fewestHealed 96 = .ok (.iload 7, 2) := by decide +kernel
theorem dX3_fewestHealed_98 : decode cX3_fewestHealed 98 = .ok (.iload 8, 2) := by decide +kernel
theorem dX3_fewestHealed_100 : decode cX3_fewestHealed 100 = .ok (.if_icmp .eq 65, 3) := by decide +kernel
theorem dX3_fewestHealed_103 : decode cX3_fewestHealed 103 = .ok (.iload 8, 2) := by decide +kernel
theorem dX3_fewestHealed_105 : decode cX3_fewestHealed 105 = .ok (.iload 10, 2) := by decide +kernel
theorem dX3_fewestHealed_107 : decode cX3_fewestHealed 107 = .ok (.ior, 1) := by decide +kernel
theorem dX3_fewestHealed_108 : decode cX3_fewestHealed 108 = .ok (.istore 12, 2) := by decide +kernel
theorem dX3_fewestHealed_110 : decode cX3_fewestHealed 110 = .ok (.iload 12, 2) := by decide +kernel
theorem dX3_fewestHealed_112 : decode cX3_fewestHealed 112 = .ok (.invokestatic 157, 3) := by decide +kernel
theorem dX3_fewestHealed_115 : decode cX3_fewestHealed 115 = .ok (.iload 7, 2) := by decide +kernel
theorem dX3_fewestHealed_117 : decode cX3_fewestHealed 117 = .ok (.invokestatic 157, 3) := by decide +kernel
theorem dX3_fewestHealed_120 : decode cX3_fewestHealed 120 = .ok (.if_icmp .ge 21, 3) := by decide +kernel
theorem dX3_fewestHealed_123 : decode cX3_fewestHealed 123 = .ok (.aload_n 0, 1) := by decide +kernel
theorem dX3_fewestHealed_124 : decode cX3_fewestHealed 124 = .ok (.iload_n 1, 1) := by decide +kernel
theorem dX3_fewestHealed_125 : decode cX3_fewestHealed 125 = .ok (.iload_n 3, 1) := by decide +kernel
theorem dX3_fewestHealed_126 : decode cX3_fewestHealed 126 = .ok (.iload 12, 2) := by decide +kernel
theorem dX3_fewestHealed_128 : decode cX3_fewestHealed 128 = .ok (.ior, 1) := by decide +kernel
theorem dX3_fewestHealed_129 : decode cX3_fewestHealed 129 = .ok (.iload 4, 2) := by decide +kernel
theorem dX3_fewestHealed_131 : decode cX3_fewestHealed 131 = .ok (.invokevirtual 193, 3) := by decide +kernel
theorem dX3_fewestHealed_134 : decode cX3_fewestHealed 134 = .ok (.ifCond .eq 7, 3) := by decide +kernel
theorem dX3_fewestHealed_137 : decode cX3_fewestHealed 137 = .ok (.iload 12, 2) := by decide +kernel
theorem dX3_fewestHealed_139 : decode cX3_fewestHealed 139 = .ok (.istore 7, 2) := by decide +kernel
theorem dX3_fewestHealed_141 : decode cX3_fewestHealed 141 = .ok (.iload 10, 2) := by decide +kernel
theorem dX3_fewestHealed_143 : decode cX3_fewestHealed 143 = .ok (.iload 9, 2) := by decide +kernel
theorem dX3_fewestHealed_145 : decode cX3_fewestHealed 145 = .ok (.isub, 1) := by decide +kernel
theorem dX3_fewestHealed_146 : decode cX3_fewestHealed 146 = .ok (.iload 9, 2) := by decide +kernel
theorem dX3_fewestHealed_148 : decode cX3_fewestHealed 148 = .ok (.iand, 1) := by decide +kernel
theorem dX3_fewestHealed_149 : decode cX3_fewestHealed 149 = .ok (.istore 10, 2) := by decide +kernel
theorem dX3_fewestHealed_151 : decode cX3_fewestHealed 151 = .ok (.iload 10, 2) := by decide +kernel
theorem dX3_fewestHealed_153 : decode cX3_fewestHealed 153 = .ok (.ifCond .ne 6, 3) := by decide +kernel
theorem dX3_fewestHealed_156 : decode cX3_fewestHealed 156 = .ok (.goto 9, 3) := by decide +kernel
theorem dX3_fewestHealed_159 : decode cX3_fewestHealed 159 = .ok (.iinc 11 1, 3) := by decide +kernel
theorem dX3_fewestHealed_162 : decode cX3_fewestHealed 162 = .ok (.goto (-74), 3) := by decide +kernel
theorem dX3_fewestHealed_165 : decode cX3_fewestHealed 165 = .ok (.iload 7, 2) := by decide +kernel
theorem dX3_fewestHealed_167 : decode cX3_fewestHealed 167 = .ok (.ireturn, 1) := by decide +kernel
theorem dX3_allStand_0 : decode cX3_allStand 0 = .ok (.iload_n 1, 1) := by decide +kernel
theorem dX3_allStand_1 : decode cX3_allStand 1 = .ok (.aload_n 0, 1) := by decide +kernel
theorem dX3_allStand_2 : decode cX3_allStand 2 = .ok (.getfield 10, 3) := by decide +kernel
theorem dX3_allStand_5 : decode cX3_allStand 5 = .ok (.iload_n 2, 1) := by decide +kernel
theorem dX3_allStand_6 : decode cX3_allStand 6 = .ok (.iload_n 3, 1) := by decide +kernel
theorem dX3_allStand_7 : decode cX3_allStand 7 = .ok (.invokevirtual 101, 3) := by decide +kernel
theorem dX3_allStand_10 : decode cX3_allStand 10 = .ok (.iconst (-1), 1) := by decide +kernel
theorem dX3_allStand_11 : decode cX3_allStand 11 = .ok (.ixor, 1) := by decide +kernel
theorem dX3_allStand_12 : decode cX3_allStand 12 = .ok (.iand, 1) := by decide +kernel
theorem dX3_allStand_13 : decode cX3_allStand 13 = .ok (.ifCond .ne 7, 3) := by decide +kernel
theorem dX3_allStand_16 : decode cX3_allStand 16 = .ok (.iconst 1, 1) := by decide +kernel
theorem dX3_allStand_17 : decode cX3_allStand 17 = .ok (.goto 4, 3) := by decide +kernel
theorem dX3_allStand_20 : decode cX3_allStand 20 = .ok (.iconst 0, 1) := by decide +kernel
theorem dX3_allStand_21 : decode cX3_allStand 21 = .ok (.ireturn, 1) := by decide +kernel
theorem dX3_indispensable_0 : decode cX3_indispensable 0 = .ok (.iconst 0, 1) := by decide +kernel
theorem dX3_indispensable_1 : decode cX3_indispensable 1 = .ok (.istore 5, 2) := by decide +kernel
theorem dX3_indispensable_3 : decode cX3_indispensable 3 = .ok (.iconst 0, 1) := by decide +kernel
theorem dX3_indispensable_4 : decode cX3_indispensable 4 = .ok (.istore 6, 2) := by decide +kernel
theorem dX3_indispensable_6 : decode cX3_indispensable 6 = .ok (.iload 6, 2) := by decide +kernel
theorem dX3_indispensable_8 : decode cX3_indispensable 8 = .ok (.aload_n 0, 1) := by decide +kernel
theorem dX3_indispensable_9 : decode cX3_indispensable 9 = .ok (.getfield 10, 3) := by decide +kernel
theorem dX3_indispensable_12 : decode cX3_indispensable 12 = .ok (.getfield 48, 3) := by decide +kernel
theorem dX3_indispensable_15 : decode cX3_indispensable 15 = .ok (.if_icmp .ge 43, 3) := by decide +kernel
theorem dX3_indispensable_18 : decode cX3_indispensable 18 = .ok (.iload_n 3, 1) := by decide +kernel
theorem dX3_indispensable_19 : decode cX3_indispensable 19 = .ok (.iload 6, 2) := by decide +kernel
theorem dX3_indispensable_21 : decode cX3_indispensable 21 = .ok (.invokestatic 115, 3) := by decide +kernel
theorem dX3_indispensable_24 : decode cX3_indispensable 24 = .ok (.ifCond .eq 28, 3) := by decide +kernel
theorem dX3_indispensable_27 : decode cX3_indispensable 27 = .ok (.aload_n 0, 1) := by decide +kernel
theorem dX3_indispensable_28 : decode cX3_indispensable 28 = .ok (.iload_n 1, 1) := by decide +kernel
theorem dX3_indispensable_29 : decode cX3_indispensable 29 = .ok (.iload_n 2, 1) := by decide +kernel
theorem dX3_indispensable_30 : decode cX3_indispensable 30 = .ok (.iload 6, 2) := by decide +kernel
theorem dX3_indispensable_32 : decode cX3_indispensable 32 = .ok (.invokestatic 148, 3) := by decide +kernel
theorem dX3_indispensable_35 : decode cX3_indispensable 35 = .ok (.iload 4, 2) := by decide +kernel
theorem dX3_indispensable_37 : decode cX3_indispensable 37 = .ok (.invokevirtual 193, 3) := by decide +kernel
theorem dX3_indispensable_40 : decode cX3_indispensable 40 = .ok (.ifCond .ne 12, 3) := by decide +kernel
theorem dX3_indispensable_43 : decode cX3_indispensable 43 = .ok (.iload 5, 2) := by decide +kernel
theorem dX3_indispensable_45 : decode cX3_indispensable 45 = .ok (.iconst 1, 1) := by decide +kernel
theorem dX3_indispensable_46 : decode cX3_indispensable 46 = .ok (.iload 6, 2) := by decide +kernel
theorem dX3_indispensable_48 : decode cX3_indispensable 48 = .ok (.ishl, 1) := by decide +kernel
theorem dX3_indispensable_49 : decode cX3_indispensable 49 = .ok (.ior, 1) := by decide +kernel
theorem dX3_indispensable_50 : decode cX3_indispensable 50 = .ok (.istore 5, 2) := by decide +kernel
theorem dX3_indispensable_52 : decode cX3_indispensable 52 = .ok (.iinc 6 1, 3) := by decide +kernel
theorem dX3_indispensable_55 : decode cX3_indispensable 55 = .ok (.goto (-49), 3) := by decide +kernel
theorem dX3_indispensable_58 : decode cX3_indispensable 58 = .ok (.iload 5, 2) := by decide +kernel
theorem dX3_indispensable_60 : decode cX3_indispensable 60 = .ok (.ireturn, 1) := by decide +kernel
theorem dX3_withstands_0 : decode cX3_withstands 0 = .ok (.aload_n 0, 1) := by decide +kernel
theorem dX3_withstands_1 : decode cX3_withstands 1 = .ok (.invokevirtual 98, 3) := by decide +kernel
theorem dX3_withstands_4 : decode cX3_withstands 4 = .ok (.istore 4, 2) := by decide +kernel
theorem dX3_withstands_6 : decode cX3_withstands 6 = .ok (.aload_n 0, 1) := by decide +kernel
theorem dX3_withstands_7 : decode cX3_withstands 7 = .ok (.getfield 10, 3) := by decide +kernel
theorem dX3_withstands_10 : decode cX3_withstands 10 = .ok (.iload_n 2, 1) := by decide +kernel
theorem dX3_withstands_11 : decode cX3_withstands 11 = .ok (.iload 4, 2) := by decide +kernel
theorem dX3_withstands_13 : decode cX3_withstands 13 = .ok (.invokevirtual 101, 3) := by decide +kernel
theorem dX3_withstands_16 : decode cX3_withstands 16 = .ok (.istore 5, 2) := by decide +kernel
theorem dX3_withstands_18 : decode cX3_withstands 18 = .ok (.iload 5, 2) := by decide +kernel
theorem dX3_withstands_20 : decode cX3_withstands 20 = .ok (.iload_n 1, 1) := by decide +kernel
theorem dX3_withstands_21 : decode cX3_withstands 21 = .ok (.invokestatic 115, 3) := by decide +kernel
theorem dX3_withstands_24 : decode cX3_withstands 24 = .ok (.ifCond .ne 5, 3) := by decide +kernel
theorem dX3_withstands_27 : decode cX3_withstands 27 = .ok (.iconst 0, 1) := by decide +kernel
theorem dX3_withstands_28 : decode cX3_withstands 28 = .ok (.ireturn, 1) := by decide +kernel
theorem dX3_withstands_29 : decode cX3_withstands 29 = .ok (.iconst 0, 1) := by decide +kernel
theorem dX3_withstands_30 : decode cX3_withstands 30 = .ok (.istore 6, 2) := by decide +kernel
theorem dX3_withstands_32 : decode cX3_withstands 32 = .ok (.iload 6, 2) := by decide +kernel
theorem dX3_withstands_34 : decode cX3_withstands 34 = .ok (.aload_n 0, 1) := by decide +kernel
theorem dX3_withstands_35 : decode cX3_withstands 35 = .ok (.getfield 10, 3) := by decide +kernel
theorem dX3_withstands_38 : decode cX3_withstands 38 = .ok (.getfield 48, 3) := by decide +kernel
theorem dX3_withstands_41 : decode cX3_withstands 41 = .ok (.if_icmp .ge 46, 3) := by decide +kernel
theorem dX3_withstands_44 : decode cX3_withstands 44 = .ok (.iload_n 3, 1) := by decide +kernel
theorem dX3_withstands_45 : decode cX3_withstands 45 = .ok (.iload 5, 2) := by decide +kernel
theorem dX3_withstands_47 : decode cX3_withstands 47 = .ok (.iand, 1) := by decide +kernel
theorem dX3_withstands_48 : decode cX3_withstands 48 = .ok (.iload 6, 2) := by decide +kernel
theorem dX3_withstands_50 : decode cX3_withstands 50 = .ok (.invokestatic 115, 3) := by decide +kernel
theorem dX3_withstands_53 : decode cX3_withstands 53 = .ok (.ifCond .eq 28, 3) := by decide +kernel
theorem dX3_withstands_56 : decode cX3_withstands 56 = .ok (.aload_n 0, 1) := by decide +kernel
theorem dX3_withstands_57 : decode cX3_withstands 57 = .ok (.getfield 10, 3) := by decide +kernel
theorem dX3_withstands_60 : decode cX3_withstands 60 = .ok (.iload 5, 2) := by decide +kernel
theorem dX3_withstands_62 : decode cX3_withstands 62 = .ok (.iload 6, 2) := by decide +kernel
theorem dX3_withstands_64 : decode cX3_withstands 64 = .ok (.invokestatic 148, 3) := by decide +kernel
theorem dX3_withstands_67 : decode cX3_withstands 67 = .ok (.iload 4, 2) := by decide +kernel
theorem dX3_withstands_69 : decode cX3_withstands 69 = .ok (.invokevirtual 101, 3) := by decide +kernel
theorem dX3_withstands_72 : decode cX3_withstands 72 = .ok (.iload_n 1, 1) := by decide +kernel
theorem dX3_withstands_73 : decode cX3_withstands 73 = .ok (.invokestatic 115, 3) := by decide +kernel
theorem dX3_withstands_76 : decode cX3_withstands 76 = .ok (.ifCond .ne 5, 3) := by decide +kernel
theorem dX3_withstands_79 : decode cX3_withstands 79 = .ok (.iconst 0, 1) := by decide +kernel
theorem dX3_withstands_80 : decode cX3_withstands 80 = .ok (.ireturn, 1) := by decide +kernel
theorem dX3_withstands_81 : decode cX3_withstands 81 = .ok (.iinc 6 1, 3) := by decide +kernel
theorem dX3_withstands_84 : decode cX3_withstands 84 = .ok (.goto (-52), 3) := by decide +kernel
theorem dX3_withstands_87 : decode cX3_withstands 87 = .ok (.iconst 1, 1) := by decide +kernel
theorem dX3_withstands_88 : decode cX3_withstands 88 = .ok (.ireturn, 1) := by decide +kernel
