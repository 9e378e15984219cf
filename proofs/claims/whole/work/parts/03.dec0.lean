theorem dX0_init_0 : decode cX0_init 0 = .ok (.aload_n 0, 1) := by decide +kernel
theorem dX0_init_1 : decode cX0_init 1 = .ok (.invokespecial 3, 3) := by decide +kernel
theorem dX0_init_4 : decode cX0_init 4 = .ok (.aload_n 0, 1) := by decide +kernel
theorem dX0_init_5 : decode cX0_init 5 = .ok (.bipush 12, 2) := by decide +kernel
theorem dX0_init_7 : decode cX0_init 7 = .ok (.newarray .int, 2) := by decide +kernel
theorem dX0_init_9 : decode cX0_init 9 = .ok (.putfield 9, 3) := by decide +kernel
theorem dX0_init_12 : decode cX0_init 12 = .ok (.aload_n 0, 1) := by decide +kernel
theorem dX0_init_13 : decode cX0_init 13 = .ok (.bipush 12, 2) := by decide +kernel
theorem dX0_init_15 : decode cX0_init 15 = .ok (.newarray .int, 2) := by decide +kernel
theorem dX0_init_17 : decode cX0_init 17 = .ok (.putfield 15, 3) := by decide +kernel
theorem dX0_init_20 : decode cX0_init 20 = .ok (.aload_n 0, 1) := by decide +kernel
theorem dX0_init_21 : decode cX0_init 21 = .ok (.bipush 12, 2) := by decide +kernel
theorem dX0_init_23 : decode cX0_init 23 = .ok (.newarray .int, 2) := by decide +kernel
theorem dX0_init_25 : decode cX0_init 25 = .ok (.putfield 18, 3) := by decide +kernel
theorem dX0_init_28 : decode cX0_init 28 = .ok (.aload_n 0, 1) := by decide +kernel
theorem dX0_init_29 : decode cX0_init 29 = .ok (.bipush 12, 2) := by decide +kernel
theorem dX0_init_31 : decode cX0_init 31 = .ok (.newarray .int, 2) := by decide +kernel
theorem dX0_init_33 : decode cX0_init 33 = .ok (.putfield 21, 3) := by decide +kernel
theorem dX0_init_36 : decode cX0_init 36 = .ok (.aload_n 0, 1) := by decide +kernel
theorem dX0_init_37 : decode cX0_init 37 = .ok (.iconst 4, 1) := by decide +kernel
theorem dX0_init_38 : decode cX0_init 38 = .ok (.bipush 12, 2) := by decide +kernel
theorem dX0_init_40 : decode cX0_init 40 = .ok (.multianewarray 24 2, 4) := by decide +kernel
theorem dX0_init_44 : decode cX0_init 44 = .ok (.putfield 26, 3) := by decide +kernel
theorem dX0_init_47 : decode cX0_init 47 = .ok (.aload_n 0, 1) := by decide +kernel
theorem dX0_init_48 : decode cX0_init 48 = .ok (.bipush 12, 2) := by decide +kernel
theorem dX0_init_50 : decode cX0_init 50 = .ok (.newarray .int, 2) := by decide +kernel
theorem dX0_init_52 : decode cX0_init 52 = .ok (.putfield 29, 3) := by decide +kernel
theorem dX0_init_55 : decode cX0_init 55 = .ok (.aload_n 0, 1) := by decide +kernel
theorem dX0_init_56 : decode cX0_init 56 = .ok (.bipush 12, 2) := by decide +kernel
theorem dX0_init_58 : decode cX0_init 58 = .ok (.bipush 20, 2) := by decide +kernel
theorem dX0_init_60 : decode cX0_init 60 = .ok (.multianewarray 24 2, 4) := by decide +kernel
theorem dX0_init_64 : decode cX0_init 64 = .ok (.putfield 32, 3) := by decide +kernel
theorem dX0_init_67 : decode cX0_init 67 = .ok (.aload_n 0, 1) := by decide +kernel
theorem dX0_init_68 : decode cX0_init 68 = .ok (.getfield 26, 3) := by decide +kernel
theorem dX0_init_71 : decode cX0_init 71 = .ok (.iconst 1, 1) := by decide +kernel
theorem dX0_init_72 : decode cX0_init 72 = .ok (.aaload, 1) := by decide +kernel
theorem dX0_init_73 : decode cX0_init 73 = .ok (.bipush 99, 2) := by decide +kernel
theorem dX0_init_75 : decode cX0_init 75 = .ok (.invokestatic 35, 3) := by decide +kernel
theorem dX0_init_78 : decode cX0_init 78 = .ok (.aload_n 0, 1) := by decide +kernel
theorem dX0_init_79 : decode cX0_init 79 = .ok (.getfield 26, 3) := by decide +kernel
theorem dX0_init_82 : decode cX0_init 82 = .ok (.iconst 2, 1) := by decide +kernel
theorem dX0_init_83 : decode cX0_init 83 = .ok (.aaload, 1) := by decide +kernel
theorem dX0_init_84 : decode cX0_init 84 = .ok (.iconst (-1), 1) := by decide +kernel
theorem dX0_init_85 : decode cX0_init 85 = .ok (.invokestatic 35, 3) := by decide +kernel
theorem dX0_init_88 : decode cX0_init 88 = .ok (.return_, 1) := by decide +kernel
theorem dX0_add_0 : decode cX0_add 0 = .ok (.aload_n 0, 1) := by decide +kernel
theorem dX0_add_1 : decode cX0_add 1 = .ok (.getfield 9, 3) := by decide +kernel
theorem dX0_add_4 : decode cX0_add 4 = .ok (.aload_n 0, 1) := by decide +kernel
theorem dX0_add_5 : decode cX0_add 5 = .ok (.getfield 41, 3) := by decide +kernel
theorem dX0_add_8 : decode cX0_add 8 = .ok (.iload_n 1, 1) := by decide +kernel
theorem dX0_add_9 : decode cX0_add 9 = .ok (.iastore, 1) := by decide +kernel
theorem dX0_add_10 : decode cX0_add 10 = .ok (.aload_n 0, 1) := by decide +kernel
theorem dX0_add_11 : decode cX0_add 11 = .ok (.getfield 15, 3) := by decide +kernel
theorem dX0_add_14 : decode cX0_add 14 = .ok (.aload_n 0, 1) := by decide +kernel
theorem dX0_add_15 : decode cX0_add 15 = .ok (.getfield 41, 3) := by decide +kernel
theorem dX0_add_18 : decode cX0_add 18 = .ok (.iload_n 2, 1) := by decide +kernel
theorem dX0_add_19 : decode cX0_add 19 = .ok (.iastore, 1) := by decide +kernel
theorem dX0_add_20 : decode cX0_add 20 = .ok (.aload_n 0, 1) := by decide +kernel
theorem dX0_add_21 : decode cX0_add 21 = .ok (.getfield 18, 3) := by decide +kernel
theorem dX0_add_24 : decode cX0_add 24 = .ok (.aload_n 0, 1) := by decide +kernel
theorem dX0_add_25 : decode cX0_add 25 = .ok (.getfield 41, 3) := by decide +kernel
theorem dX0_add_28 : decode cX0_add 28 = .ok (.iload_n 3, 1) := by decide +kernel
theorem dX0_add_29 : decode cX0_add 29 = .ok (.iastore, 1) := by decide +kernel
theorem dX0_add_30 : decode cX0_add 30 = .ok (.aload_n 0, 1) := by decide +kernel
theorem dX0_add_31 : decode cX0_add 31 = .ok (.getfield 21, 3) := by decide +kernel
theorem dX0_add_34 : decode cX0_add 34 = .ok (.aload_n 0, 1) := by decide +kernel
theorem dX0_add_35 : decode cX0_add 35 = .ok (.getfield 41, 3) := by decide +kernel
theorem dX0_add_38 : decode cX0_add 38 = .ok (.iload 4, 2) := by decide +kernel
theorem dX0_add_40 : decode cX0_add 40 = .ok (.iastore, 1) := by decide +kernel
theorem dX0_add_41 : decode cX0_add 41 = .ok (.aload_n 0, 1) := by decide +kernel
theorem dX0_add_42 : decode cX0_add 42 = .ok (.dup, 1) := by decide +kernel
theorem dX0_add_43 : decode cX0_add 43 = .ok (.getfield 41, 3) := by decide +kernel
theorem dX0_add_46 : decode cX0_add 46 = .ok (.iconst 1, 1) := by decide +kernel
theorem dX0_add_47 : decode cX0_add 47 = .ok (.iadd, 1) := by decide +kernel
theorem dX0_add_48 : decode cX0_add 48 = .ok (.putfield 41, 3) := by decide +kernel
theorem dX0_add_51 : decode cX0_add 51 = .ok (.aload_n 0, 1) := by decide +kernel
theorem dX0_add_52 : decode cX0_add 52 = .ok (.getfield 41, 3) := by decide +kernel
theorem dX0_add_55 : decode cX0_add 55 = .ok (.iconst 1, 1) := by decide +kernel
theorem dX0_add_56 : decode cX0_add 56 = .ok (.isub, 1) := by decide +kernel
theorem dX0_add_57 : decode cX0_add 57 = .ok (.ireturn, 1) := by decide +kernel
theorem dX0_has_0 : decode cX0_has 0 = .ok (.iload_n 1, 1) := by decide +kernel
theorem dX0_has_1 : decode cX0_has 1 = .ok (.ifCond .lt 15, 3) := by decide +kernel
theorem dX0_has_4 : decode cX0_has 4 = .ok (.iload_n 1, 1) := by decide +kernel
theorem dX0_has_5 : decode cX0_has 5 = .ok (.aload_n 0, 1) := by decide +kernel
theorem dX0_has_6 : decode cX0_has 6 = .ok (.getfield 41, 3) := by decide +kernel
theorem dX0_has_9 : decode cX0_has 9 = .ok (.if_icmp .ge 7, 3) := by decide +kernel
theorem dX0_has_12 : decode cX0_has 12 = .ok (.iconst 1, 1) := by decide +kernel
theorem dX0_has_13 : decode cX0_has 13 = .ok (.goto 4, 3) := by decide +kernel
theorem dX0_has_16 : decode cX0_has 16 = .ok (.iconst 0, 1) := by decide +kernel
theorem dX0_has_17 : decode cX0_has 17 = .ok (.ireturn, 1) := by decide +kernel
theorem dX0_hasAll_0 : decode cX0_hasAll 0 = .ok (.iload_n 1, 1) := by decide +kernel
theorem dX0_hasAll_1 : decode cX0_hasAll 1 = .ok (.aload_n 0, 1) := by decide +kernel
theorem dX0_hasAll_2 : decode cX0_hasAll 2 = .ok (.invokevirtual 45, 3) := by decide +kernel
theorem dX0_hasAll_5 : decode cX0_hasAll 5 = .ok (.iconst (-1), 1) := by decide +kernel
theorem dX0_hasAll_6 : decode cX0_hasAll 6 = .ok (.ixor, 1) := by decide +kernel
theorem dX0_hasAll_7 : decode cX0_hasAll 7 = .ok (.iand, 1) := by decide +kernel
theorem dX0_hasAll_8 : decode cX0_hasAll 8 = .ok (.ifCond .ne 7, 3) := by decide +kernel
theorem dX0_hasAll_11 : decode cX0_hasAll 11 = .ok (.iconst 1, 1) := by decide +kernel
theorem dX0_hasAll_12 : decode cX0_hasAll 12 = .ok (.goto 4, 3) := by decide +kernel
theorem dX0_hasAll_15 : decode cX0_hasAll 15 = .ok (.iconst 0, 1) := by decide +kernel
theorem dX0_hasAll_16 : decode cX0_hasAll 16 = .ok (.ireturn, 1) := by decide +kernel
theorem dX0_everyOne_0 : decode cX0_everyOne 0 = .ok (.iconst 1, 1) := by decide +kernel
theorem dX0_everyOne_1 : decode cX0_everyOne 1 = .ok (.aload_n 0, 1) := by decide +kernel
theorem dX0_everyOne_2 : decode cX0_everyOne 2 = .ok (.getfield 41, 3) := by decide +kernel
theorem dX0_everyOne_5 : decode cX0_everyOne 5 = .ok (.ishl, 1) := by decide +kernel
theorem dX0_everyOne_6 : decode cX0_everyOne 6 = .ok (.iconst 1, 1) := by decide +kernel
theorem dX0_everyOne_7 : decode cX0_everyOne 7 = .ok (.isub, 1) := by decide +kernel
theorem dX0_everyOne_8 : decode cX0_everyOne 8 = .ok (.ireturn, 1) := by decide +kernel
theorem dX0_takeText_0 : decode cX0_takeText 0 = .ok (.aload_n 0, 1) := by decide +kernel
theorem dX0_takeText_1 : decode cX0_takeText 1 = .ok (.getfield 32, 3) := by decide +kernel
theorem dX0_takeText_4 : decode cX0_takeText 4 = .ok (.iload_n 1, 1) := by decide +kernel
theorem dX0_takeText_5 : decode cX0_takeText 5 = .ok (.aaload, 1) := by decide +kernel
theorem dX0_takeText_6 : decode cX0_takeText 6 = .ok (.astore_n 3, 1) := by decide +kernel
theorem dX0_takeText_7 : decode cX0_takeText 7 = .ok (.iconst 0, 1) := by decide +kernel
theorem dX0_takeText_8 : decode cX0_takeText 8 = .ok (.istore 4, 2) := by decide +kernel
theorem dX0_takeText_10 : decode cX0_takeText 10 = .ok (.aload_n 3, 1) := by decide +kernel
theorem dX0_takeText_11 : decode cX0_takeText 11 = .ok (.iload 4, 2) := by decide +kernel
theorem dX0_takeText_13 : decode cX0_takeText 13 = .ok (.iconst 0, 1) := by decide +kernel
theorem dX0_takeText_14 : decode cX0_takeText 14 = .ok (.iastore, 1) := by decide +kernel
theorem dX0_takeText_15 : decode cX0_takeText 15 = .ok (.iconst 0, 1) := by decide +kernel
theorem dX0_takeText_16 : decode cX0_takeText 16 = .ok (.istore 5, 2) := by decide +kernel
theorem dX0_takeText_18 : decode cX0_takeText 18 = .ok (.iload 5, 2) := by decide +kernel
theorem dX0_takeText_20 : decode cX0_takeText 20 = .ok (.aload_n 2, 1) := by decide +kernel
theorem dX0_takeText_21 : decode cX0_takeText 21 = .ok (.getfield 49, 3) := by decide +kernel
theorem dX0_takeText_24 : decode cX0_takeText 24 = .ok (.if_icmp .ge 65, 3) := by decide +kernel
theorem dX0_takeText_27 : decode cX0_takeText 27 = .ok (.aload_n 2, 1) := by decide +kernel
theorem dX0_takeText_28 : decode cX0_takeText 28 = .ok (.getfield 52, 3) := by decide +kernel
theorem dX0_takeText_31 : decode cX0_takeText 31 = .ok (.iload 5, 2) := by decide +kernel
theorem dX0_takeText_33 : decode cX0_takeText 33 = .ok (.iaload, 1) := by decide +kernel
theorem dX0_takeText_34 : decode cX0_takeText 34 = .ok (.istore 6, 2) := by decide +kernel
theorem dX0_takeText_36 : decode cX0_takeText 36 = .ok (.iload 6, 2) := by decide +kernel
theorem dX0_takeText_38 : decode cX0_takeText 38 = .ok (.bipush 124, 2) := by decide +kernel
theorem dX0_takeText_40 : decode cX0_takeText 40 = .ok (.if_icmp .ne 22, 3) := by decide +kernel
theorem dX0_takeText_43 : decode cX0_takeText 43 = .ok (.iload 4, 2) := by decide +kernel
theorem dX0_takeText_45 : decode cX0_takeText 45 = .ok (.iconst 1, 1) := by decide +kernel
theorem dX0_takeText_46 : decode cX0_takeText 46 = .ok (.iadd, 1) := by decide +kernel
theorem dX0_takeText_47 : decode cX0_takeText 47 = .ok (.bipush 19, 2) := by decide +kernel
theorem dX0_takeText_49 : decode cX0_takeText 49 = .ok (.invokestatic 55, 3) := by decide +kernel
theorem dX0_takeText_52 : decode cX0_takeText 52 = .ok (.istore 4, 2) := by decide +kernel
theorem dX0_takeText_54 : decode cX0_takeText 54 = .ok (.aload_n 3, 1) := by decide +kernel
theorem dX0_takeText_55 : decode cX0_takeText 55 = .ok (.iload 4, 2) := by decide +kernel
theorem dX0_takeText_57 : decode cX0_takeText 57 = .ok (.iconst 0, 1) := by decide +kernel
theorem dX0_takeText_58 : decode cX0_takeText 58 = .ok (.iastore, 1) := by decide +kernel
theorem dX0_takeText_59 : decode cX0_takeText 59 = .ok (.goto 24, 3) := by decide +kernel
theorem dX0_takeText_62 : decode cX0_takeText 62 = .ok (.iload 6, 2) := by decide +kernel
theorem dX0_takeText_64 : decode cX0_takeText 64 = .ok (.bipush 43, 2) := by decide +kernel
theorem dX0_takeText_66 : decode cX0_takeText 66 = .ok (.if_icmp .eq 17, 3) := by decide +kernel
theorem dX0_takeText_69 : decode cX0_takeText 69 = .ok (.aload_n 3, 1) := by decide +kernel
theorem dX0_takeText_70 : decode cX0_takeText 70 = .ok (.iload 4, 2) := by decide +kernel
theorem dX0_takeText_72 : decode cX0_takeText 72 = .ok (.dup2, 1) := by decide +kernel
theorem dX0_takeText_73 : decode cX0_takeText 73 = .ok (.iaload, 1) := by decide +kernel
theorem dX0_takeText_74 : decode cX0_takeText 74 = .ok (.iconst 1, 1) := by decide +kernel
theorem dX0_takeText_75 : decode cX0_takeText 75 = .ok (.iload 6, 2) := by decide +kernel
theorem dX0_takeText_77 : decode cX0_takeText 77 = .ok (.bipush 97, 2) := by decide +kernel
theorem dX0_takeText_79 : decode cX0_takeText 79 = .ok (.isub, 1) := by decide +kernel
theorem dX0_takeText_80 : decode cX0_takeText 80 = .ok (.ishl, 1) := by decide +kernel
theorem dX0_takeText_81 : decode cX0_takeText 81 = .ok (.ior, 1) := by decide +kernel
theorem dX0_takeText_82 : decode cX0_takeText 82 = .ok (.iastore, 1) := by decide +kernel
theorem dX0_takeText_83 : decode cX0_takeText 83 = .ok (.iinc 5 1, 3) := by decide +kernel
theorem dX0_takeText_86 : decode cX0_takeText 86 = .ok (.goto (-68), 3) := by decide +kernel
theorem dX0_takeText_89 : decode cX0_takeText 89 = .ok (.aload_n 0, 1) := by decide +kernel
theorem dX0_takeText_90 : decode cX0_takeText 90 = .ok (.getfield 29, 3) := by decide +kernel
theorem dX0_takeText_93 : decode cX0_takeText 93 = .ok (.iload_n 1, 1) := by decide +kernel
theorem dX0_takeText_94 : decode cX0_takeText 94 = .ok (.iload 4, 2) := by decide +kernel
theorem dX0_takeText_96 : decode cX0_takeText 96 = .ok (.iconst 1, 1) := by decide +kernel
theorem dX0_takeText_97 : decode cX0_takeText 97 = .ok (.iadd, 1) := by decide +kernel
theorem dX0_takeText_98 : decode cX0_takeText 98 = .ok (.iastore, 1) := by decide +kernel
theorem dX0_takeText_99 : decode cX0_takeText 99 = .ok (.return_, 1) := by decide +kernel
theorem dX0_named_0 : decode cX0_named 0 = .ok (.iconst 0, 1) := by decide +kernel
theorem dX0_named_1 : decode cX0_named 1 = .ok (.istore_n 2, 1) := by decide +kernel
theorem dX0_named_2 : decode cX0_named 2 = .ok (.iconst 0, 1) := by decide +kernel
theorem dX0_named_3 : decode cX0_named 3 = .ok (.istore_n 3, 1) := by decide +kernel
theorem dX0_named_4 : decode cX0_named 4 = .ok (.iload_n 3, 1) := by decide +kernel
theorem dX0_named_5 : decode cX0_named 5 = .ok (.aload_n 0, 1) := by decide +kernel
theorem dX0_named_6 : decode cX0_named 6 = .ok (.getfield 29, 3) := by decide +kernel
theorem dX0_named_9 : decode cX0_named 9 = .ok (.iload_n 1, 1) := by decide +kernel
theorem dX0_named_10 : decode cX0_named 10 = .ok (.iaload, 1) := by decide +kernel
theorem dX0_named_11 : decode cX0_named 11 = .ok (.if_icmp .ge 20, 3) := by decide +kernel
theorem dX0_named_14 : decode cX0_named 14 = .ok (.iload_n 2, 1) := by decide +kernel
theorem dX0_named_15 : decode cX0_named 15 = .ok (.aload_n 0, 1) := by decide +kernel
theorem dX0_named_16 : decode cX0_named 16 = .ok (.getfield 32, 3) := by decide +kernel
theorem dX0_named_19 : decode cX0_named 19 = .ok (.iload_n 1, 1) := by decide +kernel
theorem dX0_named_20 : decode cX0_named 20 = .ok (.aaload, 1) := by decide +kernel
theorem dX0_named_21 : decode cX0_named 21 = .ok (.iload_n 3, 1) := by decide +kernel
theorem dX0_named_22 : decode cX0_named 22 = .ok (.iaload, 1) := by decide +kernel
theorem dX0_named_23 : decode cX0_named 23 = .ok (.ior, 1) := by decide +kernel
theorem dX0_named_24 : decode cX0_named 24 = .ok (.istore_n 2, 1) := by decide +kernel
theorem dX0_named_25 : decode cX0_named 25 = .ok (.iinc 3 1, 3) := by decide +kernel
theorem dX0_named_28 : decode cX0_named 28 = .ok (.goto (-24), 3) := by decide +kernel
theorem dX0_named_31 : decode cX0_named 31 = .ok (.iload_n 2, 1) := by decide +kernel
theorem dX0_named_32 : decode cX0_named 32 = .ok (.aload_n 0, 1) := by decide +kernel
theorem dX0_named_33 : decode cX0_named 33 = .ok (.invokevirtual 45, 3) := by decide +kernel
theorem dX0_named_36 : decode cX0_named 36 = .ok (.iand, 1) := by decide +kernel
theorem dX0_named_37 : decode cX0_named 37 = .ok (.ireturn, 1) := by decide +kernel
theorem dX0_namedByAny_0 : decode cX0_namedByAny 0 = .ok (.iconst 0, 1) := by decide +kernel
theorem dX0_namedByAny_1 : decode cX0_namedByAny 1 = .ok (.istore_n 2, 1) := by decide +kernel
theorem dX0_namedByAny_2 : decode cX0_namedByAny 2 = .ok (.iconst 0, 1) := by decide +kernel
theorem dX0_namedByAny_3 : decode cX0_namedByAny 3 = .ok (.istore_n 3, 1) := by decide +kernel
theorem dX0_namedByAny_4 : decode cX0_namedByAny 4 = .ok (.iload_n 3, 1) := by decide +kernel
theorem dX0_namedByAny_5 : decode cX0_namedByAny 5 = .ok (.aload_n 0, 1) := by decide +kernel
theorem dX0_namedByAny_6 : decode cX0_namedByAny 6 = .ok (.getfield 41, 3) := by decide +kernel
theorem dX0_namedByAny_9 : decode cX0_namedByAny 9 = .ok (.if_icmp .ge 25, 3) := by decide +kernel
theorem dX0_namedByAny_12 : decode cX0_namedByAny 12 = .ok (.iload_n 1, 1) := by decide +kernel
theorem dX0_namedByAny_13 : decode cX0_namedByAny 13 = .ok (.iload_n 3, 1) := by decide +kernel
theorem dX0_namedByAny_14 : decode cX0_namedByAny 14 = .ok (.invokestatic 61, 3) := by decide +kernel
theorem dX0_namedByAny_17 : decode cX0_namedByAny 17 = .ok (.ifCond .eq 11, 3) := by decide +kernel
theorem dX0_namedByAny_20 : decode cX0_namedByAny 20 = .ok (.iload_n 2, 1) := by decide +kernel
theorem dX0_namedByAny_21 : decode cX0_namedByAny 21 = .ok (.aload_n 0, 1) := by decide +kernel
theorem dX0_namedByAny_22 : decode cX0_namedByAny 22 = .ok (.iload_n 3, 1) := by decide +kernel
theorem dX0_namedByAny_23 : decode cX0_namedByAny 23 = .ok (.invokevirtual 65, 3) := by decide +kernel
theorem dX0_namedByAny_26 : decode cX0_namedByAny 26 = .ok (.ior, 1) := by decide +kernel
theorem dX0_namedByAny_27 : decode cX0_namedByAny 27 = .ok (.istore_n 2, 1) := by decide +kernel
theorem dX0_namedByAny_28 : decode cX0_namedByAny 28 = .ok (.iinc 3 1, 3) := by decide +kernel
theorem dX0_namedByAny_31 : decode cX0_namedByAny 31 = .ok (.goto (-27), 3) := by decide +kernel
theorem dX0_namedByAny_34 : decode cX0_namedByAny 34 = .ok (.iload_n 2, 1) := by decide +kernel
theorem dX0_namedByAny_35 : decode cX0_namedByAny 35 = .ok (.ireturn, 1) := by decide +kernel
theorem dX0_goodOnes_0 : decode cX0_goodOnes 0 = .ok (.iconst 0, 1) := by decide +kernel
theorem dX0_goodOnes_1 : decode cX0_goodOnes 1 = .ok (.istore_n 1, 1) := by decide +kernel
theorem dX0_goodOnes_2 : decode cX0_goodOnes 2 = .ok (.iconst 0, 1) := by decide +kernel
theorem dX0_goodOnes_3 : decode cX0_goodOnes 3 = .ok (.istore_n 2, 1) := by decide +kernel
theorem dX0_goodOnes_4 : decode cX0_goodOnes 4 = .ok (.iload_n 2, 1) := by decide +kernel
theorem dX0_goodOnes_5 : decode cX0_goodOnes 5 = .ok (.aload_n 0, 1) := by decide +kernel
theorem dX0_goodOnes_6 : decode cX0_goodOnes 6 = .ok (.getfield 41, 3) := by decide +kernel
theorem dX0_goodOnes_9 : decode cX0_goodOnes 9 = .ok (.if_icmp .ge 22, 3) := by decide +kernel
theorem dX0_goodOnes_12 : decode cX0_goodOnes 12 = .ok (.iload_n 1, 1) := by decide +kernel
theorem dX0_goodOnes_13 : decode cX0_goodOnes 13 = .ok (.aload_n 0, 1) := by decide +kernel
theorem dX0_goodOnes_14 : decode cX0_goodOnes 14 = .ok (.getfield 26, 3) := by decide +kernel
theorem dX0_goodOnes_17 : decode cX0_goodOnes 17 = .ok (.iconst 3, 1) := by decide +kernel
theorem dX0_goodOnes_18 : decode cX0_goodOnes 18 = .ok (.aaload, 1) := by decide +kernel
theorem dX0_goodOnes_19 : decode cX0_goodOnes 19 = .ok (.iload_n 2, 1) := by decide +kernel
theorem dX0_goodOnes_20 : decode cX0_goodOnes 20 = .ok (.iaload, 1) := by decide +kernel
theorem dX0_goodOnes_21 : decode cX0_goodOnes 21 = .ok (.iload_n 2, 1) := by decide +kernel
theorem dX0_goodOnes_22 : decode cX0_goodOnes 22 = .ok (.ishl, 1) := by decide +kernel
theorem dX0_goodOnes_23 : decode cX0_goodOnes 23 = .ok (.ior, 1) := by decide +kernel
theorem dX0_goodOnes_24 : decode cX0_goodOnes 24 = .ok (.istore_n 1, 1) := by decide +kernel
theorem dX0_goodOnes_25 : decode cX0_goodOnes 25 = .ok (.iinc 2 1, 3) := by decide +kernel
theorem dX0_goodOnes_28 : decode cX0_goodOnes 28 = .ok (.goto (-24), 3) := by decide +kernel
theorem dX0_goodOnes_31 : decode cX0_goodOnes 31 = .ok (.iload_n 1, 1) := by decide +kernel
theorem dX0_goodOnes_32 : decode cX0_goodOnes 32 = .ok (.ireturn, 1) := by decide +kernel
theorem dX0_isDone_0 : decode cX0_isDone 0 = .ok (.aload_n 0, 1) := by decide +kernel
theorem dX0_isDone_1 : decode cX0_isDone 1 = .ok (.getfield 9, 3) := by decide +kernel
theorem dX0_isDone_4 : decode cX0_isDone 4 = .ok (.iload_n 1, 1) := by decide +kernel
theorem dX0_isDone_5 : decode cX0_isDone 5 = .ok (.iaload, 1) := by decide +kernel
theorem dX0_isDone_6 : decode cX0_isDone 6 = .ok (.iload_n 2, 1) := by decide +kernel
theorem dX0_isDone_7 : decode cX0_isDone 7 = .ok (.if_icmp .gt 7, 3) := by decide +kernel
theorem dX0_isDone_10 : decode cX0_isDone 10 = .ok (.iconst 1, 1) := by decide +kernel
theorem dX0_isDone_11 : decode cX0_isDone 11 = .ok (.goto 4, 3) := by decide +kernel
theorem dX0_isDone_14 : decode cX0_isDone 14 = .ok (.iconst 0, 1) := by decide +kernel
theorem dX0_isDone_15 : decode cX0_isDone 15 = .ok (.ireturn, 1) := by decide +kernel
theorem dX0_doneBy_0 : decode cX0_doneBy 0 = .ok (.iconst 0, 1) := by decide +kernel
theorem dX0_doneBy_1 : decode cX0_doneBy 1 = .ok (.istore_n 2, 1) := by decide +kernel
theorem dX0_doneBy_2 : decode cX0_doneBy 2 = .ok (.iconst 0, 1) := by decide +kernel
theorem dX0_doneBy_3 : decode cX0_doneBy 3 = .ok (.istore_n 3, 1) := by decide +kernel
theorem dX0_doneBy_4 : decode cX0_doneBy 4 = .ok (.iload_n 3, 1) := by decide +kernel
theorem dX0_doneBy_5 : decode cX0_doneBy 5 = .ok (.aload_n 0, 1) := by decide +kernel
theorem dX0_doneBy_6 : decode cX0_doneBy 6 = .ok (.getfield 41, 3) := by decide +kernel
theorem dX0_doneBy_9 : decode cX0_doneBy 9 = .ok (.if_icmp .ge 24, 3) := by decide +kernel
theorem dX0_doneBy_12 : decode cX0_doneBy 12 = .ok (.aload_n 0, 1) := by decide +kernel
theorem dX0_doneBy_13 : decode cX0_doneBy 13 = .ok (.iload_n 3, 1) := by decide +kernel
theorem dX0_doneBy_14 : decode cX0_doneBy 14 = .ok (.iload_n 1, 1) := by decide +kernel
theorem dX0_doneBy_15 : decode cX0_doneBy 15 = .ok (.invokevirtual 69, 3) := by decide +kernel
theorem dX0_doneBy_18 : decode cX0_doneBy 18 = .ok (.ifCond .eq 9, 3) := by decide +kernel
theorem dX0_doneBy_21 : decode cX0_doneBy 21 = .ok (.iload_n 2, 1) := by decide +kernel
theorem dX0_doneBy_22 : decode cX0_doneBy 22 = .ok (.iconst 1, 1) := by decide +kernel
theorem dX0_doneBy_23 : decode cX0_doneBy 23 = .ok (.iload_n 3, 1) := by decide +kernel
theorem dX0_doneBy_24 : decode cX0_doneBy 24 = .ok (.ishl, 1) := by decide +kernel
theorem dX0_doneBy_25 : decode cX0_doneBy 25 = .ok (.ior, 1) := by decide +kernel
theorem dX0_doneBy_26 : decode cX0_doneBy 26 = .ok (.istore_n 2, 1) := by decide +kernel
theorem dX0_doneBy_27 : decode cX0_doneBy 27 = .ok (.iinc 3 1, 3) := by decide +kernel
theorem dX0_doneBy_30 : decode cX0_doneBy 30 = .ok (.goto (-26), 3) := by decide +kernel
theorem dX0_doneBy_33 : decode cX0_doneBy 33 = .ok (.iload_n 2, 1) := by decide +kernel
theorem dX0_doneBy_34 : decode cX0_doneBy 34 = .ok (.ireturn, 1) := by decide +kernel
theorem dX0_isHealed_0 : decode cX0_isHealed 0 = .ok (.aload_n 0, 1) := by decide +kernel
theorem dX0_isHealed_1 : decode cX0_isHealed 1 = .ok (.getfield 26, 3) := by decide +kernel
theorem dX0_isHealed_4 : decode cX0_isHealed 4 = .ok (.iconst 2, 1) := by decide +kernel
theorem dX0_isHealed_5 : decode cX0_isHealed 5 = .ok (.aaload, 1) := by decide +kernel
theorem dX0_isHealed_6 : decode cX0_isHealed 6 = .ok (.iload_n 1, 1) := by decide +kernel
theorem dX0_isHealed_7 : decode cX0_isHealed 7 = .ok (.iaload, 1) := by decide +kernel
theorem dX0_isHealed_8 : decode cX0_isHealed 8 = .ok (.istore_n 3, 1) := by decide +kernel
theorem dX0_isHealed_9 : decode cX0_isHealed 9 = .ok (.iload_n 3, 1) := by decide +kernel
theorem dX0_isHealed_10 : decode cX0_isHealed 10 = .ok (.iconst (-1), 1) := by decide +kernel
theorem dX0_isHealed_11 : decode cX0_isHealed 11 = .ok (.if_icmp .eq 12, 3) := by decide +kernel
theorem dX0_isHealed_14 : decode cX0_isHealed 14 = .ok (.iload_n 3, 1) := by decide +kernel
theorem dX0_isHealed_15 : decode cX0_isHealed 15 = .ok (.iload_n 2, 1) := by decide +kernel
theorem dX0_isHealed_16 : decode cX0_isHealed 16 = .ok (.if_icmp .gt 7, 3) := by decide +kernel
theorem dX0_isHealed_19 : decode cX0_isHealed 19 = .ok (.iconst 1, 1) := by decide +kernel
theorem dX0_isHealed_20 : decode cX0_isHealed 20 = .ok (.goto 4, 3) := by decide +kernel
theorem dX0_isHealed_23 : decode cX0_isHealed 23 = .ok (.iconst 0, 1) := by decide +kernel
theorem dX0_isHealed_24 : decode cX0_isHealed 24 = .ok (.ireturn, 1) := by decide +kernel
theorem dX0_isNought_0 : decode cX0_isNought 0 = .ok (.aload_n 0, 1) := by decide +kernel
theorem dX0_isNought_1 : decode cX0_isNought 1 = .ok (.getfield 26, 3) := by decide +kernel
theorem dX0_isNought_4 : decode cX0_isNought 4 = .ok (.iconst 0, 1) := by decide +kernel
theorem dX0_isNought_5 : decode cX0_isNought 5 = .ok (.aaload, 1) := by decide +kernel
theorem dX0_isNought_6 : decode cX0_isNought 6 = .ok (.iload_n 1, 1) := by decide +kernel
theorem dX0_isNought_7 : decode cX0_isNought 7 = .ok (.iaload, 1) := by decide +kernel
theorem dX0_isNought_8 : decode cX0_isNought 8 = .ok (.iconst 1, 1) := by decide +kernel
theorem dX0_isNought_9 : decode cX0_isNought 9 = .ok (.if_icmp .ne 16, 3) := by decide +kernel
theorem dX0_isNought_12 : decode cX0_isNought 12 = .ok (.aload_n 0, 1) := by decide +kernel
theorem dX0_isNought_13 : decode cX0_isNought 13 = .ok (.iload_n 1, 1) := by decide +kernel
theorem dX0_isNought_14 : decode cX0_isNought 14 = .ok (.iload_n 2, 1) := by decide +kernel
theorem dX0_isNought_15 : decode cX0_isNought 15 = .ok (.invokevirtual 72, 3) := by decide +kernel
theorem dX0_isNought_18 : decode cX0_isNought 18 = .ok (.ifCond .ne 7, 3) := by decide +kernel
theorem dX0_isNought_21 : decode cX0_isNought 21 = .ok (.iconst 1, 1) := by decide +kernel
theorem dX0_isNought_22 : decode cX0_isNought 22 = .ok (.goto 4, 3) := by decide +kernel
theorem dX0_isNought_25 : decode cX0_isNought 25 = .ok (.iconst 0, 1) := by decide +kernel
theorem dX0_isNought_26 : decode cX0_isNought 26 = .ok (.ireturn, 1) := by decide +kernel
theorem dX0_unhurtOn_0 : decode cX0_unhurtOn 0 = .ok (.iconst 0, 1) := by decide +kernel
theorem dX0_unhurtOn_1 : decode cX0_unhurtOn 1 = .ok (.istore_n 2, 1) := by decide +kernel
theorem dX0_unhurtOn_2 : decode cX0_unhurtOn 2 = .ok (.iconst 0, 1) := by decide +kernel
theorem dX0_unhurtOn_3 : decode cX0_unhurtOn 3 = .ok (.istore_n 3, 1) := by decide +kernel
theorem dX0_unhurtOn_4 : decode cX0_unhurtOn 4 = .ok (.iload_n 3, 1) := by decide +kernel
theorem dX0_unhurtOn_5 : decode cX0_unhurtOn 5 = .ok (.aload_n 0, 1) := by decide +kernel
theorem dX0_unhurtOn_6 : decode cX0_unhurtOn 6 = .ok (.getfield 41, 3) := by decide +kernel
theorem dX0_unhurtOn_9 : decode cX0_unhurtOn 9 = .ok (.if_icmp .ge 33, 3) := by decide +kernel
theorem dX0_unhurtOn_12 : decode cX0_unhurtOn 12 = .ok (.aload_n 0, 1) := by decide +kernel
theorem dX0_unhurtOn_13 : decode cX0_unhurtOn 13 = .ok (.iload_n 3, 1) := by decide +kernel
theorem dX0_unhurtOn_14 : decode cX0_unhurtOn 14 = .ok (.iload_n 1, 1) := by decide +kernel
theorem dX0_unhurtOn_15 : decode cX0_unhurtOn 15 = .ok (.invokevirtual 69, 3) := by decide +kernel
theorem dX0_unhurtOn_18 : decode cX0_unhurtOn 18 = .ok (.ifCond .eq 18, 3) := by decide +kernel
theorem dX0_unhurtOn_21 : decode cX0_unhurtOn 21 = .ok (.aload_n 0, 1) := by decide +kernel
theorem dX0_unhurtOn_22 : decode cX0_unhurtOn 22 = .ok (.iload_n 3, 1) := by decide +kernel
theorem dX0_unhurtOn_23 : decode cX0_unhurtOn 23 = .ok (.iload_n 1, 1) := by decide +kernel
theorem dX0_unhurtOn_24 : decode cX0_unhurtOn 24 = .ok (.invokevirtual 75, 3) := by decide +kernel
theorem dX0_unhurtOn_27 : decode cX0_unhurtOn 27 = .ok (.ifCond .ne 9, 3) := by decide +kernel
theorem dX0_unhurtOn_30 : decode cX0_unhurtOn 30 = .ok (.iload_n 2, 1) := by decide +kernel
theorem dX0_unhurtOn_31 : decode cX0_unhurtOn 31 = .ok (.iconst 1, 1) := by decide +kernel
theorem dX0_unhurtOn_32 : decode cX0_unhurtOn 32 = .ok (.iload_n 3, 1) := by decide +kernel
theorem dX0_unhurtOn_33 : decode cX0_unhurtOn 33 = .ok (.ishl, 1) := by decide +kernel
theorem dX0_unhurtOn_34 : decode cX0_unhurtOn 34 = .ok (.ior, 1) := by decide +kernel
theorem dX0_unhurtOn_35 : decode cX0_unhurtOn 35 = .ok (.istore_n 2, 1) := by decide +kernel
theorem dX0_unhurtOn_36 : decode cX0_unhurtOn 36 = .ok (.iinc 3 1, 3) := by decide +kernel
theorem dX0_unhurtOn_39 : decode cX0_unhurtOn 39 = .ok (.goto (-35), 3) := by decide +kernel
theorem dX0_unhurtOn_42 : decode cX0_unhurtOn 42 = .ok (.iload_n 2, 1) := by decide +kernel
theorem dX0_unhurtOn_43 : decode cX0_unhurtOn 43 = .ok (.ireturn, 1) := by decide +kernel
theorem dX0_wouldCount_0 : decode cX0_wouldCount 0 = .ok (.aload_n 0, 1) := by decide +kernel
theorem dX0_wouldCount_1 : decode cX0_wouldCount 1 = .ok (.iload_n 1, 1) := by decide +kernel
theorem dX0_wouldCount_2 : decode cX0_wouldCount 2 = .ok (.iload_n 2, 1) := by decide +kernel
theorem dX0_wouldCount_3 : decode cX0_wouldCount 3 = .ok (.invokevirtual 78, 3) := by decide +kernel
theorem dX0_wouldCount_6 : decode cX0_wouldCount 6 = .ok (.ifCond .eq 16, 3) := by decide +kernel
theorem dX0_wouldCount_9 : decode cX0_wouldCount 9 = .ok (.aload_n 0, 1) := by decide +kernel
theorem dX0_wouldCount_10 : decode cX0_wouldCount 10 = .ok (.iload_n 1, 1) := by decide +kernel
theorem dX0_wouldCount_11 : decode cX0_wouldCount 11 = .ok (.iload_n 3, 1) := by decide +kernel
theorem dX0_wouldCount_12 : decode cX0_wouldCount 12 = .ok (.invokevirtual 81, 3) := by decide +kernel
theorem dX0_wouldCount_15 : decode cX0_wouldCount 15 = .ok (.ifCond .eq 7, 3) := by decide +kernel
theorem dX0_wouldCount_18 : decode cX0_wouldCount 18 = .ok (.iconst 1, 1) := by decide +kernel
theorem dX0_wouldCount_19 : decode cX0_wouldCount 19 = .ok (.goto 4, 3) := by decide +kernel
theorem dX0_wouldCount_22 : decode cX0_wouldCount 22 = .ok (.iconst 0, 1) := by decide +kernel
theorem dX0_wouldCount_23 : decode cX0_wouldCount 23 = .ok (.ireturn, 1) := by decide +kernel
theorem dX0_lets_0 : decode cX0_lets 0 = .ok (.aload_n 0, 1) := by decide +kernel
theorem dX0_lets_1 : decode cX0_lets 1 = .ok (.getfield 26, 3) := by decide +kernel
theorem dX0_lets_4 : decode cX0_lets 4 = .ok (.iconst 0, 1) := by decide +kernel
theorem dX0_lets_5 : decode cX0_lets 5 = .ok (.aaload, 1) := by decide +kernel
theorem dX0_lets_6 : decode cX0_lets 6 = .ok (.iload_n 1, 1) := by decide +kernel
theorem dX0_lets_7 : decode cX0_lets 7 = .ok (.iaload, 1) := by decide +kernel
theorem dX0_lets_8 : decode cX0_lets 8 = .ok (.istore_n 3, 1) := by decide +kernel
theorem dX0_lets_9 : decode cX0_lets 9 = .ok (.iload_n 3, 1) := by decide +kernel
theorem dX0_lets_10 : decode cX0_lets 10 = .ok (.iconst 4, 1) := by decide +kernel
theorem dX0_lets_11 : decode cX0_lets 11 = .ok (.if_icmp .eq 33, 3) := by decide +kernel
theorem dX0_lets_14 : decode cX0_lets 14 = .ok (.iload_n 3, 1) := by decide +kernel
theorem dX0_lets_15 : decode cX0_lets 15 = .ok (.iconst 2, 1) := by decide +kernel
theorem dX0_lets_16 : decode cX0_lets 16 = .ok (.if_icmp .ne 13, 3) := by decide +kernel
theorem dX0_lets_19 : decode cX0_lets 19 = .ok (.iload_n 2, 1) := by decide +kernel
theorem dX0_lets_20 : decode cX0_lets 20 = .ok (.aload_n 0, 1) := by decide +kernel
theorem dX0_lets_21 : decode cX0_lets 21 = .ok (.getfield 15, 3) := by decide +kernel
theorem dX0_lets_24 : decode cX0_lets 24 = .ok (.iload_n 1, 1) := by decide +kernel
theorem dX0_lets_25 : decode cX0_lets 25 = .ok (.iaload, 1) := by decide +kernel
theorem dX0_lets_26 : decode cX0_lets 26 = .ok (.if_icmp .eq 18, 3) := by decide +kernel
theorem dX0_lets_29 : decode cX0_lets 29 = .ok (.iload_n 3, 1) := by decide +kernel
theorem dX0_lets_30 : decode cX0_lets 30 = .ok (.iconst 3, 1) := by decide +kernel
theorem dX0_lets_31 : decode cX0_lets 31 = .ok (.if_icmp .ne 17, 3) := by decide +kernel
theorem dX0_lets_34 : decode cX0_lets 34 = .ok (.iload_n 2, 1) := by decide +kernel
theorem dX0_lets_35 : decode cX0_lets 35 = .ok (.aload_n 0, 1) := by decide +kernel
theorem dX0_lets_36 : decode cX0_lets 36 = .ok (.getfield 18, 3) := by decide +kernel
theorem dX0_lets_39 : decode cX0_lets 39 = .ok (.iload_n 1, 1) := by decide +kernel
theorem dX0_lets_40 : decode cX0_lets 40 = .ok (.iaload, 1) := by decide +kernel
theorem dX0_lets_41 : decode cX0_lets 41 = .ok (.if_icmp .ne 7, 3) := by decide +kernel
theorem dX0_lets_44 : decode cX0_lets 44 = .ok (.iconst 1, 1) := by decide +kernel
theorem dX0_lets_45 : decode cX0_lets 45 = .ok (.goto 4, 3) := by decide +kernel
theorem dX0_lets_48 : decode cX0_lets 48 = .ok (.iconst 0, 1) := by decide +kernel
theorem dX0_lets_49 : decode cX0_lets 49 = .ok (.ireturn, 1) := by decide +kernel
theorem dX0_isInTime_0 : decode cX0_isInTime 0 = .ok (.aload_n 0, 1) := by decide +kernel
theorem dX0_isInTime_1 : decode cX0_isInTime 1 = .ok (.iload_n 1, 1) := by decide +kernel
theorem dX0_isInTime_2 : decode cX0_isInTime 2 = .ok (.iload_n 2, 1) := by decide +kernel
theorem dX0_isInTime_3 : decode cX0_isInTime 3 = .ok (.invokevirtual 69, 3) := by decide +kernel
theorem dX0_isInTime_6 : decode cX0_isInTime 6 = .ok (.ifCond .eq 35, 3) := by decide +kernel
theorem dX0_isInTime_9 : decode cX0_isInTime 9 = .ok (.iload_n 2, 1) := by decide +kernel
theorem dX0_isInTime_10 : decode cX0_isInTime 10 = .ok (.aload_n 0, 1) := by decide +kernel
theorem dX0_isInTime_11 : decode cX0_isInTime 11 = .ok (.getfield 9, 3) := by decide +kernel
theorem dX0_isInTime_14 : decode cX0_isInTime 14 = .ok (.iload_n 1, 1) := by decide +kernel
theorem dX0_isInTime_15 : decode cX0_isInTime 15 = .ok (.iaload, 1) := by decide +kernel
theorem dX0_isInTime_16 : decode cX0_isInTime 16 = .ok (.isub, 1) := by decide +kernel
theorem dX0_isInTime_17 : decode cX0_isInTime 17 = .ok (.aload_n 0, 1) := by decide +kernel
theorem dX0_isInTime_18 : decode cX0_isInTime 18 = .ok (.getfield 26, 3) := by decide +kernel
theorem dX0_isInTime_21 : decode cX0_isInTime 21 = .ok (.iconst 1, 1) := by decide +kernel
theorem dX0_isInTime_22 : decode cX0_isInTime 22 = .ok (.aaload, 1) := by decide +kernel
theorem dX0_isInTime_23 : decode cX0_isInTime 23 = .ok (.iload_n 1, 1) := by decide +kernel
theorem dX0_isInTime_24 : decode cX0_isInTime 24 = .ok (.iaload, 1) := by decide +kernel
theorem dX0_isInTime_25 : decode cX0_isInTime 25 = .ok (.if_icmp .gt 16, 3) := by decide +kernel
theorem dX0_isInTime_28 : decode cX0_isInTime 28 = .ok (.aload_n 0, 1) := by decide +kernel
theorem dX0_isInTime_29 : decode cX0_isInTime 29 = .ok (.iload_n 1, 1) := by decide +kernel
theorem dX0_isInTime_30 : decode cX0_isInTime 30 = .ok (.iload_n 2, 1) := by decide +kernel
theorem dX0_isInTime_31 : decode cX0_isInTime 31 = .ok (.invokevirtual 72, 3) := by decide +kernel
theorem dX0_isInTime_34 : decode cX0_isInTime 34 = .ok (.ifCond .ne 7, 3) := by decide +kernel
theorem dX0_isInTime_37 : decode cX0_isInTime 37 = .ok (.iconst 1, 1) := by decide +kernel
theorem dX0_isInTime_38 : decode cX0_isInTime 38 = .ok (.goto 4, 3) := by decide +kernel
theorem dX0_isInTime_41 : decode cX0_isInTime 41 = .ok (.iconst 0, 1) := by decide +kernel
theorem dX0_isInTime_42 : decode cX0_isInTime 42 = .ok (.ireturn, 1) := by decide +kernel
theorem dX0_askableOn_0 : decode cX0_askableOn 0 = .ok (.iconst 0, 1) := by decide +kernel
theorem dX0_askableOn_1 : decode cX0_askableOn 1 = .ok (.istore_n 2, 1) := by decide +kernel
theorem dX0_askableOn_2 : decode cX0_askableOn 2 = .ok (.iconst 0, 1) := by decide +kernel
theorem dX0_askableOn_3 : decode cX0_askableOn 3 = .ok (.istore_n 3, 1) := by decide +kernel
theorem dX0_askableOn_4 : decode cX0_askableOn 4 = .ok (.iload_n 3, 1) := by decide +kernel
theorem dX0_askableOn_5 : decode cX0_askableOn 5 = .ok (.aload_n 0, 1) := by decide +kernel
theorem dX0_askableOn_6 : decode cX0_askableOn 6 = .ok (.getfield 41, 3) := by decide +kernel
theorem dX0_askableOn_9 : decode cX0_askableOn 9 = .ok (.if_icmp .ge 45, 3) := by decide +kernel
theorem dX0_askableOn_12 : decode cX0_askableOn 12 = .ok (.aload_n 0, 1) := by decide +kernel
theorem dX0_askableOn_13 : decode cX0_askableOn 13 = .ok (.iload_n 3, 1) := by decide +kernel
theorem dX0_askableOn_14 : decode cX0_askableOn 14 = .ok (.aload_n 0, 1) := by decide +kernel
theorem dX0_askableOn_15 : decode cX0_askableOn 15 = .ok (.getfield 15, 3) := by decide +kernel
theorem dX0_askableOn_18 : decode cX0_askableOn 18 = .ok (.iload_n 3, 1) := by decide +kernel
theorem dX0_askableOn_19 : decode cX0_askableOn 19 = .ok (.iaload, 1) := by decide +kernel
theorem dX0_askableOn_20 : decode cX0_askableOn 20 = .ok (.iload_n 1, 1) := by decide +kernel
theorem dX0_askableOn_21 : decode cX0_askableOn 21 = .ok (.invokevirtual 84, 3) := by decide +kernel
theorem dX0_askableOn_24 : decode cX0_askableOn 24 = .ok (.ifCond .ne 18, 3) := by decide +kernel
theorem dX0_askableOn_27 : decode cX0_askableOn 27 = .ok (.aload_n 0, 1) := by decide +kernel
theorem dX0_askableOn_28 : decode cX0_askableOn 28 = .ok (.iload_n 3, 1) := by decide +kernel
theorem dX0_askableOn_29 : decode cX0_askableOn 29 = .ok (.aload_n 0, 1) := by decide +kernel
theorem dX0_askableOn_30 : decode cX0_askableOn 30 = .ok (.getfield 18, 3) := by decide +kernel
theorem dX0_askableOn_33 : decode cX0_askableOn 33 = .ok (.iload_n 3, 1) := by decide +kernel
theorem dX0_askableOn_34 : decode cX0_askableOn 34 = .ok (.iaload, 1) := by decide +kernel
theorem dX0_askableOn_35 : decode cX0_askableOn 35 = .ok (.iload_n 1, 1) := by decide +kernel
theorem dX0_askableOn_36 : decode cX0_askableOn 36 = .ok (.invokevirtual 84, 3) := by decide +kernel
theorem dX0_askableOn_39 : decode cX0_askableOn 39 = .ok (.ifCond .eq 9, 3) := by decide +kernel
theorem dX0_askableOn_42 : decode cX0_askableOn 42 = .ok (.iload_n 2, 1) := by decide +kernel
theorem dX0_askableOn_43 : decode cX0_askableOn 43 = .ok (.iconst 1, 1) := by decide +kernel
theorem dX0_askableOn_44 : decode cX0_askableOn 44 = .ok (.iload_n 3, 1) := by decide +kernel
theorem dX0_askableOn_45 : decode cX0_askableOn 45 = .ok (.ishl, 1) := by decide +kernel
theorem dX0_askableOn_46 : decode cX0_askableOn 46 = .ok (.ior, 1) := by decide +kernel
theorem dX0_askableOn_47 : decode cX0_askableOn 47 = .ok (.istore_n 2, 1) := by decide +kernel
theorem dX0_askableOn_48 : decode cX0_askableOn 48 = .ok (.iinc 3 1, 3) := by decide +kernel
theorem dX0_askableOn_51 : decode cX0_askableOn 51 = .ok (.goto (-47), 3) := by decide +kernel
theorem dX0_askableOn_54 : decode cX0_askableOn 54 = .ok (.iload_n 2, 1) := by decide +kernel
theorem dX0_askableOn_55 : decode cX0_askableOn 55 = .ok (.ireturn, 1) := by decide +kernel
theorem dX0_isHeldUp_0 : decode cX0_isHeldUp 0 = .ok (.aload_n 0, 1) := by decide +kernel
theorem dX0_isHeldUp_1 : decode cX0_isHeldUp 1 = .ok (.getfield 29, 3) := by decide +kernel
theorem dX0_isHeldUp_4 : decode cX0_isHeldUp 4 = .ok (.iload_n 1, 1) := by decide +kernel
theorem dX0_isHeldUp_5 : decode cX0_isHeldUp 5 = .ok (.iaload, 1) := by decide +kernel
theorem dX0_isHeldUp_6 : decode cX0_isHeldUp 6 = .ok (.istore_n 3, 1) := by decide +kernel
theorem dX0_isHeldUp_7 : decode cX0_isHeldUp 7 = .ok (.iconst 0, 1) := by decide +kernel
theorem dX0_isHeldUp_8 : decode cX0_isHeldUp 8 = .ok (.istore 4, 2) := by decide +kernel
theorem dX0_isHeldUp_10 : decode cX0_isHeldUp 10 = .ok (.iload 4, 2) := by decide +kernel
theorem dX0_isHeldUp_12 : decode cX0_isHeldUp 12 = .ok (.iload_n 3, 1) := by decide +kernel
theorem dX0_isHeldUp_13 : decode cX0_isHeldUp 13 = .ok (.if_icmp .ge 27, 3) := by decide +kernel
theorem dX0_isHeldUp_16 : decode cX0_isHeldUp 16 = .ok (.aload_n 0, 1) := by decide +kernel
theorem dX0_isHeldUp_17 : decode cX0_isHeldUp 17 = .ok (.getfield 32, 3) := by decide +kernel
theorem dX0_isHeldUp_20 : decode cX0_isHeldUp 20 = .ok (.iload_n 1, 1) := by decide +kernel
theorem dX0_isHeldUp_21 : decode cX0_isHeldUp 21 = .ok (.aaload, 1) := by decide +kernel
theorem dX0_isHeldUp_22 : decode cX0_isHeldUp 22 = .ok (.iload 4, 2) := by decide +kernel
theorem dX0_isHeldUp_24 : decode cX0_isHeldUp 24 = .ok (.iaload, 1) := by decide +kernel
theorem dX0_isHeldUp_25 : decode cX0_isHeldUp 25 = .ok (.iload_n 2, 1) := by decide +kernel
theorem dX0_isHeldUp_26 : decode cX0_isHeldUp 26 = .ok (.iconst (-1), 1) := by decide +kernel
theorem dX0_isHeldUp_27 : decode cX0_isHeldUp 27 = .ok (.ixor, 1) := by decide +kernel
theorem dX0_isHeldUp_28 : decode cX0_isHeldUp 28 = .ok (.iand, 1) := by decide +kernel
theorem dX0_isHeldUp_29 : decode cX0_isHeldUp 29 = .ok (.ifCond .ne 5, 3) := by decide +kernel
theorem dX0_isHeldUp_32 : decode cX0_isHeldUp 32 = .ok (.iconst 1, 1) := by decide +kernel
theorem dX0_isHeldUp_33 : decode cX0_isHeldUp 33 = .ok (.ireturn, 1) := by decide +kernel
theorem dX0_isHeldUp_34 : decode cX0_isHeldUp 34 = .ok (.iinc 4 1, 3) := by decide +kernel
theorem dX0_isHeldUp_37 : decode cX0_isHeldUp 37 = .ok (.goto (-27), 3) := by decide +kernel
theorem dX0_isHeldUp_40 : decode cX0_isHeldUp 40 = .ok (.iload_n 3, 1) := by decide +kernel
theorem dX0_isHeldUp_41 : decode cX0_isHeldUp 41 = .ok (.ifCond .ne 7, 3) := by decide +kernel
theorem dX0_isHeldUp_44 : decode cX0_isHeldUp 44 = .ok (.iconst 1, 1) := by decide +kernel
theorem dX0_isHeldUp_45 : decode cX0_isHeldUp 45 = .ok (.goto 4, 3) := by decide +kernel
theorem dX0_isHeldUp_48 : decode cX0_isHeldUp 48 = .ok (.iconst 0, 1) := by decide +kernel
theorem dX0_isHeldUp_49 : decode cX0_isHeldUp 49 = .ok (.ireturn, 1) := by decide +kernel
theorem dX0_unheld_0 : decode cX0_unheld 0 = .ok (.iload_n 1, 1) := by decide +kernel
theorem dX0_unheld_1 : decode cX0_unheld 1 = .ok (.iload_n 2, 1) := by decide +kernel
theorem dX0_unheld_2 : decode cX0_unheld 2 = .ok (.iconst (-1), 1) := by decide +kernel
theorem dX0_unheld_3 : decode cX0_unheld 3 = .ok (.ixor, 1) := by decide +kernel
theorem dX0_unheld_4 : decode cX0_unheld 4 = .ok (.iand, 1) := by decide +kernel
theorem dX0_unheld_5 : decode cX0_unheld 5 = .ok (.istore_n 3, 1) := by decide +kernel
theorem dX0_unheld_6 : decode cX0_unheld 6 = .ok (.iconst 0, 1) := by decide +kernel
theorem dX0_unheld_7 : decode cX0_unheld 7 = .ok (.istore 4, 2) := by decide +kernel
theorem dX0_unheld_9 : decode cX0_unheld 9 = .ok (.iconst 0, 1) := by decide +kernel
theorem dX0_unheld_10 : decode cX0_unheld 10 = .ok (.istore 5, 2) := by decide +kernel
theorem dX0_unheld_12 : decode cX0_unheld 12 = .ok (.iload 5, 2) := by decide +kernel
theorem dX0_unheld_14 : decode cX0_unheld 14 = .ok (.aload_n 0, 1) := by decide +kernel
theorem dX0_unheld_15 : decode cX0_unheld 15 = .ok (.getfield 41, 3) := by decide +kernel
theorem dX0_unheld_18 : decode cX0_unheld 18 = .ok (.if_icmp .ge 37, 3) := by decide +kernel
theorem dX0_unheld_21 : decode cX0_unheld 21 = .ok (.iload_n 3, 1) := by decide +kernel
theorem dX0_unheld_22 : decode cX0_unheld 22 = .ok (.iload 5, 2) := by decide +kernel
theorem dX0_unheld_24 : decode cX0_unheld 24 = .ok (.invokestatic 61, 3) := by decide +kernel
theorem dX0_unheld_27 : decode cX0_unheld 27 = .ok (.ifCond .eq 22, 3) := by decide +kernel
theorem dX0_unheld_30 : decode cX0_unheld 30 = .ok (.aload_n 0, 1) := by decide +kernel
theorem dX0_unheld_31 : decode cX0_unheld 31 = .ok (.iload 5, 2) := by decide +kernel
theorem dX0_unheld_33 : decode cX0_unheld 33 = .ok (.iload_n 1, 1) := by decide +kernel
theorem dX0_unheld_34 : decode cX0_unheld 34 = .ok (.invokevirtual 88, 3) := by decide +kernel
theorem dX0_unheld_37 : decode cX0_unheld 37 = .ok (.ifCond .ne 12, 3) := by decide +kernel
theorem dX0_unheld_40 : decode cX0_unheld 40 = .ok (.iload 4, 2) := by decide +kernel
theorem dX0_unheld_42 : decode cX0_unheld 42 = .ok (.iconst 1, 1) := by decide +kernel
theorem dX0_unheld_43 : decode cX0_unheld 43 = .ok (.iload 5, 2) := by decide +kernel
theorem dX0_unheld_45 : decode cX0_unheld 45 = .ok (.ishl, 1) := by decide +kernel
theorem dX0_unheld_46 : decode cX0_unheld 46 = .ok (.ior, 1) := by decide +kernel
theorem dX0_unheld_47 : decode cX0_unheld 47 = .ok (.istore 4, 2) := by decide +kernel
theorem dX0_unheld_49 : decode cX0_unheld 49 = .ok (.iinc 5 1, 3) := by decide +kernel
theorem dX0_unheld_52 : decode cX0_unheld 52 = .ok (.goto (-40), 3) := by decide +kernel
theorem dX0_unheld_55 : decode cX0_unheld 55 = .ok (.iload 4, 2) := by decide +kernel
theorem dX0_unheld_57 : decode cX0_unheld 57 = .ok (.ireturn, 1) := by decide +kernel
theorem dX0_most_0 : decode cX0_most 0 = .ok (.iload_n 1, 1) := by decide +kernel
theorem dX0_most_1 : decode cX0_most 1 = .ok (.istore_n 3, 1) := by decide +kernel
theorem dX0_most_2 : decode cX0_most 2 = .ok (.iconst 0, 1) := by decide +kernel
theorem dX0_most_3 : decode cX0_most 3 = .ok (.istore 4, 2) := by decide +kernel
theorem dX0_most_5 : decode cX0_most 5 = .ok (.iload 4, 2) := by decide +kernel
theorem dX0_most_7 : decode cX0_most 7 = .ok (.bipush 12, 2) := by decide +kernel
theorem dX0_most_9 : decode cX0_most 9 = .ok (.if_icmp .ge 32, 3) := by decide +kernel
theorem dX0_most_12 : decode cX0_most 12 = .ok (.aload_n 0, 1) := by decide +kernel
theorem dX0_most_13 : decode cX0_most 13 = .ok (.iload_n 3, 1) := by decide +kernel
theorem dX0_most_14 : decode cX0_most 14 = .ok (.iload_n 2, 1) := by decide +kernel
theorem dX0_most_15 : decode cX0_most 15 = .ok (.invokevirtual 91, 3) := by decide +kernel
theorem dX0_most_18 : decode cX0_most 18 = .ok (.istore 5, 2) := by decide +kernel
theorem dX0_most_20 : decode cX0_most 20 = .ok (.iload 5, 2) := by decide +kernel
theorem dX0_most_22 : decode cX0_most 22 = .ok (.ifCond .ne 6, 3) := by decide +kernel
theorem dX0_most_25 : decode cX0_most 25 = .ok (.goto 16, 3) := by decide +kernel
theorem dX0_most_28 : decode cX0_most 28 = .ok (.iload_n 3, 1) := by decide +kernel
theorem dX0_most_29 : decode cX0_most 29 = .ok (.iload 5, 2) := by decide +kernel
theorem dX0_most_31 : decode cX0_most 31 = .ok (.iconst (-1), 1) := by decide +kernel
theorem dX0_most_32 : decode cX0_most 32 = .ok (.ixor, 1) := by decide +kernel
theorem dX0_most_33 : decode cX0_most 33 = .ok (.iand, 1) := by decide +kernel
theorem dX0_most_34 : decode cX0_most 34 = .ok (.istore_n 3, 1) := by decide +kernel
theorem dX0_most_35 : decode cX0_most 35 = .ok (.iinc 4 1, 3) := by decide +kernel
theorem dX0_most_38 : decode cX0_most 38 = .ok (.goto (-33), 3) := by decide +kernel
theorem dX0_most_41 : decode cX0_most 41 = .ok (.iload_n 3, 1) := by decide +kernel
theorem dX0_most_42 : decode cX0_most 42 = .ok (.ireturn, 1) := by decide +kernel
theorem dX0_least_0 : decode cX0_least 0 = .ok (.iload_n 1, 1) := by decide +kernel
theorem dX0_least_1 : decode cX0_least 1 = .ok (.iload_n 2, 1) := by decide +kernel
theorem dX0_least_2 : decode cX0_least 2 = .ok (.iand, 1) := by decide +kernel
theorem dX0_least_3 : decode cX0_least 3 = .ok (.istore_n 3, 1) := by decide +kernel
theorem dX0_least_4 : decode cX0_least 4 = .ok (.iconst 0, 1) := by decide +kernel
theorem dX0_least_5 : decode cX0_least 5 = .ok (.istore 4, 2) := by decide +kernel
theorem dX0_least_7 : decode cX0_least 7 = .ok (.iload 4, 2) := by decide +kernel
theorem dX0_least_9 : decode cX0_least 9 = .ok (.bipush 12, 2) := by decide +kernel
theorem dX0_least_11 : decode cX0_least 11 = .ok (.if_icmp .ge 31, 3) := by decide +kernel
theorem dX0_least_14 : decode cX0_least 14 = .ok (.iload_n 3, 1) := by decide +kernel
theorem dX0_least_15 : decode cX0_least 15 = .ok (.aload_n 0, 1) := by decide +kernel
theorem dX0_least_16 : decode cX0_least 16 = .ok (.iload_n 1, 1) := by decide +kernel
theorem dX0_least_17 : decode cX0_least 17 = .ok (.iload_n 3, 1) := by decide +kernel
theorem dX0_least_18 : decode cX0_least 18 = .ok (.invokevirtual 94, 3) := by decide +kernel
theorem dX0_least_21 : decode cX0_least 21 = .ok (.ior, 1) := by decide +kernel
theorem dX0_least_22 : decode cX0_least 22 = .ok (.istore 5, 2) := by decide +kernel
theorem dX0_least_24 : decode cX0_least 24 = .ok (.iload 5, 2) := by decide +kernel
theorem dX0_least_26 : decode cX0_least 26 = .ok (.iload_n 3, 1) := by decide +kernel
theorem dX0_least_27 : decode cX0_least 27 = .ok (.if_icmp .ne 6, 3) := by decide +kernel
theorem dX0_least_30 : decode cX0_least 30 = .ok (.goto 12, 3) := by decide +kernel
theorem dX0_least_33 : decode cX0_least 33 = .ok (.iload 5, 2) := by decide +kernel
theorem dX0_least_35 : decode cX0_least 35 = .ok (.istore_n 3, 1) := by decide +kernel
theorem dX0_least_36 : decode cX0_least 36 = .ok (.iinc 4 1, 3) := by decide +kernel
theorem dX0_least_39 : decode cX0_least 39 = .ok (.goto (-32), 3) := by decide +kernel
theorem dX0_least_42 : decode cX0_least 42 = .ok (.iload_n 3, 1) := by decide +kernel
theorem dX0_least_43 : decode cX0_least 43 = .ok (.ireturn, 1) := by decide +kernel
theorem dX0_heldUpOf_0 : decode cX0_heldUpOf 0 = .ok (.iconst 0, 1) := by decide +kernel
theorem dX0_heldUpOf_1 : decode cX0_heldUpOf 1 = .ok (.istore_n 3, 1) := by decide +kernel
theorem dX0_heldUpOf_2 : decode cX0_heldUpOf 2 = .ok (.iconst 0, 1) := by decide +kernel
theorem dX0_heldUpOf_3 : decode cX0_heldUpOf 3 = .ok (.istore 4, 2) := by decide +kernel
theorem dX0_heldUpOf_5 : decode cX0_heldUpOf 5 = .ok (.iload 4, 2) := by decide +kernel
theorem dX0_heldUpOf_7 : decode cX0_heldUpOf 7 = .ok (.aload_n 0, 1) := by decide +kernel
theorem dX0_heldUpOf_8 : decode cX0_heldUpOf 8 = .ok (.getfield 41, 3) := by decide +kernel
theorem dX0_heldUpOf_11 : decode cX0_heldUpOf 11 = .ok (.if_icmp .ge 35, 3) := by decide +kernel
theorem dX0_heldUpOf_14 : decode cX0_heldUpOf 14 = .ok (.iload_n 1, 1) := by decide +kernel
theorem dX0_heldUpOf_15 : decode cX0_heldUpOf 15 = .ok (.iload 4, 2) := by decide +kernel
theorem dX0_heldUpOf_17 : decode cX0_heldUpOf 17 = .ok (.invokestatic 61, 3) := by decide +kernel
theorem dX0_heldUpOf_20 : decode cX0_heldUpOf 20 = .ok (.ifCond .eq 20, 3) := by decide +kernel
theorem dX0_heldUpOf_23 : decode cX0_heldUpOf 23 = .ok (.aload_n 0, 1) := by decide +kernel
theorem dX0_heldUpOf_24 : decode cX0_heldUpOf 24 = .ok (.iload 4, 2) := by decide +kernel
theorem dX0_heldUpOf_26 : decode cX0_heldUpOf 26 = .ok (.iload_n 2, 1) := by decide +kernel
theorem dX0_heldUpOf_27 : decode cX0_heldUpOf 27 = .ok (.invokevirtual 88, 3) := by decide +kernel
theorem dX0_heldUpOf_30 : decode cX0_heldUpOf 30 = .ok (.ifCond .eq 10, 3) := by decide +kernel
theorem dX0_heldUpOf_33 : decode cX0_heldUpOf 33 = .ok (.iload_n 3, 1) := by decide +kernel
theorem dX0_heldUpOf_34 : decode cX0_heldUpOf 34 = .ok (.iconst 1, 1) := by decide +kernel
theorem dX0_heldUpOf_35 : decode cX0_heldUpOf 35 = .ok (.iload 4, 2) := by decide +kernel
theorem dX0_heldUpOf_37 : decode cX0_heldUpOf 37 = .ok (.ishl, 1) := by decide +kernel
theorem dX0_heldUpOf_38 : decode cX0_heldUpOf 38 = .ok (.ior, 1) := by decide +kernel
theorem dX0_heldUpOf_39 : decode cX0_heldUpOf 39 = .ok (.istore_n 3, 1) := by decide +kernel
theorem dX0_heldUpOf_40 : decode cX0_heldUpOf 40 = .ok (.iinc 4 1, 3) := by decide +kernel
theorem dX0_heldUpOf_43 : decode cX0_heldUpOf 43 = .ok (.goto (-38), 3) := by decide +kernel
theorem dX0_heldUpOf_46 : decode cX0_heldUpOf 46 = .ok (.iload_n 3, 1) := by decide +kernel
theorem dX0_heldUpOf_47 : decode cX0_heldUpOf 47 = .ok (.ireturn, 1) := by decide +kernel
theorem dX0_gain_0 : decode cX0_gain 0 = .ok (.iconst 0, 1) := by decide +kernel
theorem dX0_gain_1 : decode cX0_gain 1 = .ok (.istore 5, 2) := by decide +kernel
theorem dX0_gain_3 : decode cX0_gain 3 = .ok (.iconst 0, 1) := by decide +kernel
theorem dX0_gain_4 : decode cX0_gain 4 = .ok (.istore 6, 2) := by decide +kernel
theorem dX0_gain_6 : decode cX0_gain 6 = .ok (.iload 6, 2) := by decide +kernel
theorem dX0_gain_8 : decode cX0_gain 8 = .ok (.aload_n 0, 1) := by decide +kernel
theorem dX0_gain_9 : decode cX0_gain 9 = .ok (.getfield 41, 3) := by decide +kernel
theorem dX0_gain_12 : decode cX0_gain 12 = .ok (.if_icmp .ge 90, 3) := by decide +kernel
theorem dX0_gain_15 : decode cX0_gain 15 = .ok (.iload_n 1, 1) := by decide +kernel
theorem dX0_gain_16 : decode cX0_gain 16 = .ok (.iload 6, 2) := by decide +kernel
theorem dX0_gain_18 : decode cX0_gain 18 = .ok (.invokestatic 61, 3) := by decide +kernel
theorem dX0_gain_21 : decode cX0_gain 21 = .ok (.ifCond .eq 75, 3) := by decide +kernel
theorem dX0_gain_24 : decode cX0_gain 24 = .ok (.aload_n 0, 1) := by decide +kernel
theorem dX0_gain_25 : decode cX0_gain 25 = .ok (.getfield 21, 3) := by decide +kernel
theorem dX0_gain_28 : decode cX0_gain 28 = .ok (.iload 6, 2) := by decide +kernel
theorem dX0_gain_30 : decode cX0_gain 30 = .ok (.iaload, 1) := by decide +kernel
theorem dX0_gain_31 : decode cX0_gain 31 = .ok (.aload_n 0, 1) := by decide +kernel
theorem dX0_gain_32 : decode cX0_gain 32 = .ok (.getfield 21, 3) := by decide +kernel
theorem dX0_gain_35 : decode cX0_gain 35 = .ok (.iload 6, 2) := by decide +kernel
theorem dX0_gain_37 : decode cX0_gain 37 = .ok (.iaload, 1) := by decide +kernel
theorem dX0_gain_38 : decode cX0_gain 38 = .ok (.iload 4, 2) := by decide +kernel
theorem dX0_gain_40 : decode cX0_gain 40 = .ok (.imul, 1) := by decide +kernel
theorem dX0_gain_41 : decode cX0_gain 41 = .ok (.iload_n 2, 1) := by decide +kernel
theorem dX0_gain_42 : decode cX0_gain 42 = .ok (.aload_n 0, 1) := by decide +kernel
theorem dX0_gain_43 : decode cX0_gain 43 = .ok (.getfield 9, 3) := by decide +kernel
theorem dX0_gain_46 : decode cX0_gain 46 = .ok (.iload 6, 2) := by decide +kernel
theorem dX0_gain_48 : decode cX0_gain 48 = .ok (.iaload, 1) := by decide +kernel
theorem dX0_gain_49 : decode cX0_gain 49 = .ok (.isub, 1) := by decide +kernel
theorem dX0_gain_50 : decode cX0_gain 50 = .ok (.imul, 1) := by decide +kernel
theorem dX0_gain_51 : decode cX0_gain 51 = .ok (.bipush 100, 2) := by decide +kernel
theorem dX0_gain_53 : decode cX0_gain 53 = .ok (.idiv, 1) := by decide +kernel
theorem dX0_gain_54 : decode cX0_gain 54 = .ok (.iadd, 1) := by decide +kernel
theorem dX0_gain_55 : decode cX0_gain 55 = .ok (.istore 7, 2) := by decide +kernel
theorem dX0_gain_57 : decode cX0_gain 57 = .ok (.aload_n 0, 1) := by decide +kernel
theorem dX0_gain_58 : decode cX0_gain 58 = .ok (.getfield 15, 3) := by decide +kernel
theorem dX0_gain_61 : decode cX0_gain 61 = .ok (.iload 6, 2) := by decide +kernel
theorem dX0_gain_63 : decode cX0_gain 63 = .ok (.iaload, 1) := by decide +kernel
theorem dX0_gain_64 : decode cX0_gain 64 = .ok (.iload_n 3, 1) := by decide +kernel
theorem dX0_gain_65 : decode cX0_gain 65 = .ok (.if_icmp .ne 13, 3) := by decide +kernel
theorem dX0_gain_68 : decode cX0_gain 68 = .ok (.iload 5, 2) := by decide +kernel
theorem dX0_gain_70 : decode cX0_gain 70 = .ok (.iload 7, 2) := by decide +kernel
theorem dX0_gain_72 : decode cX0_gain 72 = .ok (.iadd, 1) := by decide +kernel
theorem dX0_gain_73 : decode cX0_gain 73 = .ok (.istore 5, 2) := by decide +kernel
theorem dX0_gain_75 : decode cX0_gain 75 = .ok (.goto 21, 3) := by decide +kernel
theorem dX0_gain_78 : decode cX0_gain 78 = .ok (.aload_n 0, 1) := by decide +kernel
theorem dX0_gain_79 : decode cX0_gain 79 = .ok (.getfield 18, 3) := by decide +kernel
theorem dX0_gain_82 : decode cX0_gain 82 = .ok (.iload 6, 2) := by decide +kernel
theorem dX0_gain_84 : decode cX0_gain 84 = .ok (.iaload, 1) := by decide +kernel
theorem dX0_gain_85 : decode cX0_gain 85 = .ok (.iload_n 3, 1) := by decide +kernel
theorem dX0_gain_86 : decode cX0_gain 86 = .ok (.if_icmp .ne 10, 3) := by decide +kernel
theorem dX0_gain_89 : decode cX0_gain 89 = .ok (.iload 5, 2) := by decide +kernel
theorem dX0_gain_91 : decode cX0_gain 91 = .ok (.iload 7, 2) := by decide +kernel
theorem dX0_gain_93 : decode cX0_gain 93 = .ok (.isub, 1) := by decide +kernel
theorem dX0_gain_94 : decode cX0_gain 94 = .ok (.istore 5, 2) := by decide +kernel
theorem dX0_gain_96 : decode cX0_gain 96 = .ok (.iinc 6 1, 3) := by decide +kernel
theorem dX0_gain_99 : decode cX0_gain 99 = .ok (.goto (-93), 3) := by decide +kernel
theorem dX0_gain_102 : decode cX0_gain 102 = .ok (.iload 5, 2) := by decide +kernel
theorem dX0_gain_104 : decode cX0_gain 104 = .ok (.ireturn, 1) := by decide +kernel
theorem dX1_init_0 : decode cX1_init 0 = .ok (.aload_n 0, 1) := by decide +kernel
theorem dX1_init_1 : decode cX1_init 1 = .ok (.invokespecial 3, 3) := by decide +kernel
theorem dX1_init_4 : decode cX1_init 4 = .ok (.aload_n 0, 1) := by decide +kernel
theorem dX1_init_5 : decode cX1_init 5 = .ok (.bipush 12, 2) := by decide +kernel
theorem dX1_init_7 : decode cX1_init 7 = .ok (.newarray .int, 2) := by decide +kernel
theorem dX1_init_9 : decode cX1_init 9 = .ok (.putfield 9, 3) := by decide +kernel
theorem dX1_init_12 : decode cX1_init 12 = .ok (.aload_n 0, 1) := by decide +kernel
theorem dX1_init_13 : decode cX1_init 13 = .ok (.bipush 12, 2) := by decide +kernel
theorem dX1_init_15 : decode cX1_init 15 = .ok (.newarray .int, 2) := by decide +kernel
theorem dX1_init_17 : decode cX1_init 17 = .ok (.putfield 15, 3) := by decide +kernel
theorem dX1_init_20 : decode cX1_init 20 = .ok (.aload_n 0, 1) := by decide +kernel
theorem dX1_init_21 : decode cX1_init 21 = .ok (.bipush 12, 2) := by decide +kernel
theorem dX1_init_23 : decode cX1_init 23 = .ok (.newarray .int, 2) := by decide +kernel
theorem dX1_init_25 : decode cX1_init 25 = .ok (.putfield 18, 3) := by decide +kernel
theorem dX1_init_28 : decode cX1_init 28 = .ok (.return_, 1) := by decide +kernel
theorem dX1_add_0 : decode cX1_add 0 = .ok (.aload_n 0, 1) := by decide +kernel
theorem dX1_add_1 : decode cX1_add 1 = .ok (.getfield 9, 3) := by decide +kernel
theorem dX1_add_4 : decode cX1_add 4 = .ok (.aload_n 0, 1) := by decide +kernel
theorem dX1_add_5 : decode cX1_add 5 = .ok (.getfield 21, 3) := by decide +kernel
theorem dX1_add_8 : decode cX1_add 8 = .ok (.iload_n 1, 1) := by decide +kernel
theorem dX1_add_9 : decode cX1_add 9 = .ok (.iastore, 1) := by decide +kernel
theorem dX1_add_10 : decode cX1_add 10 = .ok (.aload_n 0, 1) := by decide +kernel
theorem dX1_add_11 : decode cX1_add 11 = .ok (.getfield 15, 3) := by decide +kernel
theorem dX1_add_14 : decode cX1_add 14 = .ok (.aload_n 0, 1) := by decide +kernel
theorem dX1_add_15 : decode cX1_add 15 = .ok (.getfield 21, 3) := by decide +kernel
theorem dX1_add_18 : decode cX1_add 18 = .ok (.iload_n 2, 1) := by decide +kernel
theorem dX1_add_19 : decode cX1_add 19 = .ok (.iastore, 1) := by decide +kernel
theorem dX1_add_20 : decode cX1_add 20 = .ok (.aload_n 0, 1) := by decide +kernel
theorem dX1_add_21 : decode cX1_add 21 = .ok (.getfield 18, 3) := by decide +kernel
theorem dX1_add_24 : decode cX1_add 24 = .ok (.aload_n 0, 1) := by decide +kernel
theorem dX1_add_25 : decode cX1_add 25 = .ok (.getfield 21, 3) := by decide +kernel
theorem dX1_add_28 : decode cX1_add 28 = .ok (.iload_n 3, 1) := by decide +kernel
theorem dX1_add_29 : decode cX1_add 29 = .ok (.iastore, 1) := by decide +kernel
theorem dX1_add_30 : decode cX1_add 30 = .ok (.aload_n 0, 1) := by decide +kernel
theorem dX1_add_31 : decode cX1_add 31 = .ok (.dup, 1) := by decide +kernel
theorem dX1_add_32 : decode cX1_add 32 = .ok (.getfield 21, 3) := by decide +kernel
theorem dX1_add_35 : decode cX1_add 35 = .ok (.iconst 1, 1) := by decide +kernel
theorem dX1_add_36 : decode cX1_add 36 = .ok (.iadd, 1) := by decide +kernel
theorem dX1_add_37 : decode cX1_add 37 = .ok (.putfield 21, 3) := by decide +kernel
theorem dX1_add_40 : decode cX1_add 40 = .ok (.aload_n 0, 1) := by decide +kernel
theorem dX1_add_41 : decode cX1_add 41 = .ok (.getfield 21, 3) := by decide +kernel
theorem dX1_add_44 : decode cX1_add 44 = .ok (.iconst 1, 1) := by decide +kernel
theorem dX1_add_45 : decode cX1_add 45 = .ok (.isub, 1) := by decide +kernel
theorem dX1_add_46 : decode cX1_add 46 = .ok (.ireturn, 1) := by decide +kernel
theorem dX1_isCounted_0 : decode cX1_isCounted 0 = .ok (.aload_n 2, 1) := by decide +kernel
theorem dX1_isCounted_1 : decode cX1_isCounted 1 = .ok (.aload_n 0, 1) := by decide +kernel
theorem dX1_isCounted_2 : decode cX1_isCounted 2 = .ok (.getfield 9, 3) := by decide +kernel
theorem dX1_isCounted_5 : decode cX1_isCounted 5 = .ok (.iload_n 1, 1) := by decide +kernel
theorem dX1_isCounted_6 : decode cX1_isCounted 6 = .ok (.iaload, 1) := by decide +kernel
theorem dX1_isCounted_7 : decode cX1_isCounted 7 = .ok (.aload_n 0, 1) := by decide +kernel
theorem dX1_isCounted_8 : decode cX1_isCounted 8 = .ok (.getfield 15, 3) := by decide +kernel
theorem dX1_isCounted_11 : decode cX1_isCounted 11 = .ok (.iload_n 1, 1) := by decide +kernel
theorem dX1_isCounted_12 : decode cX1_isCounted 12 = .ok (.iaload, 1) := by decide +kernel
theorem dX1_isCounted_13 : decode cX1_isCounted 13 = .ok (.aload_n 0, 1) := by decide +kernel
theorem dX1_isCounted_14 : decode cX1_isCounted 14 = .ok (.getfield 18, 3) := by decide +kernel
theorem dX1_isCounted_17 : decode cX1_isCounted 17 = .ok (.iload_n 1, 1) := by decide +kernel
theorem dX1_isCounted_18 : decode cX1_isCounted 18 = .ok (.iaload, 1) := by decide +kernel
theorem dX1_isCounted_19 : decode cX1_isCounted 19 = .ok (.invokevirtual 25, 3) := by decide +kernel
theorem dX1_isCounted_22 : decode cX1_isCounted 22 = .ok (.ireturn, 1) := by decide +kernel
theorem dX1_struckBy_0 : decode cX1_struckBy 0 = .ok (.iconst 0, 1) := by decide +kernel
theorem dX1_struckBy_1 : decode cX1_struckBy 1 = .ok (.istore_n 3, 1) := by decide +kernel
theorem dX1_struckBy_2 : decode cX1_struckBy 2 = .ok (.iconst 0, 1) := by decide +kernel
theorem dX1_struckBy_3 : decode cX1_struckBy 3 = .ok (.istore 4, 2) := by decide +kernel
theorem dX1_struckBy_5 : decode cX1_struckBy 5 = .ok (.iload 4, 2) := by decide +kernel
theorem dX1_struckBy_7 : decode cX1_struckBy 7 = .ok (.aload_n 0, 1) := by decide +kernel
theorem dX1_struckBy_8 : decode cX1_struckBy 8 = .ok (.getfield 21, 3) := by decide +kernel
theorem dX1_struckBy_11 : decode cX1_struckBy 11 = .ok (.if_icmp .ge 42, 3) := by decide +kernel
theorem dX1_struckBy_14 : decode cX1_struckBy 14 = .ok (.aload_n 0, 1) := by decide +kernel
theorem dX1_struckBy_15 : decode cX1_struckBy 15 = .ok (.getfield 18, 3) := by decide +kernel
theorem dX1_struckBy_18 : decode cX1_struckBy 18 = .ok (.iload 4, 2) := by decide +kernel
theorem dX1_struckBy_20 : decode cX1_struckBy 20 = .ok (.iaload, 1) := by decide +kernel
theorem dX1_struckBy_21 : decode cX1_struckBy 21 = .ok (.iload_n 1, 1) := by decide +kernel
theorem dX1_struckBy_22 : decode cX1_struckBy 22 = .ok (.if_icmp .gt 25, 3) := by decide +kernel
theorem dX1_struckBy_25 : decode cX1_struckBy 25 = .ok (.aload_n 0, 1) := by decide +kernel
theorem dX1_struckBy_26 : decode cX1_struckBy 26 = .ok (.iload 4, 2) := by decide +kernel
theorem dX1_struckBy_28 : decode cX1_struckBy 28 = .ok (.aload_n 2, 1) := by decide +kernel
theorem dX1_struckBy_29 : decode cX1_struckBy 29 = .ok (.invokevirtual 31, 3) := by decide +kernel
theorem dX1_struckBy_32 : decode cX1_struckBy 32 = .ok (.ifCond .eq 15, 3) := by decide +kernel
theorem dX1_struckBy_35 : decode cX1_struckBy 35 = .ok (.iload_n 3, 1) := by decide +kernel
theorem dX1_struckBy_36 : decode cX1_struckBy 36 = .ok (.iconst 1, 1) := by decide +kernel
theorem dX1_struckBy_37 : decode cX1_struckBy 37 = .ok (.aload_n 0, 1) := by decide +kernel
theorem dX1_struckBy_38 : decode cX1_struckBy 38 = .ok (.getfield 9, 3) := by decide +kernel
theorem dX1_struckBy_41 : decode cX1_struckBy 41 = .ok (.iload 4, 2) := by decide +kernel
theorem dX1_struckBy_43 : decode cX1_struckBy 43 = .ok (.iaload, 1) := by decide +kernel
theorem dX1_struckBy_44 : decode cX1_struckBy 44 = .ok (.ishl, 1) := by decide +kernel
theorem dX1_struckBy_45 : decode cX1_struckBy 45 = .ok (.ior, 1) := by decide +kernel
theorem dX1_struckBy_46 : decode cX1_struckBy 46 = .ok (.istore_n 3, 1) := by decide +kernel
theorem dX1_struckBy_47 : decode cX1_struckBy 47 = .ok (.iinc 4 1, 3) := by decide +kernel
theorem dX1_struckBy_50 : decode cX1_struckBy 50 = .ok (.goto (-45), 3) := by decide +kernel
theorem dX1_struckBy_53 : decode cX1_struckBy 53 = .ok (.iload_n 3, 1) := by decide +kernel
theorem dX1_struckBy_54 : decode cX1_struckBy 54 = .ok (.ireturn, 1) := by decide +kernel
theorem dX2_init_0 : decode cX2_init 0 = .ok (.aload_n 0, 1) := by decide +kernel
theorem dX2_init_1 : decode cX2_init 1 = .ok (.invokespecial 3, 3) := by decide +kernel
theorem dX2_init_4 : decode cX2_init 4 = .ok (.aload_n 0, 1) := by decide +kernel
theorem dX2_init_5 : decode cX2_init 5 = .ok (.bipush 40, 2) := by decide +kernel
theorem dX2_init_7 : decode cX2_init 7 = .ok (.newarray .int, 2) := by decide +kernel
theorem dX2_init_9 : decode cX2_init 9 = .ok (.putfield 9, 3) := by decide +kernel
theorem dX2_init_12 : decode cX2_init 12 = .ok (.return_, 1) := by decide +kernel
theorem dX2_add_0 : decode cX2_add 0 = .ok (.aload_n 0, 1) := by decide +kernel
theorem dX2_add_1 : decode cX2_add 1 = .ok (.getfield 9, 3) := by decide +kernel
theorem dX2_add_4 : decode cX2_add 4 = .ok (.aload_n 0, 1) := by decide +kernel
theorem dX2_add_5 : decode cX2_add 5 = .ok (.getfield 15, 3) := by decide +kernel
theorem dX2_add_8 : decode cX2_add 8 = .ok (.iload_n 1, 1) := by decide +kernel
theorem dX2_add_9 : decode cX2_add 9 = .ok (.iastore, 1) := by decide +kernel
theorem dX2_add_10 : decode cX2_add 10 = .ok (.aload_n 0, 1) := by decide +kernel
theorem dX2_add_11 : decode cX2_add 11 = .ok (.dup, 1) := by decide +kernel
theorem dX2_add_12 : decode cX2_add 12 = .ok (.getfield 15, 3) := by decide +kernel
theorem dX2_add_15 : decode cX2_add 15 = .ok (.iconst 1, 1) := by decide +kernel
theorem dX2_add_16 : decode cX2_add 16 = .ok (.iadd, 1) := by decide +kernel
theorem dX2_add_17 : decode cX2_add 17 = .ok (.putfield 15, 3) := by decide +kernel
theorem dX2_add_20 : decode cX2_add 20 = .ok (.aload_n 0, 1) := by decide +kernel
theorem dX2_add_21 : decode cX2_add 21 = .ok (.getfield 15, 3) := by decide +kernel
theorem dX2_add_24 : decode cX2_add 24 = .ok (.ireturn, 1) := by decide +kernel
theorem dX2_clear_0 : decode cX2_clear 0 = .ok (.aload_n 0, 1) := by decide +kernel
theorem dX2_clear_1 : decode cX2_clear 1 = .ok (.getfield 15, 3) := by decide +kernel
theorem dX2_clear_4 : decode cX2_clear 4 = .ok (.istore_n 1, 1) := by decide +kernel
theorem dX2_clear_5 : decode cX2_clear 5 = .ok (.aload_n 0, 1) := by decide +kernel
theorem dX2_clear_6 : decode cX2_clear 6 = .ok (.iconst 0, 1) := by decide +kernel
theorem dX2_clear_7 : decode cX2_clear 7 = .ok (.putfield 15, 3) := by decide +kernel
theorem dX2_clear_10 : decode cX2_clear 10 = .ok (.iload_n 1, 1) := by decide +kernel
theorem dX2_clear_11 : decode cX2_clear 11 = .ok (.ireturn, 1) := by decide +kernel
theorem dX2_faultPlace_0 : decode cX2_faultPlace 0 = .ok (.iconst 0, 1) := by decide +kernel
theorem dX2_faultPlace_1 : decode cX2_faultPlace 1 = .ok (.istore_n 1, 1) := by decide +kernel
theorem dX2_faultPlace_2 : decode cX2_faultPlace 2 = .ok (.iload_n 1, 1) := by decide +kernel
theorem dX2_faultPlace_3 : decode cX2_faultPlace 3 = .ok (.aload_n 0, 1) := by decide +kernel
theorem dX2_faultPlace_4 : decode cX2_faultPlace 4 = .ok (.getfield 15, 3) := by decide +kernel
theorem dX2_faultPlace_7 : decode cX2_faultPlace 7 = .ok (.if_icmp .ge 24, 3) := by decide +kernel
theorem dX2_faultPlace_10 : decode cX2_faultPlace 10 = .ok (.aload_n 0, 1) := by decide +kernel
theorem dX2_faultPlace_11 : decode cX2_faultPlace 11 = .ok (.getfield 9, 3) := by decide +kernel
theorem dX2_faultPlace_14 : decode cX2_faultPlace 14 = .ok (.iload_n 1, 1) := by decide +kernel
theorem dX2_faultPlace_15 : decode cX2_faultPlace 15 = .ok (.iaload, 1) := by decide +kernel
theorem dX2_faultPlace_16 : decode cX2_faultPlace 16 = .ok (.iload_n 1, 1) := by decide +kernel
theorem dX2_faultPlace_17 : decode cX2_faultPlace 17 = .ok (.invokestatic 19, 3) := by decide +kernel
theorem dX2_faultPlace_20 : decode cX2_faultPlace 20 = .ok (.ifCond .ne 5, 3) := by decide +kernel
theorem dX2_faultPlace_23 : decode cX2_faultPlace 23 = .ok (.iload_n 1, 1) := by decide +kernel
theorem dX2_faultPlace_24 : decode cX2_faultPlace 24 = .ok (.ireturn, 1) := by decide +kernel
theorem dX2_faultPlace_25 : decode cX2_faultPlace 25 = .ok (.iinc 1 1, 3) := by decide +kernel
theorem dX2_faultPlace_28 : decode cX2_faultPlace 28 = .ok (.goto (-26), 3) := by decide +kernel
theorem dX2_faultPlace_31 : decode cX2_faultPlace 31 = .ok (.aload_n 0, 1) := by decide +kernel
theorem dX2_faultPlace_32 : decode cX2_faultPlace 32 = .ok (.getfield 15, 3) := by decide +kernel
theorem dX2_faultPlace_35 : decode cX2_faultPlace 35 = .ok (.invokestatic 23, 3) := by decide +kernel
theorem dX2_faultPlace_38 : decode cX2_faultPlace 38 = .ok (.ifCond .eq 10, 3) := by decide +kernel
theorem dX2_faultPlace_41 : decode cX2_faultPlace 41 = .ok (.aload_n 0, 1) := by decide +kernel
theorem dX2_faultPlace_42 : decode cX2_faultPlace 42 = .ok (.getfield 15, 3) := by decide +kernel
theorem dX2_faultPlace_45 : decode cX2_faultPlace 45 = .ok (.goto 5, 3) := by decide +kernel
theorem dX2_faultPlace_48 : decode cX2_faultPlace 48 = .ok (.bipush (-6), 2) := by decide +kernel
theorem dX2_faultPlace_50 : decode cX2_faultPlace 50 = .ok (.ireturn, 1) := by decide +kernel
theorem dX2_isForLetter_0 : decode cX2_isForLetter 0 = .ok (.iload_n 0, 1) := by decide +kernel
theorem dX2_isForLetter_1 : decode cX2_isForLetter 1 = .ok (.iconst 2, 1) := by decide +kernel
theorem dX2_isForLetter_2 : decode cX2_isForLetter 2 = .ok (.irem, 1) := by decide +kernel
theorem dX2_isForLetter_3 : decode cX2_isForLetter 3 = .ok (.ifCond .ne 7, 3) := by decide +kernel
theorem dX2_isForLetter_6 : decode cX2_isForLetter 6 = .ok (.iconst 1, 1) := by decide +kernel
theorem dX2_isForLetter_7 : decode cX2_isForLetter 7 = .ok (.goto 4, 3) := by decide +kernel
theorem dX2_isForLetter_10 : decode cX2_isForLetter 10 = .ok (.iconst 0, 1) := by decide +kernel
theorem dX2_isForLetter_11 : decode cX2_isForLetter 11 = .ok (.ireturn, 1) := by decide +kernel
theorem dX2_canStand_0 : decode cX2_canStand 0 = .ok (.iload_n 1, 1) := by decide +kernel
theorem dX2_canStand_1 : decode cX2_canStand 1 = .ok (.invokestatic 23, 3) := by decide +kernel
theorem dX2_canStand_4 : decode cX2_canStand 4 = .ok (.ifCond .eq 12, 3) := by decide +kernel
theorem dX2_canStand_7 : decode cX2_canStand 7 = .ok (.iload_n 0, 1) := by decide +kernel
theorem dX2_canStand_8 : decode cX2_canStand 8 = .ok (.bipush 97, 2) := by decide +kernel
theorem dX2_canStand_10 : decode cX2_canStand 10 = .ok (.bipush 108, 2) := by decide +kernel
theorem dX2_canStand_12 : decode cX2_canStand 12 = .ok (.invokestatic 27, 3) := by decide +kernel
theorem dX2_canStand_15 : decode cX2_canStand 15 = .ok (.ireturn, 1) := by decide +kernel
theorem dX2_canStand_16 : decode cX2_canStand 16 = .ok (.iload_n 0, 1) := by decide +kernel
theorem dX2_canStand_17 : decode cX2_canStand 17 = .ok (.bipush 43, 2) := by decide +kernel
theorem dX2_canStand_19 : decode cX2_canStand 19 = .ok (.if_icmp .eq 9, 3) := by decide +kernel
theorem dX2_canStand_22 : decode cX2_canStand 22 = .ok (.iload_n 0, 1) := by decide +kernel
theorem dX2_canStand_23 : decode cX2_canStand 23 = .ok (.bipush 124, 2) := by decide +kernel
theorem dX2_canStand_25 : decode cX2_canStand 25 = .ok (.if_icmp .ne 7, 3) := by decide +kernel
theorem dX2_canStand_28 : decode cX2_canStand 28 = .ok (.iconst 1, 1) := by decide +kernel
theorem dX2_canStand_29 : decode cX2_canStand 29 = .ok (.goto 4, 3) := by decide +kernel
theorem dX2_canStand_32 : decode cX2_canStand 32 = .ok (.iconst 0, 1) := by decide +kernel
theorem dX2_canStand_33 : decode cX2_canStand 33 = .ok (.ireturn, 1) := by decide +kernel
theorem dJ6_bitCount_0f7a4_0 : decode cJ6_bitCount_0f7a4 0 = .ok (.iload_n 0, 1) := by decide +kernel
theorem dJ6_bitCount_0f7a4_1 : decode cJ6_bitCount_0f7a4 1 = .ok (.iload_n 0, 1) := by decide +kernel
theorem dJ6_bitCount_0f7a4_2 : decode cJ6_bitCount_0f7a4 2 = .ok (.iconst 1, 1) := by decide +kernel
theorem dJ6_bitCount_0f7a4_3 : decode cJ6_bitCount_0f7a4 3 = .ok (.iushr, 1) := by decide +kernel
theorem dJ6_bitCount_0f7a4_4 : decode cJ6_bitCount_0f7a4 4 = .ok (.ldc_w 265, 3) := by decide +kernel
theorem dJ6_bitCount_0f7a4_7 : decode cJ6_bitCount_0f7a4 7 = .ok (.iand, 1) := by decide +kernel
theorem dJ6_bitCount_0f7a4_8 : decode cJ6_bitCount_0f7a4 8 = .ok (.isub, 1) := by decide +kernel
theorem dJ6_bitCount_0f7a4_9 : decode cJ6_bitCount_0f7a4 9 = .ok (.istore_n 0, 1) := by decide +kernel
theorem dJ6_bitCount_0f7a4_10 : decode cJ6_bitCount_0f7a4 10 = .ok (.iload_n 0, 1) := by decide +kernel
theorem dJ6_bitCount_0f7a4_11 : decode cJ6_bitCount_0f7a4 11 = .ok (.ldc_w 266, 3) := by decide +kernel
theorem dJ6_bitCount_0f7a4_14 : decode cJ6_bitCount_0f7a4 14 = .ok (.iand, 1) := by decide +kernel
theorem dJ6_bitCount_0f7a4_15 : decode cJ6_bitCount_0f7a4 15 = .ok (.iload_n 0, 1) := by decide +kernel
theorem dJ6_bitCount_0f7a4_16 : decode cJ6_bitCount_0f7a4 16 = .ok (.iconst 2, 1) := by decide +kernel
theorem dJ6_bitCount_0f7a4_17 : decode cJ6_bitCount_0f7a4 17 = .ok (.iushr, 1) := by decide +kernel
theorem dJ6_bitCount_0f7a4_18 : decode cJ6_bitCount_0f7a4 18 = .ok (.ldc_w 266, 3) := by decide +kernel
theorem dJ6_bitCount_0f7a4_21 : decode cJ6_bitCount_0f7a4 21 = .ok (.iand, 1) := by decide +kernel
theorem dJ6_bitCount_0f7a4_22 : decode cJ6_bitCount_0f7a4 22 = .ok (.iadd, 1) := by decide +kernel
theorem dJ6_bitCount_0f7a4_23 : decode cJ6_bitCount_0f7a4 23 = .ok (.istore_n 0, 1) := by decide +kernel
theorem dJ6_bitCount_0f7a4_24 : decode cJ6_bitCount_0f7a4 24 = .ok (.iload_n 0, 1) := by decide +kernel
theorem dJ6_bitCount_0f7a4_25 : decode cJ6_bitCount_0f7a4 25 = .ok (.iload_n 0, 1) := by decide +kernel
theorem dJ6_bitCount_0f7a4_26 : decode cJ6_bitCount_0f7a4 26 = .ok (.iconst 4, 1) := by decide +kernel
theorem dJ6_bitCount_0f7a4_27 : decode cJ6_bitCount_0f7a4 27 = .ok (.iushr, 1) := by decide +kernel
theorem dJ6_bitCount_0f7a4_28 : decode cJ6_bitCount_0f7a4 28 = .ok (.iadd, 1) := by decide +kernel
theorem dJ6_bitCount_0f7a4_29 : decode cJ6_bitCount_0f7a4 29 = .ok (.ldc_w 267, 3) := by decide +kernel
theorem dJ6_bitCount_0f7a4_32 : decode cJ6_bitCount_0f7a4 32 = .ok (.iand, 1) := by decide +kernel
theorem dJ6_bitCount_0f7a4_33 : decode cJ6_bitCount_0f7a4 33 = .ok (.istore_n 0, 1) := by decide +kernel
theorem dJ6_bitCount_0f7a4_34 : decode cJ6_bitCount_0f7a4 34 = .ok (.iload_n 0, 1) := by decide +kernel
theorem dJ6_bitCount_0f7a4_35 : decode cJ6_bitCount_0f7a4 35 = .ok (.iload_n 0, 1) := by decide +kernel
theorem dJ6_bitCount_0f7a4_36 : decode cJ6_bitCount_0f7a4 36 = .ok (.bipush 8, 2) := by decide +kernel
theorem dJ6_bitCount_0f7a4_38 : decode cJ6_bitCount_0f7a4 38 = .ok (.iushr, 1) := by decide +kernel
theorem dJ6_bitCount_0f7a4_39 : decode cJ6_bitCount_0f7a4 39 = .ok (.iadd, 1) := by decide +kernel
theorem dJ6_bitCount_0f7a4_40 : decode cJ6_bitCount_0f7a4 40 = .ok (.istore_n 0, 1) := by decide +kernel
theorem dJ6_bitCount_0f7a4_41 : decode cJ6_bitCount_0f7a4 41 = .ok (.iload_n 0, 1) := by decide +kernel
theorem dJ6_bitCount_0f7a4_42 : decode cJ6_bitCount_0f7a4 42 = .ok (.iload_n 0, 1) := by decide +kernel
theorem dJ6_bitCount_0f7a4_43 : decode cJ6_bitCount_0f7a4 43 = .ok (.bipush 16, 2) := by decide +kernel
theorem dJ6_bitCount_0f7a4_45 : decode cJ6_bitCount_0f7a4 45 = .ok (.iushr, 1) := by decide +kernel
theorem dJ6_bitCount_0f7a4_46 : decode cJ6_bitCount_0f7a4 46 = .ok (.iadd, 1) := by decide +kernel
theorem dJ6_bitCount_0f7a4_47 : decode cJ6_bitCount_0f7a4 47 = .ok (.istore_n 0, 1) := by decide +kernel
theorem dJ6_bitCount_0f7a4_48 : decode cJ6_bitCount_0f7a4 48 = .ok (.iload_n 0, 1) := by decide +kernel
theorem dJ6_bitCount_0f7a4_49 : decode cJ6_bitCount_0f7a4 49 = .ok (.bipush 63, 2) := by decide +kernel
theorem dJ6_bitCount_0f7a4_51 : decode cJ6_bitCount_0f7a4 51 = .ok (.iand, 1) := by decide +kernel
theorem dJ6_bitCount_0f7a4_52 : decode cJ6_bitCount_0f7a4 52 = .ok (.ireturn, 1) := by decide +kernel
theorem dJ7_fill_53178_0 : decode cJ7_fill_53178 0 = .ok (.iconst 0, 1) := by decide +kernel
theorem dJ7_fill_53178_1 : decode cJ7_fill_53178 1 = .ok (.istore_n 2, 1) := by decide +kernel
theorem dJ7_fill_53178_2 : decode cJ7_fill_53178 2 = .ok (.aload_n 0, 1) := by decide +kernel
theorem dJ7_fill_53178_3 : decode cJ7_fill_53178 3 = .ok (.arraylength, 1) := by decide +kernel
theorem dJ7_fill_53178_4 : decode cJ7_fill_53178 4 = .ok (.istore_n 3, 1) := by decide +kernel
theorem dJ7_fill_53178_5 : decode cJ7_fill_53178 5 = .ok (.iload_n 2, 1) := by decide +kernel
theorem dJ7_fill_53178_6 : decode cJ7_fill_53178 6 = .ok (.iload_n 3, 1) := by decide +kernel
theorem dJ7_fill_53178_7 : decode cJ7_fill_53178 7 = .ok (.if_icmp .ge 13, 3) := by decide +kernel
theorem dJ7_fill_53178_10 : decode cJ7_fill_53178 10 = .ok (.aload_n 0, 1) := by decide +kernel
theorem dJ7_fill_53178_11 : decode cJ7_fill_53178 11 = .ok (.iload_n 2, 1) := by decide +kernel
theorem dJ7_fill_53178_12 : decode cJ7_fill_53178 12 = .ok (.iload_n 1, 1) := by decide +kernel
theorem dJ7_fill_53178_13 : decode cJ7_fill_53178 13 = .ok (.iastore, 1) := by decide +kernel
theorem dJ7_fill_53178_14 : decode cJ7_fill_53178 14 = .ok (.iinc 2 1, 3) := by decide +kernel
theorem dJ7_fill_53178_17 : decode cJ7_fill_53178 17 = .ok (.goto (-12), 3) := by decide +kernel
theorem dJ7_fill_53178_20 : decode cJ7_fill_53178 20 = .ok (.return_, 1) := by decide +kernel
theorem dJ9_min_7cf53_0 : decode cJ9_min_7cf53 0 = .ok (.iload_n 0, 1) := by decide +kernel
theorem dJ9_min_7cf53_1 : decode cJ9_min_7cf53 1 = .ok (.iload_n 1, 1) := by decide +kernel
theorem dJ9_min_7cf53_2 : decode cJ9_min_7cf53 2 = .ok (.if_icmp .gt 7, 3) := by decide +kernel
theorem dJ9_min_7cf53_5 : decode cJ9_min_7cf53 5 = .ok (.iload_n 0, 1) := by decide +kernel
theorem dJ9_min_7cf53_6 : decode cJ9_min_7cf53 6 = .ok (.goto 4, 3) := by decide +kernel
theorem dJ9_min_7cf53_9 : decode cJ9_min_7cf53 9 = .ok (.iload_n 1, 1) := by decide +kernel
theorem dJ9_min_7cf53_10 : decode cJ9_min_7cf53 10 = .ok (.ireturn, 1) := by decide +kernel
