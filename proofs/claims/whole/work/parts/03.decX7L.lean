theorem dX7_init_0 : decode cX7_init 0 = .ok (.aload_n 0, 1) := by decide +kernel
theorem dX7_init_1 : decode cX7_init 1 = .ok (.invokespecial 3, 3) := by decide +kernel
theorem dX7_init_4 : decode cX7_init 4 = .ok (.aload_n 0, 1) := by decide +kernel
theorem dX7_init_5 : decode cX7_init 5 = .ok (.new 9, 3) := by decide +kernel
theorem dX7_init_8 : decode cX7_init 8 = .ok (.dup, 1) := by decide +kernel
theorem dX7_init_9 : decode cX7_init 9 = .ok (.invokespecial 11, 3) := by decide +kernel
theorem dX7_init_12 : decode cX7_init 12 = .ok (.putfield 12, 3) := by decide +kernel
theorem dX7_init_15 : decode cX7_init 15 = .ok (.aload_n 0, 1) := by decide +kernel
theorem dX7_init_16 : decode cX7_init 16 = .ok (.iconst 2, 1) := by decide +kernel
theorem dX7_init_17 : decode cX7_init 17 = .ok (.anewarray 9, 3) := by decide +kernel
theorem dX7_init_20 : decode cX7_init 20 = .ok (.putfield 16, 3) := by decide +kernel
theorem dX7_init_23 : decode cX7_init 23 = .ok (.aload_n 0, 1) := by decide +kernel
theorem dX7_init_24 : decode cX7_init 24 = .ok (.new 20, 3) := by decide +kernel
theorem dX7_init_27 : decode cX7_init 27 = .ok (.dup, 1) := by decide +kernel
theorem dX7_init_28 : decode cX7_init 28 = .ok (.aload_n 0, 1) := by decide +kernel
theorem dX7_init_29 : decode cX7_init 29 = .ok (.getfield 12, 3) := by decide +kernel
theorem dX7_init_32 : decode cX7_init 32 = .ok (.invokespecial 22, 3) := by decide +kernel
theorem dX7_init_35 : decode cX7_init 35 = .ok (.putfield 25, 3) := by decide +kernel
theorem dX7_init_38 : decode cX7_init 38 = .ok (.aload_n 0, 1) := by decide +kernel
theorem dX7_init_39 : decode cX7_init 39 = .ok (.new 29, 3) := by decide +kernel
theorem dX7_init_42 : decode cX7_init 42 = .ok (.dup, 1) := by decide +kernel
theorem dX7_init_43 : decode cX7_init 43 = .ok (.aload_n 0, 1) := by decide +kernel
theorem dX7_init_44 : decode cX7_init 44 = .ok (.getfield 12, 3) := by decide +kernel
theorem dX7_init_47 : decode cX7_init 47 = .ok (.aload_n 0, 1) := by decide +kernel
theorem dX7_init_48 : decode cX7_init 48 = .ok (.getfield 25, 3) := by decide +kernel
theorem dX7_init_51 : decode cX7_init 51 = .ok (.invokespecial 31, 3) := by decide +kernel
theorem dX7_init_54 : decode cX7_init 54 = .ok (.putfield 34, 3) := by decide +kernel
theorem dX7_init_57 : decode cX7_init 57 = .ok (.aload_n 0, 1) := by decide +kernel
theorem dX7_init_58 : decode cX7_init 58 = .ok (.new 38, 3) := by decide +kernel
theorem dX7_init_61 : decode cX7_init 61 = .ok (.dup, 1) := by decide +kernel
theorem dX7_init_62 : decode cX7_init 62 = .ok (.invokespecial 40, 3) := by decide +kernel
theorem dX7_init_65 : decode cX7_init 65 = .ok (.putfield 41, 3) := by decide +kernel
theorem dX7_init_68 : decode cX7_init 68 = .ok (.aload_n 0, 1) := by decide +kernel
theorem dX7_init_69 : decode cX7_init 69 = .ok (.new 45, 3) := by decide +kernel
theorem dX7_init_72 : decode cX7_init 72 = .ok (.dup, 1) := by decide +kernel
theorem dX7_init_73 : decode cX7_init 73 = .ok (.invokespecial 47, 3) := by decide +kernel
theorem dX7_init_76 : decode cX7_init 76 = .ok (.putfield 48, 3) := by decide +kernel
theorem dX7_init_79 : decode cX7_init 79 = .ok (.aload_n 0, 1) := by decide +kernel
theorem dX7_init_80 : decode cX7_init 80 = .ok (.sipush 400, 3) := by decide +kernel
theorem dX7_init_83 : decode cX7_init 83 = .ok (.newarray .int, 2) := by decide +kernel
theorem dX7_init_85 : decode cX7_init 85 = .ok (.putfield 52, 3) := by decide +kernel
theorem dX7_init_88 : decode cX7_init 88 = .ok (.aload_n 0, 1) := by decide +kernel
theorem dX7_init_89 : decode cX7_init 89 = .ok (.iconst 0, 1) := by decide +kernel
theorem dX7_init_90 : decode cX7_init 90 = .ok (.putfield 56, 3) := by decide +kernel
theorem dX7_init_93 : decode cX7_init 93 = .ok (.aload_n 0, 1) := by decide +kernel
theorem dX7_init_94 : decode cX7_init 94 = .ok (.iconst (-1), 1) := by decide +kernel
theorem dX7_init_95 : decode cX7_init 95 = .ok (.putfield 60, 3) := by decide +kernel
theorem dX7_init_98 : decode cX7_init 98 = .ok (.aload_n 0, 1) := by decide +kernel
theorem dX7_init_99 : decode cX7_init 99 = .ok (.iconst 0, 1) := by decide +kernel
theorem dX7_init_100 : decode cX7_init 100 = .ok (.putfield 63, 3) := by decide +kernel
theorem dX7_init_103 : decode cX7_init 103 = .ok (.return_, 1) := by decide +kernel
theorem dX7_stiff_0 : decode cX7_stiff 0 = .ok (.iload_n 1, 1) := by decide +kernel
theorem dX7_stiff_1 : decode cX7_stiff 1 = .ok (.invokestatic 66, 3) := by decide +kernel
theorem dX7_stiff_4 : decode cX7_stiff 4 = .ok (.ifCond .eq 14, 3) := by decide +kernel
theorem dX7_stiff_7 : decode cX7_stiff 7 = .ok (.iload_n 2, 1) := by decide +kernel
theorem dX7_stiff_8 : decode cX7_stiff 8 = .ok (.iconst 1, 1) := by decide +kernel
theorem dX7_stiff_9 : decode cX7_stiff 9 = .ok (.if_icmp .lt 9, 3) := by decide +kernel
theorem dX7_stiff_12 : decode cX7_stiff 12 = .ok (.iload_n 2, 1) := by decide +kernel
theorem dX7_stiff_13 : decode cX7_stiff 13 = .ok (.bipush 9, 2) := by decide +kernel
theorem dX7_stiff_15 : decode cX7_stiff 15 = .ok (.if_icmp .le 9, 3) := by decide +kernel
theorem dX7_stiff_18 : decode cX7_stiff 18 = .ok (.aload_n 0, 1) := by decide +kernel
theorem dX7_stiff_19 : decode cX7_stiff 19 = .ok (.iconst (-1), 1) := by decide +kernel
theorem dX7_stiff_20 : decode cX7_stiff 20 = .ok (.invokevirtual 70, 3) := by decide +kernel
theorem dX7_stiff_23 : decode cX7_stiff 23 = .ok (.ireturn, 1) := by decide +kernel
theorem dX7_stiff_24 : decode cX7_stiff 24 = .ok (.aload_n 0, 1) := by decide +kernel
theorem dX7_stiff_25 : decode cX7_stiff 25 = .ok (.getfield 12, 3) := by decide +kernel
theorem dX7_stiff_28 : decode cX7_stiff 28 = .ok (.getfield 74, 3) := by decide +kernel
theorem dX7_stiff_31 : decode cX7_stiff 31 = .ok (.iload_n 1, 1) := by decide +kernel
theorem dX7_stiff_32 : decode cX7_stiff 32 = .ok (.iaload, 1) := by decide +kernel
theorem dX7_stiff_33 : decode cX7_stiff 33 = .ok (.istore_n 3, 1) := by decide +kernel
theorem dX7_stiff_34 : decode cX7_stiff 34 = .ok (.aload_n 0, 1) := by decide +kernel
theorem dX7_stiff_35 : decode cX7_stiff 35 = .ok (.getfield 12, 3) := by decide +kernel
theorem dX7_stiff_38 : decode cX7_stiff 38 = .ok (.getfield 74, 3) := by decide +kernel
theorem dX7_stiff_41 : decode cX7_stiff 41 = .ok (.iload_n 1, 1) := by decide +kernel
theorem dX7_stiff_42 : decode cX7_stiff 42 = .ok (.iload_n 2, 1) := by decide +kernel
theorem dX7_stiff_43 : decode cX7_stiff 43 = .ok (.iastore, 1) := by decide +kernel
theorem dX7_stiff_44 : decode cX7_stiff 44 = .ok (.aload_n 0, 1) := by decide +kernel
theorem dX7_stiff_45 : decode cX7_stiff 45 = .ok (.iload_n 3, 1) := by decide +kernel
theorem dX7_stiff_46 : decode cX7_stiff 46 = .ok (.invokevirtual 77, 3) := by decide +kernel
theorem dX7_stiff_49 : decode cX7_stiff 49 = .ok (.ireturn, 1) := by decide +kernel
theorem dX7_tier_0 : decode cX7_tier 0 = .ok (.iload_n 1, 1) := by decide +kernel
theorem dX7_tier_1 : decode cX7_tier 1 = .ok (.iconst 0, 1) := by decide +kernel
theorem dX7_tier_2 : decode cX7_tier 2 = .ok (.iconst 5, 1) := by decide +kernel
theorem dX7_tier_3 : decode cX7_tier 3 = .ok (.invokestatic 80, 3) := by decide +kernel
theorem dX7_tier_6 : decode cX7_tier 6 = .ok (.ifCond .eq 31, 3) := by decide +kernel
theorem dX7_tier_9 : decode cX7_tier 9 = .ok (.iload_n 2, 1) := by decide +kernel
theorem dX7_tier_10 : decode cX7_tier 10 = .ok (.iconst 0, 1) := by decide +kernel
theorem dX7_tier_11 : decode cX7_tier 11 = .ok (.iconst 1, 1) := by decide +kernel
theorem dX7_tier_12 : decode cX7_tier 12 = .ok (.invokestatic 80, 3) := by decide +kernel
theorem dX7_tier_15 : decode cX7_tier 15 = .ok (.ifCond .eq 22, 3) := by decide +kernel
theorem dX7_tier_18 : decode cX7_tier 18 = .ok (.iload_n 3, 1) := by decide +kernel
theorem dX7_tier_19 : decode cX7_tier 19 = .ok (.iconst 0, 1) := by decide +kernel
theorem dX7_tier_20 : decode cX7_tier 20 = .ok (.iload_n 2, 1) := by decide +kernel
theorem dX7_tier_21 : decode cX7_tier 21 = .ok (.ifCond .ne 8, 3) := by decide +kernel
theorem dX7_tier_24 : decode cX7_tier 24 = .ok (.bipush 20, 2) := by decide +kernel
theorem dX7_tier_26 : decode cX7_tier 26 = .ok (.goto 5, 3) := by decide +kernel
theorem dX7_tier_29 : decode cX7_tier 29 = .ok (.ldc 84, 2) := by decide +kernel
theorem dX7_tier_31 : decode cX7_tier 31 = .ok (.invokestatic 80, 3) := by decide +kernel
theorem dX7_tier_34 : decode cX7_tier 34 = .ok (.ifCond .ne 9, 3) := by decide +kernel
theorem dX7_tier_37 : decode cX7_tier 37 = .ok (.aload_n 0, 1) := by decide +kernel
theorem dX7_tier_38 : decode cX7_tier 38 = .ok (.iconst (-1), 1) := by decide +kernel
theorem dX7_tier_39 : decode cX7_tier 39 = .ok (.invokevirtual 70, 3) := by decide +kernel
theorem dX7_tier_42 : decode cX7_tier 42 = .ok (.ireturn, 1) := by decide +kernel
theorem dX7_tier_43 : decode cX7_tier 43 = .ok (.iload_n 2, 1) := by decide +kernel
theorem dX7_tier_44 : decode cX7_tier 44 = .ok (.ifCond .ne 13, 3) := by decide +kernel
theorem dX7_tier_47 : decode cX7_tier 47 = .ok (.aload_n 0, 1) := by decide +kernel
theorem dX7_tier_48 : decode cX7_tier 48 = .ok (.getfield 12, 3) := by decide +kernel
theorem dX7_tier_51 : decode cX7_tier 51 = .ok (.getfield 85, 3) := by decide +kernel
theorem dX7_tier_54 : decode cX7_tier 54 = .ok (.goto 10, 3) := by decide +kernel
theorem dX7_tier_57 : decode cX7_tier 57 = .ok (.aload_n 0, 1) := by decide +kernel
theorem dX7_tier_58 : decode cX7_tier 58 = .ok (.getfield 12, 3) := by decide +kernel
theorem dX7_tier_61 : decode cX7_tier 61 = .ok (.getfield 88, 3) := by decide +kernel
theorem dX7_tier_64 : decode cX7_tier 64 = .ok (.astore 4, 2) := by decide +kernel
theorem dX7_tier_66 : decode cX7_tier 66 = .ok (.aload 4, 2) := by decide +kernel
theorem dX7_tier_68 : decode cX7_tier 68 = .ok (.iload_n 1, 1) := by decide +kernel
theorem dX7_tier_69 : decode cX7_tier 69 = .ok (.iaload, 1) := by decide +kernel
theorem dX7_tier_70 : decode cX7_tier 70 = .ok (.istore 5, 2) := by decide +kernel
theorem dX7_tier_72 : decode cX7_tier 72 = .ok (.aload 4, 2) := by decide +kernel
theorem dX7_tier_74 : decode cX7_tier 74 = .ok (.iload_n 1, 1) := by decide +kernel
theorem dX7_tier_75 : decode cX7_tier 75 = .ok (.iload_n 3, 1) := by decide +kernel
theorem dX7_tier_76 : decode cX7_tier 76 = .ok (.iastore, 1) := by decide +kernel
theorem dX7_tier_77 : decode cX7_tier 77 = .ok (.aload_n 0, 1) := by decide +kernel
theorem dX7_tier_78 : decode cX7_tier 78 = .ok (.iload 5, 2) := by decide +kernel
theorem dX7_tier_80 : decode cX7_tier 80 = .ok (.invokevirtual 77, 3) := by decide +kernel
theorem dX7_tier_83 : decode cX7_tier 83 = .ok (.ireturn, 1) := by decide +kernel
theorem dX7_terms_0 : decode cX7_terms 0 = .ok (.iload_n 1, 1) := by decide +kernel
theorem dX7_terms_1 : decode cX7_terms 1 = .ok (.iconst 0, 1) := by decide +kernel
theorem dX7_terms_2 : decode cX7_terms 2 = .ok (.bipush 8, 2) := by decide +kernel
theorem dX7_terms_4 : decode cX7_terms 4 = .ok (.invokestatic 80, 3) := by decide +kernel
theorem dX7_terms_7 : decode cX7_terms 7 = .ok (.ifCond .eq 20, 3) := by decide +kernel
theorem dX7_terms_10 : decode cX7_terms 10 = .ok (.iload_n 2, 1) := by decide +kernel
theorem dX7_terms_11 : decode cX7_terms 11 = .ok (.getstatic 91, 3) := by decide +kernel
theorem dX7_terms_14 : decode cX7_terms 14 = .ok (.iload_n 1, 1) := by decide +kernel
theorem dX7_terms_15 : decode cX7_terms 15 = .ok (.iaload, 1) := by decide +kernel
theorem dX7_terms_16 : decode cX7_terms 16 = .ok (.getstatic 94, 3) := by decide +kernel
theorem dX7_terms_19 : decode cX7_terms 19 = .ok (.iload_n 1, 1) := by decide +kernel
theorem dX7_terms_20 : decode cX7_terms 20 = .ok (.iaload, 1) := by decide +kernel
theorem dX7_terms_21 : decode cX7_terms 21 = .ok (.invokestatic 80, 3) := by decide +kernel
theorem dX7_terms_24 : decode cX7_terms 24 = .ok (.ifCond .ne 9, 3) := by decide +kernel
theorem dX7_terms_27 : decode cX7_terms 27 = .ok (.aload_n 0, 1) := by decide +kernel
theorem dX7_terms_28 : decode cX7_terms 28 = .ok (.iconst (-1), 1) := by decide +kernel
theorem dX7_terms_29 : decode cX7_terms 29 = .ok (.invokevirtual 70, 3) := by decide +kernel
theorem dX7_terms_32 : decode cX7_terms 32 = .ok (.ireturn, 1) := by decide +kernel
theorem dX7_terms_33 : decode cX7_terms 33 = .ok (.iload_n 1, 1) := by decide +kernel
theorem dX7_terms_34 : decode cX7_terms 34 = .ok (.ifCond .ne 7, 3) := by decide +kernel
theorem dX7_terms_37 : decode cX7_terms 37 = .ok (.iload_n 2, 1) := by decide +kernel
theorem dX7_terms_38 : decode cX7_terms 38 = .ok (.goto 12, 3) := by decide +kernel
theorem dX7_terms_41 : decode cX7_terms 41 = .ok (.aload_n 0, 1) := by decide +kernel
theorem dX7_terms_42 : decode cX7_terms 42 = .ok (.getfield 12, 3) := by decide +kernel
theorem dX7_terms_45 : decode cX7_terms 45 = .ok (.getfield 97, 3) := by decide +kernel
theorem dX7_terms_48 : decode cX7_terms 48 = .ok (.iconst 0, 1) := by decide +kernel
theorem dX7_terms_49 : decode cX7_terms 49 = .ok (.iaload, 1) := by decide +kernel
theorem dX7_terms_50 : decode cX7_terms 50 = .ok (.istore_n 3, 1) := by decide +kernel
theorem dX7_terms_51 : decode cX7_terms 51 = .ok (.iload_n 1, 1) := by decide +kernel
theorem dX7_terms_52 : decode cX7_terms 52 = .ok (.iconst 1, 1) := by decide +kernel
theorem dX7_terms_53 : decode cX7_terms 53 = .ok (.if_icmp .ne 7, 3) := by decide +kernel
theorem dX7_terms_56 : decode cX7_terms 56 = .ok (.iload_n 2, 1) := by decide +kernel
theorem dX7_terms_57 : decode cX7_terms 57 = .ok (.goto 12, 3) := by decide +kernel
theorem dX7_terms_60 : decode cX7_terms 60 = .ok (.aload_n 0, 1) := by decide +kernel
theorem dX7_terms_61 : decode cX7_terms 61 = .ok (.getfield 12, 3) := by decide +kernel
theorem dX7_terms_64 : decode cX7_terms 64 = .ok (.getfield 97, 3) := by decide +kernel
theorem dX7_terms_67 : decode cX7_terms 67 = .ok (.iconst 1, 1) := by decide +kernel
theorem dX7_terms_68 : decode cX7_terms 68 = .ok (.iaload, 1) := by decide +kernel
theorem dX7_terms_69 : decode cX7_terms 69 = .ok (.istore 4, 2) := by decide +kernel
theorem dX7_terms_71 : decode cX7_terms 71 = .ok (.iload 4, 2) := by decide +kernel
theorem dX7_terms_73 : decode cX7_terms 73 = .ok (.iload_n 3, 1) := by decide +kernel
theorem dX7_terms_74 : decode cX7_terms 74 = .ok (.if_icmp .le 10, 3) := by decide +kernel
theorem dX7_terms_77 : decode cX7_terms 77 = .ok (.aload_n 0, 1) := by decide +kernel
theorem dX7_terms_78 : decode cX7_terms 78 = .ok (.bipush (-3), 2) := by decide +kernel
theorem dX7_terms_80 : decode cX7_terms 80 = .ok (.invokevirtual 70, 3) := by decide +kernel
theorem dX7_terms_83 : decode cX7_terms 83 = .ok (.ireturn, 1) := by decide +kernel
theorem dX7_terms_84 : decode cX7_terms 84 = .ok (.aload_n 0, 1) := by decide +kernel
theorem dX7_terms_85 : decode cX7_terms 85 = .ok (.getfield 12, 3) := by decide +kernel
theorem dX7_terms_88 : decode cX7_terms 88 = .ok (.getfield 97, 3) := by decide +kernel
theorem dX7_terms_91 : decode cX7_terms 91 = .ok (.iload_n 1, 1) := by decide +kernel
theorem dX7_terms_92 : decode cX7_terms 92 = .ok (.iaload, 1) := by decide +kernel
theorem dX7_terms_93 : decode cX7_terms 93 = .ok (.istore 5, 2) := by decide +kernel
theorem dX7_terms_95 : decode cX7_terms 95 = .ok (.aload_n 0, 1) := by decide +kernel
theorem dX7_terms_96 : decode cX7_terms 96 = .ok (.getfield 12, 3) := by decide +kernel
theorem dX7_terms_99 : decode cX7_terms 99 = .ok (.getfield 97, 3) := by decide +kernel
theorem dX7_terms_102 : decode cX7_terms 102 = .ok (.iload_n 1, 1) := by decide +kernel
theorem dX7_terms_103 : decode cX7_terms 103 = .ok (.iload_n 2, 1) := by decide +kernel
theorem dX7_terms_104 : decode cX7_terms 104 = .ok (.iastore, 1) := by decide +kernel
theorem dX7_terms_105 : decode cX7_terms 105 = .ok (.aload_n 0, 1) := by decide +kernel
theorem dX7_terms_106 : decode cX7_terms 106 = .ok (.iload 5, 2) := by decide +kernel
theorem dX7_terms_108 : decode cX7_terms 108 = .ok (.invokevirtual 77, 3) := by decide +kernel
theorem dX7_terms_111 : decode cX7_terms 111 = .ok (.ireturn, 1) := by decide +kernel
theorem dX7_wind_0 : decode cX7_wind 0 = .ok (.iload_n 1, 1) := by decide +kernel
theorem dX7_wind_1 : decode cX7_wind 1 = .ok (.invokestatic 100, 3) := by decide +kernel
theorem dX7_wind_4 : decode cX7_wind 4 = .ok (.ifCond .eq 23, 3) := by decide +kernel
theorem dX7_wind_7 : decode cX7_wind 7 = .ok (.iload_n 2, 1) := by decide +kernel
theorem dX7_wind_8 : decode cX7_wind 8 = .ok (.iconst 1, 1) := by decide +kernel
theorem dX7_wind_9 : decode cX7_wind 9 = .ok (.bipush 100, 2) := by decide +kernel
theorem dX7_wind_11 : decode cX7_wind 11 = .ok (.invokestatic 80, 3) := by decide +kernel
theorem dX7_wind_14 : decode cX7_wind 14 = .ok (.ifCond .eq 13, 3) := by decide +kernel
theorem dX7_wind_17 : decode cX7_wind 17 = .ok (.iload_n 3, 1) := by decide +kernel
theorem dX7_wind_18 : decode cX7_wind 18 = .ok (.iconst 1, 1) := by decide +kernel
theorem dX7_wind_19 : decode cX7_wind 19 = .ok (.ldc 103, 2) := by decide +kernel
theorem dX7_wind_21 : decode cX7_wind 21 = .ok (.invokestatic 80, 3) := by decide +kernel
theorem dX7_wind_24 : decode cX7_wind 24 = .ok (.ifCond .ne 9, 3) := by decide +kernel
theorem dX7_wind_27 : decode cX7_wind 27 = .ok (.aload_n 0, 1) := by decide +kernel
theorem dX7_wind_28 : decode cX7_wind 28 = .ok (.iconst (-1), 1) := by decide +kernel
theorem dX7_wind_29 : decode cX7_wind 29 = .ok (.invokevirtual 70, 3) := by decide +kernel
theorem dX7_wind_32 : decode cX7_wind 32 = .ok (.ireturn, 1) := by decide +kernel
theorem dX7_wind_33 : decode cX7_wind 33 = .ok (.aload_n 0, 1) := by decide +kernel
theorem dX7_wind_34 : decode cX7_wind 34 = .ok (.getfield 12, 3) := by decide +kernel
theorem dX7_wind_37 : decode cX7_wind 37 = .ok (.getfield 104, 3) := by decide +kernel
theorem dX7_wind_40 : decode cX7_wind 40 = .ok (.invokevirtual 108, 3) := by decide +kernel
theorem dX7_wind_43 : decode cX7_wind 43 = .ok (.ifCond .eq 10, 3) := by decide +kernel
theorem dX7_wind_46 : decode cX7_wind 46 = .ok (.aload_n 0, 1) := by decide +kernel
theorem dX7_wind_47 : decode cX7_wind 47 = .ok (.bipush (-5), 2) := by decide +kernel
theorem dX7_wind_49 : decode cX7_wind 49 = .ok (.invokevirtual 70, 3) := by decide +kernel
theorem dX7_wind_52 : decode cX7_wind 52 = .ok (.ireturn, 1) := by decide +kernel
theorem dX7_wind_53 : decode cX7_wind 53 = .ok (.aload_n 0, 1) := by decide +kernel
theorem dX7_wind_54 : decode cX7_wind 54 = .ok (.getfield 12, 3) := by decide +kernel
theorem dX7_wind_57 : decode cX7_wind 57 = .ok (.getfield 104, 3) := by decide +kernel
theorem dX7_wind_60 : decode cX7_wind 60 = .ok (.invokevirtual 114, 3) := by decide +kernel
theorem dX7_wind_63 : decode cX7_wind 63 = .ok (.aload_n 0, 1) := by decide +kernel
theorem dX7_wind_64 : decode cX7_wind 64 = .ok (.getfield 12, 3) := by decide +kernel
theorem dX7_wind_67 : decode cX7_wind 67 = .ok (.getfield 104, 3) := by decide +kernel
theorem dX7_wind_70 : decode cX7_wind 70 = .ok (.iconst 0, 1) := by decide +kernel
theorem dX7_wind_71 : decode cX7_wind 71 = .ok (.iload_n 1, 1) := by decide +kernel
theorem dX7_wind_72 : decode cX7_wind 72 = .ok (.invokevirtual 117, 3) := by decide +kernel
theorem dX7_wind_75 : decode cX7_wind 75 = .ok (.aload_n 0, 1) := by decide +kernel
theorem dX7_wind_76 : decode cX7_wind 76 = .ok (.getfield 12, 3) := by decide +kernel
theorem dX7_wind_79 : decode cX7_wind 79 = .ok (.getfield 104, 3) := by decide +kernel
theorem dX7_wind_82 : decode cX7_wind 82 = .ok (.iconst 1, 1) := by decide +kernel
theorem dX7_wind_83 : decode cX7_wind 83 = .ok (.iload_n 2, 1) := by decide +kernel
theorem dX7_wind_84 : decode cX7_wind 84 = .ok (.invokevirtual 117, 3) := by decide +kernel
theorem dX7_wind_87 : decode cX7_wind 87 = .ok (.aload_n 0, 1) := by decide +kernel
theorem dX7_wind_88 : decode cX7_wind 88 = .ok (.getfield 12, 3) := by decide +kernel
theorem dX7_wind_91 : decode cX7_wind 91 = .ok (.getfield 104, 3) := by decide +kernel
theorem dX7_wind_94 : decode cX7_wind 94 = .ok (.iconst 2, 1) := by decide +kernel
theorem dX7_wind_95 : decode cX7_wind 95 = .ok (.iload_n 3, 1) := by decide +kernel
theorem dX7_wind_96 : decode cX7_wind 96 = .ok (.invokevirtual 117, 3) := by decide +kernel
theorem dX7_wind_99 : decode cX7_wind 99 = .ok (.aload_n 0, 1) := by decide +kernel
theorem dX7_wind_100 : decode cX7_wind 100 = .ok (.aload_n 0, 1) := by decide +kernel
theorem dX7_wind_101 : decode cX7_wind 101 = .ok (.getfield 12, 3) := by decide +kernel
theorem dX7_wind_104 : decode cX7_wind 104 = .ok (.getfield 104, 3) := by decide +kernel
theorem dX7_wind_107 : decode cX7_wind 107 = .ok (.getfield 121, 3) := by decide +kernel
theorem dX7_wind_110 : decode cX7_wind 110 = .ok (.iconst 1, 1) := by decide +kernel
theorem dX7_wind_111 : decode cX7_wind 111 = .ok (.isub, 1) := by decide +kernel
theorem dX7_wind_112 : decode cX7_wind 112 = .ok (.invokevirtual 77, 3) := by decide +kernel
theorem dX7_wind_115 : decode cX7_wind 115 = .ok (.ireturn, 1) := by decide +kernel
theorem dX7_plate_0 : decode cX7_plate 0 = .ok (.iload_n 1, 1) := by decide +kernel
theorem dX7_plate_1 : decode cX7_plate 1 = .ok (.invokestatic 66, 3) := by decide +kernel
theorem dX7_plate_4 : decode cX7_plate 4 = .ok (.ifCond .eq 12, 3) := by decide +kernel
theorem dX7_plate_7 : decode cX7_plate 7 = .ok (.iload_n 2, 1) := by decide +kernel
theorem dX7_plate_8 : decode cX7_plate 8 = .ok (.iconst 0, 1) := by decide +kernel
theorem dX7_plate_9 : decode cX7_plate 9 = .ok (.iconst 4, 1) := by decide +kernel
theorem dX7_plate_10 : decode cX7_plate 10 = .ok (.invokestatic 80, 3) := by decide +kernel
theorem dX7_plate_13 : decode cX7_plate 13 = .ok (.ifCond .ne 9, 3) := by decide +kernel
theorem dX7_plate_16 : decode cX7_plate 16 = .ok (.aload_n 0, 1) := by decide +kernel
theorem dX7_plate_17 : decode cX7_plate 17 = .ok (.iconst (-1), 1) := by decide +kernel
theorem dX7_plate_18 : decode cX7_plate 18 = .ok (.invokevirtual 70, 3) := by decide +kernel
theorem dX7_plate_21 : decode cX7_plate 21 = .ok (.ireturn, 1) := by decide +kernel
theorem dX7_plate_22 : decode cX7_plate 22 = .ok (.aload_n 0, 1) := by decide +kernel
theorem dX7_plate_23 : decode cX7_plate 23 = .ok (.getfield 12, 3) := by decide +kernel
theorem dX7_plate_26 : decode cX7_plate 26 = .ok (.getfield 124, 3) := by decide +kernel
theorem dX7_plate_29 : decode cX7_plate 29 = .ok (.iload_n 1, 1) := by decide +kernel
theorem dX7_plate_30 : decode cX7_plate 30 = .ok (.iaload, 1) := by decide +kernel
theorem dX7_plate_31 : decode cX7_plate 31 = .ok (.ifCond .ne 10, 3) := by decide +kernel
theorem dX7_plate_34 : decode cX7_plate 34 = .ok (.aload_n 0, 1) := by decide +kernel
theorem dX7_plate_35 : decode cX7_plate 35 = .ok (.bipush (-3), 2) := by decide +kernel
theorem dX7_plate_37 : decode cX7_plate 37 = .ok (.invokevirtual 70, 3) := by decide +kernel
theorem dX7_plate_40 : decode cX7_plate 40 = .ok (.ireturn, 1) := by decide +kernel
theorem dX7_plate_41 : decode cX7_plate 41 = .ok (.aload_n 0, 1) := by decide +kernel
theorem dX7_plate_42 : decode cX7_plate 42 = .ok (.getfield 12, 3) := by decide +kernel
theorem dX7_plate_45 : decode cX7_plate 45 = .ok (.getfield 127, 3) := by decide +kernel
theorem dX7_plate_48 : decode cX7_plate 48 = .ok (.iload_n 1, 1) := by decide +kernel
theorem dX7_plate_49 : decode cX7_plate 49 = .ok (.iaload, 1) := by decide +kernel
theorem dX7_plate_50 : decode cX7_plate 50 = .ok (.istore_n 3, 1) := by decide +kernel
theorem dX7_plate_51 : decode cX7_plate 51 = .ok (.aload_n 0, 1) := by decide +kernel
theorem dX7_plate_52 : decode cX7_plate 52 = .ok (.getfield 12, 3) := by decide +kernel
theorem dX7_plate_55 : decode cX7_plate 55 = .ok (.getfield 127, 3) := by decide +kernel
theorem dX7_plate_58 : decode cX7_plate 58 = .ok (.iload_n 1, 1) := by decide +kernel
theorem dX7_plate_59 : decode cX7_plate 59 = .ok (.iload_n 2, 1) := by decide +kernel
theorem dX7_plate_60 : decode cX7_plate 60 = .ok (.iastore, 1) := by decide +kernel
theorem dX7_plate_61 : decode cX7_plate 61 = .ok (.aload_n 0, 1) := by decide +kernel
theorem dX7_plate_62 : decode cX7_plate 62 = .ok (.iload_n 3, 1) := by decide +kernel
theorem dX7_plate_63 : decode cX7_plate 63 = .ok (.invokevirtual 77, 3) := by decide +kernel
theorem dX7_plate_66 : decode cX7_plate 66 = .ok (.ireturn, 1) := by decide +kernel
theorem dX7_joint_0 : decode cX7_joint 0 = .ok (.iload_n 1, 1) := by decide +kernel
theorem dX7_joint_1 : decode cX7_joint 1 = .ok (.invokestatic 66, 3) := by decide +kernel
theorem dX7_joint_4 : decode cX7_joint 4 = .ok (.ifCond .ne 5, 3) := by decide +kernel
theorem dX7_joint_7 : decode cX7_joint 7 = .ok (.iconst (-1), 1) := by decide +kernel
theorem dX7_joint_8 : decode cX7_joint 8 = .ok (.ireturn, 1) := by decide +kernel
theorem dX7_joint_9 : decode cX7_joint 9 = .ok (.iload_n 2, 1) := by decide +kernel
theorem dX7_joint_10 : decode cX7_joint 10 = .ok (.tableswitch 69 0 3 #[30, 40, 50, 59], 30) := by decide +kernel
theorem dX7_joint_40 : decode cX7_joint 40 = .ok (.aload_n 0, 1) := by decide +kernel
theorem dX7_joint_41 : decode cX7_joint 41 = .ok (.getfield 12, 3) := by decide +kernel
theorem dX7_joint_44 : decode cX7_joint 44 = .ok (.getfield 124, 3) := by decide +kernel
theorem dX7_joint_47 : decode cX7_joint 47 = .ok (.iload_n 1, 1) := by decide +kernel
theorem dX7_joint_48 : decode cX7_joint 48 = .ok (.iaload, 1) := by decide +kernel
theorem dX7_joint_49 : decode cX7_joint 49 = .ok (.ireturn, 1) := by decide +kernel
theorem dX7_joint_50 : decode cX7_joint 50 = .ok (.aload_n 0, 1) := by decide +kernel
theorem dX7_joint_51 : decode cX7_joint 51 = .ok (.getfield 12, 3) := by decide +kernel
theorem dX7_joint_54 : decode cX7_joint 54 = .ok (.getfield 127, 3) := by decide +kernel
theorem dX7_joint_57 : decode cX7_joint 57 = .ok (.iload_n 1, 1) := by decide +kernel
theorem dX7_joint_58 : decode cX7_joint 58 = .ok (.iaload, 1) := by decide +kernel
theorem dX7_joint_59 : decode cX7_joint 59 = .ok (.ireturn, 1) := by decide +kernel
theorem dX7_joint_60 : decode cX7_joint 60 = .ok (.aload_n 0, 1) := by decide +kernel
theorem dX7_joint_61 : decode cX7_joint 61 = .ok (.getfield 12, 3) := by decide +kernel
theorem dX7_joint_64 : decode cX7_joint 64 = .ok (.iload_n 1, 1) := by decide +kernel
theorem dX7_joint_65 : decode cX7_joint 65 = .ok (.invokevirtual 130, 3) := by decide +kernel
theorem dX7_joint_68 : decode cX7_joint 68 = .ok (.ireturn, 1) := by decide +kernel
theorem dX7_joint_69 : decode cX7_joint 69 = .ok (.aload_n 0, 1) := by decide +kernel
theorem dX7_joint_70 : decode cX7_joint 70 = .ok (.getfield 12, 3) := by decide +kernel
theorem dX7_joint_73 : decode cX7_joint 73 = .ok (.getfield 74, 3) := by decide +kernel
theorem dX7_joint_76 : decode cX7_joint 76 = .ok (.iload_n 1, 1) := by decide +kernel
theorem dX7_joint_77 : decode cX7_joint 77 = .ok (.iaload, 1) := by decide +kernel
theorem dX7_joint_78 : decode cX7_joint 78 = .ok (.ireturn, 1) := by decide +kernel
theorem dX7_joint_79 : decode cX7_joint 79 = .ok (.iconst (-1), 1) := by decide +kernel
theorem dX7_joint_80 : decode cX7_joint 80 = .ok (.ireturn, 1) := by decide +kernel
theorem dX7_tension_0 : decode cX7_tension 0 = .ok (.aload_n 0, 1) := by decide +kernel
theorem dX7_tension_1 : decode cX7_tension 1 = .ok (.iload_n 1, 1) := by decide +kernel
theorem dX7_tension_2 : decode cX7_tension 2 = .ok (.iload_n 3, 1) := by decide +kernel
theorem dX7_tension_3 : decode cX7_tension 3 = .ok (.invokevirtual 133, 3) := by decide +kernel
theorem dX7_tension_6 : decode cX7_tension 6 = .ok (.ifCond .eq 10, 3) := by decide +kernel
theorem dX7_tension_9 : decode cX7_tension 9 = .ok (.iload_n 2, 1) := by decide +kernel
theorem dX7_tension_10 : decode cX7_tension 10 = .ok (.invokestatic 66, 3) := by decide +kernel
theorem dX7_tension_13 : decode cX7_tension 13 = .ok (.ifCond .ne 7, 3) := by decide +kernel
theorem dX7_tension_16 : decode cX7_tension 16 = .ok (.ldc2_w 137, 3) := by decide +kernel
theorem dX7_tension_19 : decode cX7_tension 19 = .ok (.lreturn, 1) := by decide +kernel
theorem dX7_tension_20 : decode cX7_tension 20 = .ok (.aload_n 0, 1) := by decide +kernel
theorem dX7_tension_21 : decode cX7_tension 21 = .ok (.getfield 25, 3) := by decide +kernel
theorem dX7_tension_24 : decode cX7_tension 24 = .ok (.invokevirtual 139, 3) := by decide +kernel
theorem dX7_tension_27 : decode cX7_tension 27 = .ok (.aload_n 0, 1) := by decide +kernel
theorem dX7_tension_28 : decode cX7_tension 28 = .ok (.getfield 25, 3) := by decide +kernel
theorem dX7_tension_31 : decode cX7_tension 31 = .ok (.iload_n 1, 1) := by decide +kernel
theorem dX7_tension_32 : decode cX7_tension 32 = .ok (.iload_n 3, 1) := by decide +kernel
theorem dX7_tension_33 : decode cX7_tension 33 = .ok (.invokevirtual 142, 3) := by decide +kernel
theorem dX7_tension_36 : decode cX7_tension 36 = .ok (.aload_n 0, 1) := by decide +kernel
theorem dX7_tension_37 : decode cX7_tension 37 = .ok (.getfield 25, 3) := by decide +kernel
theorem dX7_tension_40 : decode cX7_tension 40 = .ok (.iload_n 2, 1) := by decide +kernel
theorem dX7_tension_41 : decode cX7_tension 41 = .ok (.bipush 8, 2) := by decide +kernel
theorem dX7_tension_43 : decode cX7_tension 43 = .ok (.idiv, 1) := by decide +kernel
theorem dX7_tension_44 : decode cX7_tension 44 = .ok (.iconst 0, 1) := by decide +kernel
theorem dX7_tension_45 : decode cX7_tension 45 = .ok (.invokevirtual 145, 3) := by decide +kernel
theorem dX7_tension_48 : decode cX7_tension 48 = .ok (.ifCond .ne 7, 3) := by decide +kernel
theorem dX7_tension_51 : decode cX7_tension 51 = .ok (.ldc2_w 137, 3) := by decide +kernel
theorem dX7_tension_54 : decode cX7_tension 54 = .ok (.lreturn, 1) := by decide +kernel
theorem dX7_tension_55 : decode cX7_tension 55 = .ok (.aload_n 0, 1) := by decide +kernel
theorem dX7_tension_56 : decode cX7_tension 56 = .ok (.getfield 25, 3) := by decide +kernel
theorem dX7_tension_59 : decode cX7_tension 59 = .ok (.iload_n 2, 1) := by decide +kernel
theorem dX7_tension_60 : decode cX7_tension 60 = .ok (.invokevirtual 148, 3) := by decide +kernel
theorem dX7_tension_63 : decode cX7_tension 63 = .ok (.lreturn, 1) := by decide +kernel
theorem dX7_goes_0 : decode cX7_goes 0 = .ok (.aload_n 0, 1) := by decide +kernel
theorem dX7_goes_1 : decode cX7_goes 1 = .ok (.iload_n 1, 1) := by decide +kernel
theorem dX7_goes_2 : decode cX7_goes 2 = .ok (.iload_n 2, 1) := by decide +kernel
theorem dX7_goes_3 : decode cX7_goes 3 = .ok (.invokevirtual 133, 3) := by decide +kernel
theorem dX7_goes_6 : decode cX7_goes 6 = .ok (.ifCond .ne 5, 3) := by decide +kernel
theorem dX7_goes_9 : decode cX7_goes 9 = .ok (.iconst (-1), 1) := by decide +kernel
theorem dX7_goes_10 : decode cX7_goes 10 = .ok (.ireturn, 1) := by decide +kernel
theorem dX7_goes_11 : decode cX7_goes 11 = .ok (.aload_n 0, 1) := by decide +kernel
theorem dX7_goes_12 : decode cX7_goes 12 = .ok (.getfield 25, 3) := by decide +kernel
theorem dX7_goes_15 : decode cX7_goes 15 = .ok (.invokevirtual 139, 3) := by decide +kernel
theorem dX7_goes_18 : decode cX7_goes 18 = .ok (.aload_n 0, 1) := by decide +kernel
theorem dX7_goes_19 : decode cX7_goes 19 = .ok (.getfield 25, 3) := by decide +kernel
theorem dX7_goes_22 : decode cX7_goes 22 = .ok (.iload_n 1, 1) := by decide +kernel
theorem dX7_goes_23 : decode cX7_goes 23 = .ok (.iload_n 2, 1) := by decide +kernel
theorem dX7_goes_24 : decode cX7_goes 24 = .ok (.invokevirtual 152, 3) := by decide +kernel
theorem dX7_goes_27 : decode cX7_goes 27 = .ok (.iload_n 3, 1) := by decide +kernel
theorem dX7_goes_28 : decode cX7_goes 28 = .ok (.iconst (-1), 1) := by decide +kernel
theorem dX7_goes_29 : decode cX7_goes 29 = .ok (.if_icmp .ne 11, 3) := by decide +kernel
theorem dX7_goes_32 : decode cX7_goes 32 = .ok (.aload_n 0, 1) := by decide +kernel
theorem dX7_goes_33 : decode cX7_goes 33 = .ok (.getfield 25, 3) := by decide +kernel
theorem dX7_goes_36 : decode cX7_goes 36 = .ok (.getfield 155, 3) := by decide +kernel
theorem dX7_goes_39 : decode cX7_goes 39 = .ok (.ireturn, 1) := by decide +kernel
theorem dX7_goes_40 : decode cX7_goes 40 = .ok (.iload_n 3, 1) := by decide +kernel
theorem dX7_goes_41 : decode cX7_goes 41 = .ok (.iconst 0, 1) := by decide +kernel
theorem dX7_goes_42 : decode cX7_goes 42 = .ok (.aload_n 0, 1) := by decide +kernel
theorem dX7_goes_43 : decode cX7_goes 43 = .ok (.getfield 25, 3) := by decide +kernel
theorem dX7_goes_46 : decode cX7_goes 46 = .ok (.getfield 155, 3) := by decide +kernel
theorem dX7_goes_49 : decode cX7_goes 49 = .ok (.iconst 1, 1) := by decide +kernel
theorem dX7_goes_50 : decode cX7_goes 50 = .ok (.isub, 1) := by decide +kernel
theorem dX7_goes_51 : decode cX7_goes 51 = .ok (.invokestatic 80, 3) := by decide +kernel
theorem dX7_goes_54 : decode cX7_goes 54 = .ok (.ifCond .eq 15, 3) := by decide +kernel
theorem dX7_goes_57 : decode cX7_goes 57 = .ok (.aload_n 0, 1) := by decide +kernel
theorem dX7_goes_58 : decode cX7_goes 58 = .ok (.getfield 25, 3) := by decide +kernel
theorem dX7_goes_61 : decode cX7_goes 61 = .ok (.getfield 158, 3) := by decide +kernel
theorem dX7_goes_64 : decode cX7_goes 64 = .ok (.iload_n 3, 1) := by decide +kernel
theorem dX7_goes_65 : decode cX7_goes 65 = .ok (.iaload, 1) := by decide +kernel
theorem dX7_goes_66 : decode cX7_goes 66 = .ok (.goto 4, 3) := by decide +kernel
theorem dX7_goes_69 : decode cX7_goes 69 = .ok (.iconst (-1), 1) := by decide +kernel
theorem dX7_goes_70 : decode cX7_goes 70 = .ok (.ireturn, 1) := by decide +kernel
theorem dX7_falls_0 : decode cX7_falls 0 = .ok (.aload_n 0, 1) := by decide +kernel
theorem dX7_falls_1 : decode cX7_falls 1 = .ok (.iload_n 1, 1) := by decide +kernel
theorem dX7_falls_2 : decode cX7_falls 2 = .ok (.iload_n 2, 1) := by decide +kernel
theorem dX7_falls_3 : decode cX7_falls 3 = .ok (.invokevirtual 133, 3) := by decide +kernel
theorem dX7_falls_6 : decode cX7_falls 6 = .ok (.ifCond .ne 5, 3) := by decide +kernel
theorem dX7_falls_9 : decode cX7_falls 9 = .ok (.iconst (-1), 1) := by decide +kernel
theorem dX7_falls_10 : decode cX7_falls 10 = .ok (.ireturn, 1) := by decide +kernel
theorem dX7_falls_11 : decode cX7_falls 11 = .ok (.aload_n 0, 1) := by decide +kernel
theorem dX7_falls_12 : decode cX7_falls 12 = .ok (.getfield 25, 3) := by decide +kernel
theorem dX7_falls_15 : decode cX7_falls 15 = .ok (.invokevirtual 139, 3) := by decide +kernel
theorem dX7_falls_18 : decode cX7_falls 18 = .ok (.aload_n 0, 1) := by decide +kernel
theorem dX7_falls_19 : decode cX7_falls 19 = .ok (.getfield 25, 3) := by decide +kernel
theorem dX7_falls_22 : decode cX7_falls 22 = .ok (.iload_n 1, 1) := by decide +kernel
theorem dX7_falls_23 : decode cX7_falls 23 = .ok (.iload_n 2, 1) := by decide +kernel
theorem dX7_falls_24 : decode cX7_falls 24 = .ok (.invokevirtual 152, 3) := by decide +kernel
theorem dX7_falls_27 : decode cX7_falls 27 = .ok (.aload_n 0, 1) := by decide +kernel
theorem dX7_falls_28 : decode cX7_falls 28 = .ok (.getfield 25, 3) := by decide +kernel
theorem dX7_falls_31 : decode cX7_falls 31 = .ok (.getfield 161, 3) := by decide +kernel
theorem dX7_falls_34 : decode cX7_falls 34 = .ok (.ireturn, 1) := by decide +kernel
theorem dX7_feed_0 : decode cX7_feed 0 = .ok (.aload_n 0, 1) := by decide +kernel
theorem dX7_feed_1 : decode cX7_feed 1 = .ok (.getfield 56, 3) := by decide +kernel
theorem dX7_feed_4 : decode cX7_feed 4 = .ok (.bipush 20, 2) := by decide +kernel
theorem dX7_feed_6 : decode cX7_feed 6 = .ok (.iadd, 1) := by decide +kernel
theorem dX7_feed_7 : decode cX7_feed 7 = .ok (.sipush 400, 3) := by decide +kernel
theorem dX7_feed_10 : decode cX7_feed 10 = .ok (.if_icmp .le 5, 3) := by decide +kernel
theorem dX7_feed_13 : decode cX7_feed 13 = .ok (.iconst (-1), 1) := by decide +kernel
theorem dX7_feed_14 : decode cX7_feed 14 = .ok (.ireturn, 1) := by decide +kernel
theorem dX7_feed_15 : decode cX7_feed 15 = .ok (.aload_n 0, 1) := by decide +kernel
theorem dX7_feed_16 : decode cX7_feed 16 = .ok (.iload_n 1, 1) := by decide +kernel
theorem dX7_feed_17 : decode cX7_feed 17 = .ok (.invokevirtual 164, 3) := by decide +kernel
theorem dX7_feed_20 : decode cX7_feed 20 = .ok (.aload_n 0, 1) := by decide +kernel
theorem dX7_feed_21 : decode cX7_feed 21 = .ok (.iload_n 2, 1) := by decide +kernel
theorem dX7_feed_22 : decode cX7_feed 22 = .ok (.invokevirtual 164, 3) := by decide +kernel
theorem dX7_feed_25 : decode cX7_feed 25 = .ok (.aload_n 0, 1) := by decide +kernel
theorem dX7_feed_26 : decode cX7_feed 26 = .ok (.iload_n 3, 1) := by decide +kernel
theorem dX7_feed_27 : decode cX7_feed 27 = .ok (.invokevirtual 164, 3) := by decide +kernel
theorem dX7_feed_30 : decode cX7_feed 30 = .ok (.aload_n 0, 1) := by decide +kernel
theorem dX7_feed_31 : decode cX7_feed 31 = .ok (.iload 4, 2) := by decide +kernel
theorem dX7_feed_33 : decode cX7_feed 33 = .ok (.invokevirtual 164, 3) := by decide +kernel
theorem dX7_feed_36 : decode cX7_feed 36 = .ok (.aload_n 0, 1) := by decide +kernel
theorem dX7_feed_37 : decode cX7_feed 37 = .ok (.iload 5, 2) := by decide +kernel
theorem dX7_feed_39 : decode cX7_feed 39 = .ok (.invokevirtual 164, 3) := by decide +kernel
theorem dX7_feed_42 : decode cX7_feed 42 = .ok (.aload_n 0, 1) := by decide +kernel
theorem dX7_feed_43 : decode cX7_feed 43 = .ok (.getfield 56, 3) := by decide +kernel
theorem dX7_feed_46 : decode cX7_feed 46 = .ok (.ireturn, 1) := by decide +kernel
theorem dX7_end_0 : decode cX7_end 0 = .ok (.iload_n 1, 1) := by decide +kernel
theorem dX7_end_1 : decode cX7_end 1 = .ok (.iconst 0, 1) := by decide +kernel
theorem dX7_end_2 : decode cX7_end 2 = .ok (.aload_n 0, 1) := by decide +kernel
theorem dX7_end_3 : decode cX7_end 3 = .ok (.getfield 56, 3) := by decide +kernel
theorem dX7_end_6 : decode cX7_end 6 = .ok (.invokestatic 80, 3) := by decide +kernel
theorem dX7_end_9 : decode cX7_end 9 = .ok (.ifCond .ne 5, 3) := by decide +kernel
theorem dX7_end_12 : decode cX7_end 12 = .ok (.iconst (-1), 1) := by decide +kernel
theorem dX7_end_13 : decode cX7_end 13 = .ok (.ireturn, 1) := by decide +kernel
theorem dX7_end_14 : decode cX7_end 14 = .ok (.aload_n 0, 1) := by decide +kernel
theorem dX7_end_15 : decode cX7_end 15 = .ok (.iload_n 1, 1) := by decide +kernel
theorem dX7_end_16 : decode cX7_end 16 = .ok (.putfield 56, 3) := by decide +kernel
theorem dX7_end_19 : decode cX7_end 19 = .ok (.iload_n 1, 1) := by decide +kernel
theorem dX7_end_20 : decode cX7_end 20 = .ok (.ireturn, 1) := by decide +kernel
theorem dX7_rule_0 : decode cX7_rule 0 = .ok (.aload_n 0, 1) := by decide +kernel
theorem dX7_rule_1 : decode cX7_rule 1 = .ok (.invokevirtual 168, 3) := by decide +kernel
theorem dX7_rule_4 : decode cX7_rule 4 = .ok (.istore_n 1, 1) := by decide +kernel
theorem dX7_rule_5 : decode cX7_rule 5 = .ok (.aload_n 0, 1) := by decide +kernel
theorem dX7_rule_6 : decode cX7_rule 6 = .ok (.getfield 12, 3) := by decide +kernel
theorem dX7_rule_9 : decode cX7_rule 9 = .ok (.getfield 172, 3) := by decide +kernel
theorem dX7_rule_12 : decode cX7_rule 12 = .ok (.bipush 8, 2) := by decide +kernel
theorem dX7_rule_14 : decode cX7_rule 14 = .ok (.if_icmp .lt 10, 3) := by decide +kernel
theorem dX7_rule_17 : decode cX7_rule 17 = .ok (.aload_n 0, 1) := by decide +kernel
theorem dX7_rule_18 : decode cX7_rule 18 = .ok (.bipush (-5), 2) := by decide +kernel
theorem dX7_rule_20 : decode cX7_rule 20 = .ok (.invokevirtual 70, 3) := by decide +kernel
theorem dX7_rule_23 : decode cX7_rule 23 = .ok (.ireturn, 1) := by decide +kernel
theorem dX7_rule_24 : decode cX7_rule 24 = .ok (.aload_n 0, 1) := by decide +kernel
theorem dX7_rule_25 : decode cX7_rule 25 = .ok (.getfield 41, 3) := by decide +kernel
theorem dX7_rule_28 : decode cX7_rule 28 = .ok (.aload_n 0, 1) := by decide +kernel
theorem dX7_rule_29 : decode cX7_rule 29 = .ok (.getfield 52, 3) := by decide +kernel
theorem dX7_rule_32 : decode cX7_rule 32 = .ok (.iload_n 1, 1) := by decide +kernel
theorem dX7_rule_33 : decode cX7_rule 33 = .ok (.invokevirtual 175, 3) := by decide +kernel
theorem dX7_rule_36 : decode cX7_rule 36 = .ok (.astore_n 2, 1) := by decide +kernel
theorem dX7_rule_37 : decode cX7_rule 37 = .ok (.aload_n 2, 1) := by decide +kernel
theorem dX7_rule_38 : decode cX7_rule 38 = .ok (.ifnonnull 21, 3) := by decide +kernel
theorem dX7_rule_41 : decode cX7_rule 41 = .ok (.aload_n 0, 1) := by decide +kernel
theorem dX7_rule_42 : decode cX7_rule 42 = .ok (.aload_n 0, 1) := by decide +kernel
theorem dX7_rule_43 : decode cX7_rule 43 = .ok (.getfield 41, 3) := by decide +kernel
theorem dX7_rule_46 : decode cX7_rule 46 = .ok (.getfield 179, 3) := by decide +kernel
theorem dX7_rule_49 : decode cX7_rule 49 = .ok (.putfield 60, 3) := by decide +kernel
theorem dX7_rule_52 : decode cX7_rule 52 = .ok (.aload_n 0, 1) := by decide +kernel
theorem dX7_rule_53 : decode cX7_rule 53 = .ok (.bipush (-6), 2) := by decide +kernel
theorem dX7_rule_55 : decode cX7_rule 55 = .ok (.invokevirtual 70, 3) := by decide +kernel
theorem dX7_rule_58 : decode cX7_rule 58 = .ok (.ireturn, 1) := by decide +kernel
theorem dX7_rule_59 : decode cX7_rule 59 = .ok (.aload_n 0, 1) := by decide +kernel
theorem dX7_rule_60 : decode cX7_rule 60 = .ok (.iconst (-1), 1) := by decide +kernel
theorem dX7_rule_61 : decode cX7_rule 61 = .ok (.putfield 60, 3) := by decide +kernel
theorem dX7_rule_64 : decode cX7_rule 64 = .ok (.aload_n 0, 1) := by decide +kernel
theorem dX7_rule_65 : decode cX7_rule 65 = .ok (.getfield 12, 3) := by decide +kernel
theorem dX7_rule_68 : decode cX7_rule 68 = .ok (.getfield 182, 3) := by decide +kernel
theorem dX7_rule_71 : decode cX7_rule 71 = .ok (.aload_n 0, 1) := by decide +kernel
theorem dX7_rule_72 : decode cX7_rule 72 = .ok (.getfield 12, 3) := by decide +kernel
theorem dX7_rule_75 : decode cX7_rule 75 = .ok (.getfield 172, 3) := by decide +kernel
theorem dX7_rule_78 : decode cX7_rule 78 = .ok (.aload_n 2, 1) := by decide +kernel
theorem dX7_rule_79 : decode cX7_rule 79 = .ok (.aastore, 1) := by decide +kernel
theorem dX7_rule_80 : decode cX7_rule 80 = .ok (.aload_n 0, 1) := by decide +kernel
theorem dX7_rule_81 : decode cX7_rule 81 = .ok (.getfield 12, 3) := by decide +kernel
theorem dX7_rule_84 : decode cX7_rule 84 = .ok (.dup, 1) := by decide +kernel
theorem dX7_rule_85 : decode cX7_rule 85 = .ok (.getfield 172, 3) := by decide +kernel
theorem dX7_rule_88 : decode cX7_rule 88 = .ok (.iconst 1, 1) := by decide +kernel
theorem dX7_rule_89 : decode cX7_rule 89 = .ok (.iadd, 1) := by decide +kernel
theorem dX7_rule_90 : decode cX7_rule 90 = .ok (.putfield 172, 3) := by decide +kernel
theorem dX7_rule_93 : decode cX7_rule 93 = .ok (.aload_n 0, 1) := by decide +kernel
theorem dX7_rule_94 : decode cX7_rule 94 = .ok (.aload_n 0, 1) := by decide +kernel
theorem dX7_rule_95 : decode cX7_rule 95 = .ok (.getfield 12, 3) := by decide +kernel
theorem dX7_rule_98 : decode cX7_rule 98 = .ok (.getfield 172, 3) := by decide +kernel
theorem dX7_rule_101 : decode cX7_rule 101 = .ok (.iconst 1, 1) := by decide +kernel
theorem dX7_rule_102 : decode cX7_rule 102 = .ok (.isub, 1) := by decide +kernel
theorem dX7_rule_103 : decode cX7_rule 103 = .ok (.invokevirtual 77, 3) := by decide +kernel
theorem dX7_rule_106 : decode cX7_rule 106 = .ok (.ireturn, 1) := by decide +kernel
theorem dX7_fault_0 : decode cX7_fault 0 = .ok (.aload_n 0, 1) := by decide +kernel
theorem dX7_fault_1 : decode cX7_fault 1 = .ok (.getfield 60, 3) := by decide +kernel
theorem dX7_fault_4 : decode cX7_fault 4 = .ok (.ireturn, 1) := by decide +kernel
theorem dX7_need_0 : decode cX7_need 0 = .ok (.aload_n 0, 1) := by decide +kernel
theorem dX7_need_1 : decode cX7_need 1 = .ok (.iload_n 1, 1) := by decide +kernel
theorem dX7_need_2 : decode cX7_need 2 = .ok (.invokevirtual 186, 3) := by decide +kernel
theorem dX7_need_5 : decode cX7_need 5 = .ok (.astore 4, 2) := by decide +kernel
theorem dX7_need_7 : decode cX7_need 7 = .ok (.aload 4, 2) := by decide +kernel
theorem dX7_need_9 : decode cX7_need 9 = .ok (.ifnull 17, 3) := by decide +kernel
theorem dX7_need_12 : decode cX7_need 12 = .ok (.iload_n 2, 1) := by decide +kernel
theorem dX7_need_13 : decode cX7_need 13 = .ok (.invokestatic 66, 3) := by decide +kernel
theorem dX7_need_16 : decode cX7_need 16 = .ok (.ifCond .eq 10, 3) := by decide +kernel
theorem dX7_need_19 : decode cX7_need 19 = .ok (.iload_n 3, 1) := by decide +kernel
theorem dX7_need_20 : decode cX7_need 20 = .ok (.invokestatic 190, 3) := by decide +kernel
theorem dX7_need_23 : decode cX7_need 23 = .ok (.ifCond .ne 5, 3) := by decide +kernel
theorem dX7_need_26 : decode cX7_need 26 = .ok (.iconst (-1), 1) := by decide +kernel
theorem dX7_need_27 : decode cX7_need 27 = .ok (.ireturn, 1) := by decide +kernel
theorem dX7_need_28 : decode cX7_need 28 = .ok (.aload_n 0, 1) := by decide +kernel
theorem dX7_need_29 : decode cX7_need 29 = .ok (.aload 4, 2) := by decide +kernel
theorem dX7_need_31 : decode cX7_need 31 = .ok (.iload_n 2, 1) := by decide +kernel
theorem dX7_need_32 : decode cX7_need 32 = .ok (.iload_n 3, 1) := by decide +kernel
theorem dX7_need_33 : decode cX7_need 33 = .ok (.invokevirtual 193, 3) := by decide +kernel
theorem dX7_need_36 : decode cX7_need 36 = .ok (.ireturn, 1) := by decide +kernel
theorem dX7_step_0 : decode cX7_step 0 = .ok (.iload_n 1, 1) := by decide +kernel
theorem dX7_step_1 : decode cX7_step 1 = .ok (.invokestatic 190, 3) := by decide +kernel
theorem dX7_step_4 : decode cX7_step 4 = .ok (.ifCond .eq 27, 3) := by decide +kernel
theorem dX7_step_7 : decode cX7_step 7 = .ok (.iload_n 2, 1) := by decide +kernel
theorem dX7_step_8 : decode cX7_step 8 = .ok (.invokestatic 66, 3) := by decide +kernel
theorem dX7_step_11 : decode cX7_step 11 = .ok (.ifCond .eq 20, 3) := by decide +kernel
theorem dX7_step_14 : decode cX7_step 14 = .ok (.iload_n 3, 1) := by decide +kernel
theorem dX7_step_15 : decode cX7_step 15 = .ok (.iconst 0, 1) := by decide +kernel
theorem dX7_step_16 : decode cX7_step 16 = .ok (.iconst 1, 1) := by decide +kernel
theorem dX7_step_17 : decode cX7_step 17 = .ok (.invokestatic 80, 3) := by decide +kernel
theorem dX7_step_20 : decode cX7_step 20 = .ok (.ifCond .eq 11, 3) := by decide +kernel
theorem dX7_step_23 : decode cX7_step 23 = .ok (.iload 4, 2) := by decide +kernel
theorem dX7_step_25 : decode cX7_step 25 = .ok (.invokestatic 197, 3) := by decide +kernel
theorem dX7_step_28 : decode cX7_step 28 = .ok (.ifCond .ne 9, 3) := by decide +kernel
theorem dX7_step_31 : decode cX7_step 31 = .ok (.aload_n 0, 1) := by decide +kernel
theorem dX7_step_32 : decode cX7_step 32 = .ok (.iconst (-1), 1) := by decide +kernel
theorem dX7_step_33 : decode cX7_step 33 = .ok (.invokevirtual 70, 3) := by decide +kernel
theorem dX7_step_36 : decode cX7_step 36 = .ok (.ireturn, 1) := by decide +kernel
theorem dX7_step_37 : decode cX7_step 37 = .ok (.aload_n 0, 1) := by decide +kernel
theorem dX7_step_38 : decode cX7_step 38 = .ok (.iload 5, 2) := by decide +kernel
theorem dX7_step_40 : decode cX7_step 40 = .ok (.invokevirtual 186, 3) := by decide +kernel
theorem dX7_step_43 : decode cX7_step 43 = .ok (.astore 6, 2) := by decide +kernel
theorem dX7_step_45 : decode cX7_step 45 = .ok (.aload 6, 2) := by decide +kernel
theorem dX7_step_47 : decode cX7_step 47 = .ok (.ifnonnull 10, 3) := by decide +kernel
theorem dX7_step_50 : decode cX7_step 50 = .ok (.aload_n 0, 1) := by decide +kernel
theorem dX7_step_51 : decode cX7_step 51 = .ok (.bipush (-2), 2) := by decide +kernel
theorem dX7_step_53 : decode cX7_step 53 = .ok (.invokevirtual 70, 3) := by decide +kernel
theorem dX7_step_56 : decode cX7_step 56 = .ok (.ireturn, 1) := by decide +kernel
theorem dX7_step_57 : decode cX7_step 57 = .ok (.aload_n 0, 1) := by decide +kernel
theorem dX7_step_58 : decode cX7_step 58 = .ok (.getfield 12, 3) := by decide +kernel
theorem dX7_step_61 : decode cX7_step 61 = .ok (.getfield 200, 3) := by decide +kernel
theorem dX7_step_64 : decode cX7_step 64 = .ok (.astore 7, 2) := by decide +kernel
theorem dX7_step_66 : decode cX7_step 66 = .ok (.aload 7, 2) := by decide +kernel
theorem dX7_step_68 : decode cX7_step 68 = .ok (.getfield 121, 3) := by decide +kernel
theorem dX7_step_71 : decode cX7_step 71 = .ok (.ifCond .le 27, 3) := by decide +kernel
theorem dX7_step_74 : decode cX7_step 74 = .ok (.iload_n 1, 1) := by decide +kernel
theorem dX7_step_75 : decode cX7_step 75 = .ok (.aload 7, 2) := by decide +kernel
theorem dX7_step_77 : decode cX7_step 77 = .ok (.aload 7, 2) := by decide +kernel
theorem dX7_step_79 : decode cX7_step 79 = .ok (.getfield 121, 3) := by decide +kernel
theorem dX7_step_82 : decode cX7_step 82 = .ok (.iconst 1, 1) := by decide +kernel
theorem dX7_step_83 : decode cX7_step 83 = .ok (.isub, 1) := by decide +kernel
theorem dX7_step_84 : decode cX7_step 84 = .ok (.iconst 0, 1) := by decide +kernel
theorem dX7_step_85 : decode cX7_step 85 = .ok (.invokevirtual 203, 3) := by decide +kernel
theorem dX7_step_88 : decode cX7_step 88 = .ok (.if_icmp .ge 10, 3) := by decide +kernel
theorem dX7_step_91 : decode cX7_step 91 = .ok (.aload_n 0, 1) := by decide +kernel
theorem dX7_step_92 : decode cX7_step 92 = .ok (.bipush (-3), 2) := by decide +kernel
theorem dX7_step_94 : decode cX7_step 94 = .ok (.invokevirtual 70, 3) := by decide +kernel
theorem dX7_step_97 : decode cX7_step 97 = .ok (.ireturn, 1) := by decide +kernel
theorem dX7_step_98 : decode cX7_step 98 = .ok (.aload 7, 2) := by decide +kernel
theorem dX7_step_100 : decode cX7_step 100 = .ok (.invokevirtual 108, 3) := by decide +kernel
theorem dX7_step_103 : decode cX7_step 103 = .ok (.ifCond .eq 10, 3) := by decide +kernel
theorem dX7_step_106 : decode cX7_step 106 = .ok (.aload_n 0, 1) := by decide +kernel
theorem dX7_step_107 : decode cX7_step 107 = .ok (.bipush (-5), 2) := by decide +kernel
theorem dX7_step_109 : decode cX7_step 109 = .ok (.invokevirtual 70, 3) := by decide +kernel
theorem dX7_step_112 : decode cX7_step 112 = .ok (.ireturn, 1) := by decide +kernel
theorem dX7_step_113 : decode cX7_step 113 = .ok (.aload_n 0, 1) := by decide +kernel
theorem dX7_step_114 : decode cX7_step 114 = .ok (.getfield 12, 3) := by decide +kernel
theorem dX7_step_117 : decode cX7_step 117 = .ok (.getfield 124, 3) := by decide +kernel
theorem dX7_step_120 : decode cX7_step 120 = .ok (.iload_n 2, 1) := by decide +kernel
theorem dX7_step_121 : decode cX7_step 121 = .ok (.iload_n 3, 1) := by decide +kernel
theorem dX7_step_122 : decode cX7_step 122 = .ok (.iastore, 1) := by decide +kernel
theorem dX7_step_123 : decode cX7_step 123 = .ok (.aload_n 0, 1) := by decide +kernel
theorem dX7_step_124 : decode cX7_step 124 = .ok (.getfield 12, 3) := by decide +kernel
theorem dX7_step_127 : decode cX7_step 127 = .ok (.getfield 127, 3) := by decide +kernel
theorem dX7_step_130 : decode cX7_step 130 = .ok (.iload_n 2, 1) := by decide +kernel
theorem dX7_step_131 : decode cX7_step 131 = .ok (.iconst 0, 1) := by decide +kernel
theorem dX7_step_132 : decode cX7_step 132 = .ok (.iastore, 1) := by decide +kernel
theorem dX7_step_133 : decode cX7_step 133 = .ok (.aload_n 0, 1) := by decide +kernel
theorem dX7_step_134 : decode cX7_step 134 = .ok (.getfield 12, 3) := by decide +kernel
theorem dX7_step_137 : decode cX7_step 137 = .ok (.iload_n 2, 1) := by decide +kernel
theorem dX7_step_138 : decode cX7_step 138 = .ok (.invokevirtual 130, 3) := by decide +kernel
theorem dX7_step_141 : decode cX7_step 141 = .ok (.aload_n 0, 1) := by decide +kernel
theorem dX7_step_142 : decode cX7_step 142 = .ok (.aload 6, 2) := by decide +kernel
theorem dX7_step_144 : decode cX7_step 144 = .ok (.iload_n 2, 1) := by decide +kernel
theorem dX7_step_145 : decode cX7_step 145 = .ok (.iload_n 1, 1) := by decide +kernel
theorem dX7_step_146 : decode cX7_step 146 = .ok (.invokevirtual 193, 3) := by decide +kernel
theorem dX7_step_149 : decode cX7_step 149 = .ok (.if_icmp .lt 7, 3) := by decide +kernel
theorem dX7_step_152 : decode cX7_step 152 = .ok (.iconst 1, 1) := by decide +kernel
theorem dX7_step_153 : decode cX7_step 153 = .ok (.goto 4, 3) := by decide +kernel
theorem dX7_step_156 : decode cX7_step 156 = .ok (.iconst 0, 1) := by decide +kernel
theorem dX7_step_157 : decode cX7_step 157 = .ok (.istore 8, 2) := by decide +kernel
theorem dX7_step_159 : decode cX7_step 159 = .ok (.aload 7, 2) := by decide +kernel
theorem dX7_step_161 : decode cX7_step 161 = .ok (.invokevirtual 114, 3) := by decide +kernel
theorem dX7_step_164 : decode cX7_step 164 = .ok (.aload 7, 2) := by decide +kernel
theorem dX7_step_166 : decode cX7_step 166 = .ok (.iconst 0, 1) := by decide +kernel
theorem dX7_step_167 : decode cX7_step 167 = .ok (.iload_n 1, 1) := by decide +kernel
theorem dX7_step_168 : decode cX7_step 168 = .ok (.invokevirtual 117, 3) := by decide +kernel
theorem dX7_step_171 : decode cX7_step 171 = .ok (.aload 7, 2) := by decide +kernel
theorem dX7_step_173 : decode cX7_step 173 = .ok (.iconst 1, 1) := by decide +kernel
theorem dX7_step_174 : decode cX7_step 174 = .ok (.iload_n 2, 1) := by decide +kernel
theorem dX7_step_175 : decode cX7_step 175 = .ok (.invokevirtual 117, 3) := by decide +kernel
theorem dX7_step_178 : decode cX7_step 178 = .ok (.aload 7, 2) := by decide +kernel
theorem dX7_step_180 : decode cX7_step 180 = .ok (.iconst 2, 1) := by decide +kernel
theorem dX7_step_181 : decode cX7_step 181 = .ok (.iload_n 3, 1) := by decide +kernel
theorem dX7_step_182 : decode cX7_step 182 = .ok (.invokevirtual 117, 3) := by decide +kernel
theorem dX7_step_185 : decode cX7_step 185 = .ok (.aload 7, 2) := by decide +kernel
theorem dX7_step_187 : decode cX7_step 187 = .ok (.iconst 3, 1) := by decide +kernel
theorem dX7_step_188 : decode cX7_step 188 = .ok (.iload 4, 2) := by decide +kernel
theorem dX7_step_190 : decode cX7_step 190 = .ok (.invokevirtual 117, 3) := by decide +kernel
theorem dX7_step_193 : decode cX7_step 193 = .ok (.aload 7, 2) := by decide +kernel
theorem dX7_step_195 : decode cX7_step 195 = .ok (.iconst 4, 1) := by decide +kernel
theorem dX7_step_196 : decode cX7_step 196 = .ok (.iload 5, 2) := by decide +kernel
theorem dX7_step_198 : decode cX7_step 198 = .ok (.invokevirtual 117, 3) := by decide +kernel
theorem dX7_step_201 : decode cX7_step 201 = .ok (.aload 7, 2) := by decide +kernel
theorem dX7_step_203 : decode cX7_step 203 = .ok (.iconst 5, 1) := by decide +kernel
theorem dX7_step_204 : decode cX7_step 204 = .ok (.iload 8, 2) := by decide +kernel
theorem dX7_step_206 : decode cX7_step 206 = .ok (.invokevirtual 117, 3) := by decide +kernel
theorem dX7_step_209 : decode cX7_step 209 = .ok (.aload_n 0, 1) := by decide +kernel
theorem dX7_step_210 : decode cX7_step 210 = .ok (.iload 8, 2) := by decide +kernel
theorem dX7_step_212 : decode cX7_step 212 = .ok (.invokevirtual 77, 3) := by decide +kernel
theorem dX7_step_215 : decode cX7_step 215 = .ok (.ireturn, 1) := by decide +kernel
theorem dX7_drawing_0 : decode cX7_drawing 0 = .ok (.iload_n 1, 1) := by decide +kernel
theorem dX7_drawing_1 : decode cX7_drawing 1 = .ok (.iconst 0, 1) := by decide +kernel
theorem dX7_drawing_2 : decode cX7_drawing 2 = .ok (.aload_n 0, 1) := by decide +kernel
theorem dX7_drawing_3 : decode cX7_drawing 3 = .ok (.getfield 12, 3) := by decide +kernel
theorem dX7_drawing_6 : decode cX7_drawing 6 = .ok (.getfield 200, 3) := by decide +kernel
theorem dX7_drawing_9 : decode cX7_drawing 9 = .ok (.getfield 121, 3) := by decide +kernel
theorem dX7_drawing_12 : decode cX7_drawing 12 = .ok (.iconst 1, 1) := by decide +kernel
theorem dX7_drawing_13 : decode cX7_drawing 13 = .ok (.isub, 1) := by decide +kernel
theorem dX7_drawing_14 : decode cX7_drawing 14 = .ok (.invokestatic 80, 3) := by decide +kernel
theorem dX7_drawing_17 : decode cX7_drawing 17 = .ok (.ifCond .eq 12, 3) := by decide +kernel
theorem dX7_drawing_20 : decode cX7_drawing 20 = .ok (.iload_n 2, 1) := by decide +kernel
theorem dX7_drawing_21 : decode cX7_drawing 21 = .ok (.iconst 0, 1) := by decide +kernel
theorem dX7_drawing_22 : decode cX7_drawing 22 = .ok (.iconst 5, 1) := by decide +kernel
theorem dX7_drawing_23 : decode cX7_drawing 23 = .ok (.invokestatic 80, 3) := by decide +kernel
theorem dX7_drawing_26 : decode cX7_drawing 26 = .ok (.ifCond .ne 5, 3) := by decide +kernel
theorem dX7_drawing_29 : decode cX7_drawing 29 = .ok (.iconst (-1), 1) := by decide +kernel
theorem dX7_drawing_30 : decode cX7_drawing 30 = .ok (.ireturn, 1) := by decide +kernel
theorem dX7_drawing_31 : decode cX7_drawing 31 = .ok (.aload_n 0, 1) := by decide +kernel
theorem dX7_drawing_32 : decode cX7_drawing 32 = .ok (.getfield 12, 3) := by decide +kernel
theorem dX7_drawing_35 : decode cX7_drawing 35 = .ok (.getfield 200, 3) := by decide +kernel
theorem dX7_drawing_38 : decode cX7_drawing 38 = .ok (.iload_n 1, 1) := by decide +kernel
theorem dX7_drawing_39 : decode cX7_drawing 39 = .ok (.iload_n 2, 1) := by decide +kernel
theorem dX7_drawing_40 : decode cX7_drawing 40 = .ok (.invokevirtual 203, 3) := by decide +kernel
theorem dX7_drawing_43 : decode cX7_drawing 43 = .ok (.ireturn, 1) := by decide +kernel
theorem dX7_saw_0 : decode cX7_saw 0 = .ok (.aload_n 0, 1) := by decide +kernel
theorem dX7_saw_1 : decode cX7_saw 1 = .ok (.getfield 25, 3) := by decide +kernel
theorem dX7_saw_4 : decode cX7_saw 4 = .ok (.invokevirtual 139, 3) := by decide +kernel
theorem dX7_saw_7 : decode cX7_saw 7 = .ok (.aload_n 0, 1) := by decide +kernel
theorem dX7_saw_8 : decode cX7_saw 8 = .ok (.getfield 25, 3) := by decide +kernel
theorem dX7_saw_11 : decode cX7_saw 11 = .ok (.getfield 207, 3) := by decide +kernel
theorem dX7_saw_14 : decode cX7_saw 14 = .ok (.aload_n 0, 1) := by decide +kernel
theorem dX7_saw_15 : decode cX7_saw 15 = .ok (.getfield 12, 3) := by decide +kernel
theorem dX7_saw_18 : decode cX7_saw 18 = .ok (.getfield 97, 3) := by decide +kernel
theorem dX7_saw_21 : decode cX7_saw 21 = .ok (.iconst 0, 1) := by decide +kernel
theorem dX7_saw_22 : decode cX7_saw 22 = .ok (.iaload, 1) := by decide +kernel
theorem dX7_saw_23 : decode cX7_saw 23 = .ok (.invokestatic 210, 3) := by decide +kernel
theorem dX7_saw_26 : decode cX7_saw 26 = .ok (.aload_n 0, 1) := by decide +kernel
theorem dX7_saw_27 : decode cX7_saw 27 = .ok (.getfield 25, 3) := by decide +kernel
theorem dX7_saw_30 : decode cX7_saw 30 = .ok (.ldc 216, 2) := by decide +kernel
theorem dX7_saw_32 : decode cX7_saw 32 = .ok (.invokevirtual 217, 3) := by decide +kernel
theorem dX7_saw_35 : decode cX7_saw 35 = .ok (.istore_n 1, 1) := by decide +kernel
theorem dX7_saw_36 : decode cX7_saw 36 = .ok (.iconst 0, 1) := by decide +kernel
theorem dX7_saw_37 : decode cX7_saw 37 = .ok (.istore_n 2, 1) := by decide +kernel
theorem dX7_saw_38 : decode cX7_saw 38 = .ok (.iload_n 2, 1) := by decide +kernel
theorem dX7_saw_39 : decode cX7_saw 39 = .ok (.aload_n 0, 1) := by decide +kernel
theorem dX7_saw_40 : decode cX7_saw 40 = .ok (.getfield 12, 3) := by decide +kernel
theorem dX7_saw_43 : decode cX7_saw 43 = .ok (.getfield 200, 3) := by decide +kernel
theorem dX7_saw_46 : decode cX7_saw 46 = .ok (.getfield 121, 3) := by decide +kernel
theorem dX7_saw_49 : decode cX7_saw 49 = .ok (.if_icmp .ge 98, 3) := by decide +kernel
theorem dX7_saw_52 : decode cX7_saw 52 = .ok (.aload_n 0, 1) := by decide +kernel
theorem dX7_saw_53 : decode cX7_saw 53 = .ok (.getfield 12, 3) := by decide +kernel
theorem dX7_saw_56 : decode cX7_saw 56 = .ok (.getfield 200, 3) := by decide +kernel
theorem dX7_saw_59 : decode cX7_saw 59 = .ok (.iload_n 2, 1) := by decide +kernel
theorem dX7_saw_60 : decode cX7_saw 60 = .ok (.iconst 1, 1) := by decide +kernel
theorem dX7_saw_61 : decode cX7_saw 61 = .ok (.invokevirtual 203, 3) := by decide +kernel
theorem dX7_saw_64 : decode cX7_saw 64 = .ok (.istore_n 3, 1) := by decide +kernel
theorem dX7_saw_65 : decode cX7_saw 65 = .ok (.iload_n 3, 1) := by decide +kernel
theorem dX7_saw_66 : decode cX7_saw 66 = .ok (.invokestatic 66, 3) := by decide +kernel
theorem dX7_saw_69 : decode cX7_saw 69 = .ok (.ifCond .ne 6, 3) := by decide +kernel
theorem dX7_saw_72 : decode cX7_saw 72 = .ok (.goto 69, 3) := by decide +kernel
theorem dX7_saw_75 : decode cX7_saw 75 = .ok (.aload_n 0, 1) := by decide +kernel
theorem dX7_saw_76 : decode cX7_saw 76 = .ok (.getfield 25, 3) := by decide +kernel
theorem dX7_saw_79 : decode cX7_saw 79 = .ok (.getfield 207, 3) := by decide +kernel
theorem dX7_saw_82 : decode cX7_saw 82 = .ok (.iload_n 3, 1) := by decide +kernel
theorem dX7_saw_83 : decode cX7_saw 83 = .ok (.aload_n 0, 1) := by decide +kernel
theorem dX7_saw_84 : decode cX7_saw 84 = .ok (.getfield 12, 3) := by decide +kernel
theorem dX7_saw_87 : decode cX7_saw 87 = .ok (.getfield 97, 3) := by decide +kernel
theorem dX7_saw_90 : decode cX7_saw 90 = .ok (.aload_n 0, 1) := by decide +kernel
theorem dX7_saw_91 : decode cX7_saw 91 = .ok (.getfield 12, 3) := by decide +kernel
theorem dX7_saw_94 : decode cX7_saw 94 = .ok (.getfield 200, 3) := by decide +kernel
theorem dX7_saw_97 : decode cX7_saw 97 = .ok (.iload_n 2, 1) := by decide +kernel
theorem dX7_saw_98 : decode cX7_saw 98 = .ok (.iconst 2, 1) := by decide +kernel
theorem dX7_saw_99 : decode cX7_saw 99 = .ok (.invokevirtual 203, 3) := by decide +kernel
theorem dX7_saw_102 : decode cX7_saw 102 = .ok (.ifCond .ne 7, 3) := by decide +kernel
theorem dX7_saw_105 : decode cX7_saw 105 = .ok (.iconst 0, 1) := by decide +kernel
theorem dX7_saw_106 : decode cX7_saw 106 = .ok (.goto 4, 3) := by decide +kernel
theorem dX7_saw_109 : decode cX7_saw 109 = .ok (.iconst 1, 1) := by decide +kernel
theorem dX7_saw_110 : decode cX7_saw 110 = .ok (.iaload, 1) := by decide +kernel
theorem dX7_saw_111 : decode cX7_saw 111 = .ok (.iastore, 1) := by decide +kernel
theorem dX7_saw_112 : decode cX7_saw 112 = .ok (.aload_n 0, 1) := by decide +kernel
theorem dX7_saw_113 : decode cX7_saw 113 = .ok (.getfield 25, 3) := by decide +kernel
theorem dX7_saw_116 : decode cX7_saw 116 = .ok (.iload_n 3, 1) := by decide +kernel
theorem dX7_saw_117 : decode cX7_saw 117 = .ok (.bipush 8, 2) := by decide +kernel
theorem dX7_saw_119 : decode cX7_saw 119 = .ok (.idiv, 1) := by decide +kernel
theorem dX7_saw_120 : decode cX7_saw 120 = .ok (.ldc 216, 2) := by decide +kernel
theorem dX7_saw_122 : decode cX7_saw 122 = .ok (.invokevirtual 220, 3) := by decide +kernel
theorem dX7_saw_125 : decode cX7_saw 125 = .ok (.istore 4, 2) := by decide +kernel
theorem dX7_saw_127 : decode cX7_saw 127 = .ok (.iload 4, 2) := by decide +kernel
theorem dX7_saw_129 : decode cX7_saw 129 = .ok (.iload_n 1, 1) := by decide +kernel
theorem dX7_saw_130 : decode cX7_saw 130 = .ok (.iconst (-1), 1) := by decide +kernel
theorem dX7_saw_131 : decode cX7_saw 131 = .ok (.ixor, 1) := by decide +kernel
theorem dX7_saw_132 : decode cX7_saw 132 = .ok (.iand, 1) := by decide +kernel
theorem dX7_saw_133 : decode cX7_saw 133 = .ok (.ifCond .eq 5, 3) := by decide +kernel
theorem dX7_saw_136 : decode cX7_saw 136 = .ok (.iload_n 2, 1) := by decide +kernel
theorem dX7_saw_137 : decode cX7_saw 137 = .ok (.ireturn, 1) := by decide +kernel
theorem dX7_saw_138 : decode cX7_saw 138 = .ok (.iload 4, 2) := by decide +kernel
theorem dX7_saw_140 : decode cX7_saw 140 = .ok (.istore_n 1, 1) := by decide +kernel
theorem dX7_saw_141 : decode cX7_saw 141 = .ok (.iinc 2 1, 3) := by decide +kernel
theorem dX7_saw_144 : decode cX7_saw 144 = .ok (.goto (-106), 3) := by decide +kernel
theorem dX7_saw_147 : decode cX7_saw 147 = .ok (.iconst (-1), 1) := by decide +kernel
theorem dX7_saw_148 : decode cX7_saw 148 = .ok (.ireturn, 1) := by decide +kernel
theorem dX7_odds_0 : decode cX7_odds 0 = .ok (.iload_n 1, 1) := by decide +kernel
theorem dX7_odds_1 : decode cX7_odds 1 = .ok (.iconst 0, 1) := by decide +kernel
theorem dX7_odds_2 : decode cX7_odds 2 = .ok (.iconst 2, 1) := by decide +kernel
theorem dX7_odds_3 : decode cX7_odds 3 = .ok (.invokestatic 80, 3) := by decide +kernel
theorem dX7_odds_6 : decode cX7_odds 6 = .ok (.ifCond .ne 5, 3) := by decide +kernel
theorem dX7_odds_9 : decode cX7_odds 9 = .ok (.iconst (-1), 1) := by decide +kernel
theorem dX7_odds_10 : decode cX7_odds 10 = .ok (.ireturn, 1) := by decide +kernel
theorem dX7_odds_11 : decode cX7_odds 11 = .ok (.aload_n 0, 1) := by decide +kernel
theorem dX7_odds_12 : decode cX7_odds 12 = .ok (.getfield 25, 3) := by decide +kernel
theorem dX7_odds_15 : decode cX7_odds 15 = .ok (.invokevirtual 139, 3) := by decide +kernel
theorem dX7_odds_18 : decode cX7_odds 18 = .ok (.aload_n 0, 1) := by decide +kernel
theorem dX7_odds_19 : decode cX7_odds 19 = .ok (.getfield 25, 3) := by decide +kernel
theorem dX7_odds_22 : decode cX7_odds 22 = .ok (.aload_n 0, 1) := by decide +kernel
theorem dX7_odds_23 : decode cX7_odds 23 = .ok (.getfield 12, 3) := by decide +kernel
theorem dX7_odds_26 : decode cX7_odds 26 = .ok (.invokevirtual 223, 3) := by decide +kernel
theorem dX7_odds_29 : decode cX7_odds 29 = .ok (.invokevirtual 217, 3) := by decide +kernel
theorem dX7_odds_32 : decode cX7_odds 32 = .ok (.istore_n 2, 1) := by decide +kernel
theorem dX7_odds_33 : decode cX7_odds 33 = .ok (.aload_n 0, 1) := by decide +kernel
theorem dX7_odds_34 : decode cX7_odds 34 = .ok (.getfield 12, 3) := by decide +kernel
theorem dX7_odds_37 : decode cX7_odds 37 = .ok (.getfield 97, 3) := by decide +kernel
theorem dX7_odds_40 : decode cX7_odds 40 = .ok (.iconst 5, 1) := by decide +kernel
theorem dX7_odds_41 : decode cX7_odds 41 = .ok (.iaload, 1) := by decide +kernel
theorem dX7_odds_42 : decode cX7_odds 42 = .ok (.istore_n 3, 1) := by decide +kernel
theorem dX7_odds_43 : decode cX7_odds 43 = .ok (.aload_n 0, 1) := by decide +kernel
theorem dX7_odds_44 : decode cX7_odds 44 = .ok (.getfield 12, 3) := by decide +kernel
theorem dX7_odds_47 : decode cX7_odds 47 = .ok (.iload_n 2, 1) := by decide +kernel
theorem dX7_odds_48 : decode cX7_odds 48 = .ok (.iload_n 3, 1) := by decide +kernel
theorem dX7_odds_49 : decode cX7_odds 49 = .ok (.invokevirtual 226, 3) := by decide +kernel
theorem dX7_odds_52 : decode cX7_odds 52 = .ok (.istore 4, 2) := by decide +kernel
theorem dX7_odds_54 : decode cX7_odds 54 = .ok (.iload_n 1, 1) := by decide +kernel
theorem dX7_odds_55 : decode cX7_odds 55 = .ok (.iconst 1, 1) := by decide +kernel
theorem dX7_odds_56 : decode cX7_odds 56 = .ok (.if_icmp .ne 17, 3) := by decide +kernel
theorem dX7_odds_59 : decode cX7_odds 59 = .ok (.aload_n 0, 1) := by decide +kernel
theorem dX7_odds_60 : decode cX7_odds 60 = .ok (.getfield 12, 3) := by decide +kernel
theorem dX7_odds_63 : decode cX7_odds 63 = .ok (.iload_n 2, 1) := by decide +kernel
theorem dX7_odds_64 : decode cX7_odds 64 = .ok (.bipush 100, 2) := by decide +kernel
theorem dX7_odds_66 : decode cX7_odds 66 = .ok (.invokevirtual 226, 3) := by decide +kernel
theorem dX7_odds_69 : decode cX7_odds 69 = .ok (.iload 4, 2) := by decide +kernel
theorem dX7_odds_71 : decode cX7_odds 71 = .ok (.isub, 1) := by decide +kernel
theorem dX7_odds_72 : decode cX7_odds 72 = .ok (.ireturn, 1) := by decide +kernel
theorem dX7_odds_73 : decode cX7_odds 73 = .ok (.iload_n 1, 1) := by decide +kernel
theorem dX7_odds_74 : decode cX7_odds 74 = .ok (.ifCond .ne 8, 3) := by decide +kernel
theorem dX7_odds_77 : decode cX7_odds 77 = .ok (.iload 4, 2) := by decide +kernel
theorem dX7_odds_79 : decode cX7_odds 79 = .ok (.goto 20, 3) := by decide +kernel
theorem dX7_odds_82 : decode cX7_odds 82 = .ok (.iload 4, 2) := by decide +kernel
theorem dX7_odds_84 : decode cX7_odds 84 = .ok (.aload_n 0, 1) := by decide +kernel
theorem dX7_odds_85 : decode cX7_odds 85 = .ok (.getfield 12, 3) := by decide +kernel
theorem dX7_odds_88 : decode cX7_odds 88 = .ok (.iload_n 2, 1) := by decide +kernel
theorem dX7_odds_89 : decode cX7_odds 89 = .ok (.iload_n 3, 1) := by decide +kernel
theorem dX7_odds_90 : decode cX7_odds 90 = .ok (.iload_n 3, 1) := by decide +kernel
theorem dX7_odds_91 : decode cX7_odds 91 = .ok (.imul, 1) := by decide +kernel
theorem dX7_odds_92 : decode cX7_odds 92 = .ok (.bipush 100, 2) := by decide +kernel
theorem dX7_odds_94 : decode cX7_odds 94 = .ok (.idiv, 1) := by decide +kernel
theorem dX7_odds_95 : decode cX7_odds 95 = .ok (.invokevirtual 226, 3) := by decide +kernel
theorem dX7_odds_98 : decode cX7_odds 98 = .ok (.isub, 1) := by decide +kernel
theorem dX7_odds_99 : decode cX7_odds 99 = .ok (.ireturn, 1) := by decide +kernel
theorem dX7_wish_0 : decode cX7_wish 0 = .ok (.iload_n 1, 1) := by decide +kernel
theorem dX7_wish_1 : decode cX7_wish 1 = .ok (.invokestatic 66, 3) := by decide +kernel
theorem dX7_wish_4 : decode cX7_wish 4 = .ok (.ifCond .ne 9, 3) := by decide +kernel
theorem dX7_wish_7 : decode cX7_wish 7 = .ok (.aload_n 0, 1) := by decide +kernel
theorem dX7_wish_8 : decode cX7_wish 8 = .ok (.iconst (-1), 1) := by decide +kernel
theorem dX7_wish_9 : decode cX7_wish 9 = .ok (.invokevirtual 70, 3) := by decide +kernel
theorem dX7_wish_12 : decode cX7_wish 12 = .ok (.ireturn, 1) := by decide +kernel
theorem dX7_wish_13 : decode cX7_wish 13 = .ok (.aload_n 0, 1) := by decide +kernel
theorem dX7_wish_14 : decode cX7_wish 14 = .ok (.getfield 12, 3) := by decide +kernel
theorem dX7_wish_17 : decode cX7_wish 17 = .ok (.getfield 124, 3) := by decide +kernel
theorem dX7_wish_20 : decode cX7_wish 20 = .ok (.iload_n 1, 1) := by decide +kernel
theorem dX7_wish_21 : decode cX7_wish 21 = .ok (.iaload, 1) := by decide +kernel
theorem dX7_wish_22 : decode cX7_wish 22 = .ok (.ifCond .ne 10, 3) := by decide +kernel
theorem dX7_wish_25 : decode cX7_wish 25 = .ok (.aload_n 0, 1) := by decide +kernel
theorem dX7_wish_26 : decode cX7_wish 26 = .ok (.bipush (-3), 2) := by decide +kernel
theorem dX7_wish_28 : decode cX7_wish 28 = .ok (.invokevirtual 70, 3) := by decide +kernel
theorem dX7_wish_31 : decode cX7_wish 31 = .ok (.ireturn, 1) := by decide +kernel
theorem dX7_wish_32 : decode cX7_wish 32 = .ok (.aload_n 0, 1) := by decide +kernel
theorem dX7_wish_33 : decode cX7_wish 33 = .ok (.getfield 34, 3) := by decide +kernel
theorem dX7_wish_36 : decode cX7_wish 36 = .ok (.iload_n 1, 1) := by decide +kernel
theorem dX7_wish_37 : decode cX7_wish 37 = .ok (.invokevirtual 229, 3) := by decide +kernel
theorem dX7_wish_40 : decode cX7_wish 40 = .ok (.ifCond .eq 10, 3) := by decide +kernel
theorem dX7_wish_43 : decode cX7_wish 43 = .ok (.aload_n 0, 1) := by decide +kernel
theorem dX7_wish_44 : decode cX7_wish 44 = .ok (.bipush (-4), 2) := by decide +kernel
theorem dX7_wish_46 : decode cX7_wish 46 = .ok (.invokevirtual 70, 3) := by decide +kernel
theorem dX7_wish_49 : decode cX7_wish 49 = .ok (.ireturn, 1) := by decide +kernel
theorem dX7_wish_50 : decode cX7_wish 50 = .ok (.aload_n 0, 1) := by decide +kernel
theorem dX7_wish_51 : decode cX7_wish 51 = .ok (.getfield 34, 3) := by decide +kernel
theorem dX7_wish_54 : decode cX7_wish 54 = .ok (.getfield 232, 3) := by decide +kernel
theorem dX7_wish_57 : decode cX7_wish 57 = .ok (.bipush 9, 2) := by decide +kernel
theorem dX7_wish_59 : decode cX7_wish 59 = .ok (.if_icmp .lt 10, 3) := by decide +kernel
theorem dX7_wish_62 : decode cX7_wish 62 = .ok (.aload_n 0, 1) := by decide +kernel
theorem dX7_wish_63 : decode cX7_wish 63 = .ok (.bipush (-5), 2) := by decide +kernel
theorem dX7_wish_65 : decode cX7_wish 65 = .ok (.invokevirtual 70, 3) := by decide +kernel
theorem dX7_wish_68 : decode cX7_wish 68 = .ok (.ireturn, 1) := by decide +kernel
theorem dX7_wish_69 : decode cX7_wish 69 = .ok (.aload_n 0, 1) := by decide +kernel
theorem dX7_wish_70 : decode cX7_wish 70 = .ok (.getfield 34, 3) := by decide +kernel
theorem dX7_wish_73 : decode cX7_wish 73 = .ok (.getfield 233, 3) := by decide +kernel
theorem dX7_wish_76 : decode cX7_wish 76 = .ok (.aload_n 0, 1) := by decide +kernel
theorem dX7_wish_77 : decode cX7_wish 77 = .ok (.getfield 34, 3) := by decide +kernel
theorem dX7_wish_80 : decode cX7_wish 80 = .ok (.getfield 232, 3) := by decide +kernel
theorem dX7_wish_83 : decode cX7_wish 83 = .ok (.iload_n 1, 1) := by decide +kernel
theorem dX7_wish_84 : decode cX7_wish 84 = .ok (.iastore, 1) := by decide +kernel
theorem dX7_wish_85 : decode cX7_wish 85 = .ok (.aload_n 0, 1) := by decide +kernel
theorem dX7_wish_86 : decode cX7_wish 86 = .ok (.getfield 34, 3) := by decide +kernel
theorem dX7_wish_89 : decode cX7_wish 89 = .ok (.dup, 1) := by decide +kernel
theorem dX7_wish_90 : decode cX7_wish 90 = .ok (.getfield 232, 3) := by decide +kernel
theorem dX7_wish_93 : decode cX7_wish 93 = .ok (.iconst 1, 1) := by decide +kernel
theorem dX7_wish_94 : decode cX7_wish 94 = .ok (.iadd, 1) := by decide +kernel
theorem dX7_wish_95 : decode cX7_wish 95 = .ok (.putfield 232, 3) := by decide +kernel
theorem dX7_wish_98 : decode cX7_wish 98 = .ok (.aload_n 0, 1) := by decide +kernel
theorem dX7_wish_99 : decode cX7_wish 99 = .ok (.aload_n 0, 1) := by decide +kernel
theorem dX7_wish_100 : decode cX7_wish 100 = .ok (.getfield 34, 3) := by decide +kernel
theorem dX7_wish_103 : decode cX7_wish 103 = .ok (.getfield 232, 3) := by decide +kernel
theorem dX7_wish_106 : decode cX7_wish 106 = .ok (.invokevirtual 77, 3) := by decide +kernel
theorem dX7_wish_109 : decode cX7_wish 109 = .ok (.ireturn, 1) := by decide +kernel
theorem dX7_clear_0 : decode cX7_clear 0 = .ok (.aload_n 0, 1) := by decide +kernel
theorem dX7_clear_1 : decode cX7_clear 1 = .ok (.getfield 34, 3) := by decide +kernel
theorem dX7_clear_4 : decode cX7_clear 4 = .ok (.getfield 232, 3) := by decide +kernel
theorem dX7_clear_7 : decode cX7_clear 7 = .ok (.istore_n 1, 1) := by decide +kernel
theorem dX7_clear_8 : decode cX7_clear 8 = .ok (.aload_n 0, 1) := by decide +kernel
theorem dX7_clear_9 : decode cX7_clear 9 = .ok (.getfield 34, 3) := by decide +kernel
theorem dX7_clear_12 : decode cX7_clear 12 = .ok (.iconst 0, 1) := by decide +kernel
theorem dX7_clear_13 : decode cX7_clear 13 = .ok (.putfield 232, 3) := by decide +kernel
theorem dX7_clear_16 : decode cX7_clear 16 = .ok (.iload_n 1, 1) := by decide +kernel
theorem dX7_clear_17 : decode cX7_clear 17 = .ok (.ireturn, 1) := by decide +kernel
theorem dX7_best_0 : decode cX7_best 0 = .ok (.aload_n 0, 1) := by decide +kernel
theorem dX7_best_1 : decode cX7_best 1 = .ok (.getfield 34, 3) := by decide +kernel
theorem dX7_best_4 : decode cX7_best 4 = .ok (.invokevirtual 236, 3) := by decide +kernel
theorem dX7_best_7 : decode cX7_best 7 = .ok (.ifCond .ne 7, 3) := by decide +kernel
theorem dX7_best_10 : decode cX7_best 10 = .ok (.ldc2_w 239, 3) := by decide +kernel
theorem dX7_best_13 : decode cX7_best 13 = .ok (.lreturn, 1) := by decide +kernel
theorem dX7_best_14 : decode cX7_best 14 = .ok (.aload_n 0, 1) := by decide +kernel
theorem dX7_best_15 : decode cX7_best 15 = .ok (.getfield 34, 3) := by decide +kernel
theorem dX7_best_18 : decode cX7_best 18 = .ok (.invokevirtual 241, 3) := by decide +kernel
theorem dX7_best_21 : decode cX7_best 21 = .ok (.aload_n 0, 1) := by decide +kernel
theorem dX7_best_22 : decode cX7_best 22 = .ok (.getfield 34, 3) := by decide +kernel
theorem dX7_best_25 : decode cX7_best 25 = .ok (.invokevirtual 244, 3) := by decide +kernel
theorem dX7_best_28 : decode cX7_best 28 = .ok (.aload_n 0, 1) := by decide +kernel
theorem dX7_best_29 : decode cX7_best 29 = .ok (.getfield 34, 3) := by decide +kernel
theorem dX7_best_32 : decode cX7_best 32 = .ok (.invokevirtual 247, 3) := by decide +kernel
theorem dX7_best_35 : decode cX7_best 35 = .ok (.aload_n 0, 1) := by decide +kernel
theorem dX7_best_36 : decode cX7_best 36 = .ok (.getfield 34, 3) := by decide +kernel
theorem dX7_best_39 : decode cX7_best 39 = .ok (.getfield 250, 3) := by decide +kernel
theorem dX7_best_42 : decode cX7_best 42 = .ok (.iconst 0, 1) := by decide +kernel
theorem dX7_best_43 : decode cX7_best 43 = .ok (.laload, 1) := by decide +kernel
theorem dX7_best_44 : decode cX7_best 44 = .ok (.lreturn, 1) := by decide +kernel
theorem dX7_night_0 : decode cX7_night 0 = .ok (.iload_n 1, 1) := by decide +kernel
theorem dX7_night_1 : decode cX7_night 1 = .ok (.iconst 0, 1) := by decide +kernel
theorem dX7_night_2 : decode cX7_night 2 = .ok (.aload_n 0, 1) := by decide +kernel
theorem dX7_night_3 : decode cX7_night 3 = .ok (.getfield 34, 3) := by decide +kernel
theorem dX7_night_6 : decode cX7_night 6 = .ok (.getfield 254, 3) := by decide +kernel
theorem dX7_night_9 : decode cX7_night 9 = .ok (.iconst 1, 1) := by decide +kernel
theorem dX7_night_10 : decode cX7_night 10 = .ok (.isub, 1) := by decide +kernel
theorem dX7_night_11 : decode cX7_night 11 = .ok (.invokestatic 80, 3) := by decide +kernel
theorem dX7_night_14 : decode cX7_night 14 = .ok (.ifCond .eq 15, 3) := by decide +kernel
theorem dX7_night_17 : decode cX7_night 17 = .ok (.aload_n 0, 1) := by decide +kernel
theorem dX7_night_18 : decode cX7_night 18 = .ok (.getfield 34, 3) := by decide +kernel
theorem dX7_night_21 : decode cX7_night 21 = .ok (.getfield 257, 3) := by decide +kernel
theorem dX7_night_24 : decode cX7_night 24 = .ok (.iload_n 1, 1) := by decide +kernel
theorem dX7_night_25 : decode cX7_night 25 = .ok (.iaload, 1) := by decide +kernel
theorem dX7_night_26 : decode cX7_night 26 = .ok (.goto 4, 3) := by decide +kernel
theorem dX7_night_29 : decode cX7_night 29 = .ok (.iconst (-1), 1) := by decide +kernel
theorem dX7_night_30 : decode cX7_night 30 = .ok (.ireturn, 1) := by decide +kernel
theorem dX7_low_0 : decode cX7_low 0 = .ok (.aload_n 0, 1) := by decide +kernel
theorem dX7_low_1 : decode cX7_low 1 = .ok (.getfield 34, 3) := by decide +kernel
theorem dX7_low_4 : decode cX7_low 4 = .ok (.invokevirtual 236, 3) := by decide +kernel
theorem dX7_low_7 : decode cX7_low 7 = .ok (.ifCond .ne 7, 3) := by decide +kernel
theorem dX7_low_10 : decode cX7_low 10 = .ok (.ldc2_w 239, 3) := by decide +kernel
theorem dX7_low_13 : decode cX7_low 13 = .ok (.lreturn, 1) := by decide +kernel
theorem dX7_low_14 : decode cX7_low 14 = .ok (.aload_n 0, 1) := by decide +kernel
theorem dX7_low_15 : decode cX7_low 15 = .ok (.getfield 34, 3) := by decide +kernel
theorem dX7_low_18 : decode cX7_low 18 = .ok (.invokevirtual 241, 3) := by decide +kernel
theorem dX7_low_21 : decode cX7_low 21 = .ok (.aload_n 0, 1) := by decide +kernel
theorem dX7_low_22 : decode cX7_low 22 = .ok (.getfield 34, 3) := by decide +kernel
theorem dX7_low_25 : decode cX7_low 25 = .ok (.invokevirtual 260, 3) := by decide +kernel
theorem dX7_low_28 : decode cX7_low 28 = .ok (.lreturn, 1) := by decide +kernel
theorem dX7_enough_0 : decode cX7_enough 0 = .ok (.iload_n 1, 1) := by decide +kernel
theorem dX7_enough_1 : decode cX7_enough 1 = .ok (.invokestatic 66, 3) := by decide +kernel
theorem dX7_enough_4 : decode cX7_enough 4 = .ok (.ifCond .ne 5, 3) := by decide +kernel
theorem dX7_enough_7 : decode cX7_enough 7 = .ok (.iconst (-1), 1) := by decide +kernel
theorem dX7_enough_8 : decode cX7_enough 8 = .ok (.ireturn, 1) := by decide +kernel
theorem dX7_enough_9 : decode cX7_enough 9 = .ok (.aload_n 0, 1) := by decide +kernel
theorem dX7_enough_10 : decode cX7_enough 10 = .ok (.getfield 25, 3) := by decide +kernel
theorem dX7_enough_13 : decode cX7_enough 13 = .ok (.invokevirtual 139, 3) := by decide +kernel
theorem dX7_enough_16 : decode cX7_enough 16 = .ok (.aload_n 0, 1) := by decide +kernel
theorem dX7_enough_17 : decode cX7_enough 17 = .ok (.getfield 25, 3) := by decide +kernel
theorem dX7_enough_20 : decode cX7_enough 20 = .ok (.iload_n 1, 1) := by decide +kernel
theorem dX7_enough_21 : decode cX7_enough 21 = .ok (.invokevirtual 264, 3) := by decide +kernel
theorem dX7_enough_24 : decode cX7_enough 24 = .ok (.ifCond .eq 7, 3) := by decide +kernel
theorem dX7_enough_27 : decode cX7_enough 27 = .ok (.iconst 1, 1) := by decide +kernel
theorem dX7_enough_28 : decode cX7_enough 28 = .ok (.goto 4, 3) := by decide +kernel
theorem dX7_enough_31 : decode cX7_enough 31 = .ok (.iconst 0, 1) := by decide +kernel
theorem dX7_enough_32 : decode cX7_enough 32 = .ok (.ireturn, 1) := by decide +kernel
theorem dX7_move_0 : decode cX7_move 0 = .ok (.aload_n 0, 1) := by decide +kernel
theorem dX7_move_1 : decode cX7_move 1 = .ok (.getfield 25, 3) := by decide +kernel
theorem dX7_move_4 : decode cX7_move 4 = .ok (.invokevirtual 139, 3) := by decide +kernel
theorem dX7_move_7 : decode cX7_move 7 = .ok (.aload_n 0, 1) := by decide +kernel
theorem dX7_move_8 : decode cX7_move 8 = .ok (.getfield 12, 3) := by decide +kernel
theorem dX7_move_11 : decode cX7_move 11 = .ok (.getfield 97, 3) := by decide +kernel
theorem dX7_move_14 : decode cX7_move 14 = .ok (.iconst 3, 1) := by decide +kernel
theorem dX7_move_15 : decode cX7_move 15 = .ok (.iaload, 1) := by decide +kernel
theorem dX7_move_16 : decode cX7_move 16 = .ok (.istore_n 1, 1) := by decide +kernel
theorem dX7_move_17 : decode cX7_move 17 = .ok (.iload_n 1, 1) := by decide +kernel
theorem dX7_move_18 : decode cX7_move 18 = .ok (.getstatic 94, 3) := by decide +kernel
theorem dX7_move_21 : decode cX7_move 21 = .ok (.iconst 3, 1) := by decide +kernel
theorem dX7_move_22 : decode cX7_move 22 = .ok (.iaload, 1) := by decide +kernel
theorem dX7_move_23 : decode cX7_move 23 = .ok (.if_icmp .gt 29, 3) := by decide +kernel
theorem dX7_move_26 : decode cX7_move 26 = .ok (.aload_n 0, 1) := by decide +kernel
theorem dX7_move_27 : decode cX7_move 27 = .ok (.getfield 25, 3) := by decide +kernel
theorem dX7_move_30 : decode cX7_move 30 = .ok (.iload_n 1, 1) := by decide +kernel
theorem dX7_move_31 : decode cX7_move 31 = .ok (.invokevirtual 267, 3) := by decide +kernel
theorem dX7_move_34 : decode cX7_move 34 = .ok (.aload_n 0, 1) := by decide +kernel
theorem dX7_move_35 : decode cX7_move 35 = .ok (.getfield 25, 3) := by decide +kernel
theorem dX7_move_38 : decode cX7_move 38 = .ok (.invokevirtual 270, 3) := by decide +kernel
theorem dX7_move_41 : decode cX7_move 41 = .ok (.ifCond .eq 5, 3) := by decide +kernel
theorem dX7_move_44 : decode cX7_move 44 = .ok (.iload_n 1, 1) := by decide +kernel
theorem dX7_move_45 : decode cX7_move 45 = .ok (.ireturn, 1) := by decide +kernel
theorem dX7_move_46 : decode cX7_move 46 = .ok (.iinc 1 1, 3) := by decide +kernel
theorem dX7_move_49 : decode cX7_move 49 = .ok (.goto (-32), 3) := by decide +kernel
theorem dX7_move_52 : decode cX7_move 52 = .ok (.iconst (-1), 1) := by decide +kernel
theorem dX7_move_53 : decode cX7_move 53 = .ok (.ireturn, 1) := by decide +kernel
theorem dX7_find_0 : decode cX7_find 0 = .ok (.iload_n 1, 1) := by decide +kernel
theorem dX7_find_1 : decode cX7_find 1 = .ok (.invokestatic 197, 3) := by decide +kernel
theorem dX7_find_4 : decode cX7_find 4 = .ok (.ifCond .eq 17, 3) := by decide +kernel
theorem dX7_find_7 : decode cX7_find 7 = .ok (.iload_n 2, 1) := by decide +kernel
theorem dX7_find_8 : decode cX7_find 8 = .ok (.invokestatic 273, 3) := by decide +kernel
theorem dX7_find_11 : decode cX7_find 11 = .ok (.ifCond .eq 10, 3) := by decide +kernel
theorem dX7_find_14 : decode cX7_find 14 = .ok (.iload_n 3, 1) := by decide +kernel
theorem dX7_find_15 : decode cX7_find 15 = .ok (.invokestatic 190, 3) := by decide +kernel
theorem dX7_find_18 : decode cX7_find 18 = .ok (.ifCond .ne 9, 3) := by decide +kernel
theorem dX7_find_21 : decode cX7_find 21 = .ok (.aload_n 0, 1) := by decide +kernel
theorem dX7_find_22 : decode cX7_find 22 = .ok (.iconst (-1), 1) := by decide +kernel
theorem dX7_find_23 : decode cX7_find 23 = .ok (.invokevirtual 70, 3) := by decide +kernel
theorem dX7_find_26 : decode cX7_find 26 = .ok (.ireturn, 1) := by decide +kernel
theorem dX7_find_27 : decode cX7_find 27 = .ok (.aload_n 0, 1) := by decide +kernel
theorem dX7_find_28 : decode cX7_find 28 = .ok (.getfield 12, 3) := by decide +kernel
theorem dX7_find_31 : decode cX7_find 31 = .ok (.iload_n 1, 1) := by decide +kernel
theorem dX7_find_32 : decode cX7_find 32 = .ok (.iload_n 2, 1) := by decide +kernel
theorem dX7_find_33 : decode cX7_find 33 = .ok (.iload_n 3, 1) := by decide +kernel
theorem dX7_find_34 : decode cX7_find 34 = .ok (.invokevirtual 276, 3) := by decide +kernel
theorem dX7_find_37 : decode cX7_find 37 = .ok (.aload_n 0, 1) := by decide +kernel
theorem dX7_find_38 : decode cX7_find 38 = .ok (.iconst 0, 1) := by decide +kernel
theorem dX7_find_39 : decode cX7_find 39 = .ok (.invokevirtual 77, 3) := by decide +kernel
theorem dX7_find_42 : decode cX7_find 42 = .ok (.ireturn, 1) := by decide +kernel
theorem dX7_tell_0 : decode cX7_tell 0 = .ok (.iload_n 1, 1) := by decide +kernel
theorem dX7_tell_1 : decode cX7_tell 1 = .ok (.invokestatic 197, 3) := by decide +kernel
theorem dX7_tell_4 : decode cX7_tell 4 = .ok (.ifCond .eq 25, 3) := by decide +kernel
theorem dX7_tell_7 : decode cX7_tell 7 = .ok (.iload_n 2, 1) := by decide +kernel
theorem dX7_tell_8 : decode cX7_tell 8 = .ok (.invokestatic 197, 3) := by decide +kernel
theorem dX7_tell_11 : decode cX7_tell 11 = .ok (.ifCond .eq 18, 3) := by decide +kernel
theorem dX7_tell_14 : decode cX7_tell 14 = .ok (.iload_n 3, 1) := by decide +kernel
theorem dX7_tell_15 : decode cX7_tell 15 = .ok (.invokestatic 273, 3) := by decide +kernel
theorem dX7_tell_18 : decode cX7_tell 18 = .ok (.ifCond .eq 11, 3) := by decide +kernel
theorem dX7_tell_21 : decode cX7_tell 21 = .ok (.iload 4, 2) := by decide +kernel
theorem dX7_tell_23 : decode cX7_tell 23 = .ok (.invokestatic 190, 3) := by decide +kernel
theorem dX7_tell_26 : decode cX7_tell 26 = .ok (.ifCond .ne 9, 3) := by decide +kernel
theorem dX7_tell_29 : decode cX7_tell 29 = .ok (.aload_n 0, 1) := by decide +kernel
theorem dX7_tell_30 : decode cX7_tell 30 = .ok (.iconst (-1), 1) := by decide +kernel
theorem dX7_tell_31 : decode cX7_tell 31 = .ok (.invokevirtual 70, 3) := by decide +kernel
theorem dX7_tell_34 : decode cX7_tell 34 = .ok (.ireturn, 1) := by decide +kernel
theorem dX7_tell_35 : decode cX7_tell 35 = .ok (.aload_n 0, 1) := by decide +kernel
theorem dX7_tell_36 : decode cX7_tell 36 = .ok (.getfield 12, 3) := by decide +kernel
theorem dX7_tell_39 : decode cX7_tell 39 = .ok (.getfield 280, 3) := by decide +kernel
theorem dX7_tell_42 : decode cX7_tell 42 = .ok (.iload_n 1, 1) := by decide +kernel
theorem dX7_tell_43 : decode cX7_tell 43 = .ok (.bipush 8, 2) := by decide +kernel
theorem dX7_tell_45 : decode cX7_tell 45 = .ok (.imul, 1) := by decide +kernel
theorem dX7_tell_46 : decode cX7_tell 46 = .ok (.iload_n 3, 1) := by decide +kernel
theorem dX7_tell_47 : decode cX7_tell 47 = .ok (.iadd, 1) := by decide +kernel
theorem dX7_tell_48 : decode cX7_tell 48 = .ok (.iaload, 1) := by decide +kernel
theorem dX7_tell_49 : decode cX7_tell 49 = .ok (.iload 4, 2) := by decide +kernel
theorem dX7_tell_51 : decode cX7_tell 51 = .ok (.if_icmp .le 10, 3) := by decide +kernel
theorem dX7_tell_54 : decode cX7_tell 54 = .ok (.aload_n 0, 1) := by decide +kernel
theorem dX7_tell_55 : decode cX7_tell 55 = .ok (.bipush (-3), 2) := by decide +kernel
theorem dX7_tell_57 : decode cX7_tell 57 = .ok (.invokevirtual 70, 3) := by decide +kernel
theorem dX7_tell_60 : decode cX7_tell 60 = .ok (.ireturn, 1) := by decide +kernel
theorem dX7_tell_61 : decode cX7_tell 61 = .ok (.aload_n 0, 1) := by decide +kernel
theorem dX7_tell_62 : decode cX7_tell 62 = .ok (.getfield 12, 3) := by decide +kernel
theorem dX7_tell_65 : decode cX7_tell 65 = .ok (.iload_n 2, 1) := by decide +kernel
theorem dX7_tell_66 : decode cX7_tell 66 = .ok (.iload_n 3, 1) := by decide +kernel
theorem dX7_tell_67 : decode cX7_tell 67 = .ok (.iload 4, 2) := by decide +kernel
theorem dX7_tell_69 : decode cX7_tell 69 = .ok (.invokevirtual 276, 3) := by decide +kernel
theorem dX7_tell_72 : decode cX7_tell 72 = .ok (.aload_n 0, 1) := by decide +kernel
theorem dX7_tell_73 : decode cX7_tell 73 = .ok (.iconst 0, 1) := by decide +kernel
theorem dX7_tell_74 : decode cX7_tell 74 = .ok (.invokevirtual 77, 3) := by decide +kernel
theorem dX7_tell_77 : decode cX7_tell 77 = .ok (.ireturn, 1) := by decide +kernel
theorem dX7_knew_0 : decode cX7_knew 0 = .ok (.iload_n 1, 1) := by decide +kernel
theorem dX7_knew_1 : decode cX7_knew 1 = .ok (.invokestatic 197, 3) := by decide +kernel
theorem dX7_knew_4 : decode cX7_knew 4 = .ok (.ifCond .eq 10, 3) := by decide +kernel
theorem dX7_knew_7 : decode cX7_knew 7 = .ok (.iload_n 2, 1) := by decide +kernel
theorem dX7_knew_8 : decode cX7_knew 8 = .ok (.invokestatic 273, 3) := by decide +kernel
theorem dX7_knew_11 : decode cX7_knew 11 = .ok (.ifCond .ne 5, 3) := by decide +kernel
theorem dX7_knew_14 : decode cX7_knew 14 = .ok (.iconst (-1), 1) := by decide +kernel
theorem dX7_knew_15 : decode cX7_knew 15 = .ok (.ireturn, 1) := by decide +kernel
theorem dX7_knew_16 : decode cX7_knew 16 = .ok (.aload_n 0, 1) := by decide +kernel
theorem dX7_knew_17 : decode cX7_knew 17 = .ok (.getfield 12, 3) := by decide +kernel
theorem dX7_knew_20 : decode cX7_knew 20 = .ok (.getfield 280, 3) := by decide +kernel
theorem dX7_knew_23 : decode cX7_knew 23 = .ok (.iload_n 1, 1) := by decide +kernel
theorem dX7_knew_24 : decode cX7_knew 24 = .ok (.bipush 8, 2) := by decide +kernel
theorem dX7_knew_26 : decode cX7_knew 26 = .ok (.imul, 1) := by decide +kernel
theorem dX7_knew_27 : decode cX7_knew 27 = .ok (.iload_n 2, 1) := by decide +kernel
theorem dX7_knew_28 : decode cX7_knew 28 = .ok (.iadd, 1) := by decide +kernel
theorem dX7_knew_29 : decode cX7_knew 29 = .ok (.iaload, 1) := by decide +kernel
theorem dX7_knew_30 : decode cX7_knew 30 = .ok (.istore_n 3, 1) := by decide +kernel
theorem dX7_knew_31 : decode cX7_knew 31 = .ok (.iload_n 3, 1) := by decide +kernel
theorem dX7_knew_32 : decode cX7_knew 32 = .ok (.sipush 10000, 3) := by decide +kernel
theorem dX7_knew_35 : decode cX7_knew 35 = .ok (.if_icmp .ne 7, 3) := by decide +kernel
theorem dX7_knew_38 : decode cX7_knew 38 = .ok (.iconst (-1), 1) := by decide +kernel
theorem dX7_knew_39 : decode cX7_knew 39 = .ok (.goto 4, 3) := by decide +kernel
theorem dX7_knew_42 : decode cX7_knew 42 = .ok (.iload_n 3, 1) := by decide +kernel
theorem dX7_knew_43 : decode cX7_knew 43 = .ok (.ireturn, 1) := by decide +kernel
theorem dX7_owed_0 : decode cX7_owed 0 = .ok (.iload_n 1, 1) := by decide +kernel
theorem dX7_owed_1 : decode cX7_owed 1 = .ok (.invokestatic 197, 3) := by decide +kernel
theorem dX7_owed_4 : decode cX7_owed 4 = .ok (.ifCond .eq 21, 3) := by decide +kernel
theorem dX7_owed_7 : decode cX7_owed 7 = .ok (.iload_n 2, 1) := by decide +kernel
theorem dX7_owed_8 : decode cX7_owed 8 = .ok (.invokestatic 190, 3) := by decide +kernel
theorem dX7_owed_11 : decode cX7_owed 11 = .ok (.ifCond .eq 14, 3) := by decide +kernel
theorem dX7_owed_14 : decode cX7_owed 14 = .ok (.iload_n 3, 1) := by decide +kernel
theorem dX7_owed_15 : decode cX7_owed 15 = .ok (.iconst 0, 1) := by decide +kernel
theorem dX7_owed_16 : decode cX7_owed 16 = .ok (.sipush 9999, 3) := by decide +kernel
theorem dX7_owed_19 : decode cX7_owed 19 = .ok (.invokestatic 80, 3) := by decide +kernel
theorem dX7_owed_22 : decode cX7_owed 22 = .ok (.ifCond .ne 5, 3) := by decide +kernel
theorem dX7_owed_25 : decode cX7_owed 25 = .ok (.iconst (-1), 1) := by decide +kernel
theorem dX7_owed_26 : decode cX7_owed 26 = .ok (.ireturn, 1) := by decide +kernel
theorem dX7_owed_27 : decode cX7_owed 27 = .ok (.iconst 0, 1) := by decide +kernel
theorem dX7_owed_28 : decode cX7_owed 28 = .ok (.istore 4, 2) := by decide +kernel
theorem dX7_owed_30 : decode cX7_owed 30 = .ok (.iconst 0, 1) := by decide +kernel
theorem dX7_owed_31 : decode cX7_owed 31 = .ok (.istore 5, 2) := by decide +kernel
theorem dX7_owed_33 : decode cX7_owed 33 = .ok (.iload 5, 2) := by decide +kernel
theorem dX7_owed_35 : decode cX7_owed 35 = .ok (.bipush 8, 2) := by decide +kernel
theorem dX7_owed_37 : decode cX7_owed 37 = .ok (.if_icmp .ge 47, 3) := by decide +kernel
theorem dX7_owed_40 : decode cX7_owed 40 = .ok (.aload_n 0, 1) := by decide +kernel
theorem dX7_owed_41 : decode cX7_owed 41 = .ok (.getfield 12, 3) := by decide +kernel
theorem dX7_owed_44 : decode cX7_owed 44 = .ok (.getfield 280, 3) := by decide +kernel
theorem dX7_owed_47 : decode cX7_owed 47 = .ok (.iload_n 1, 1) := by decide +kernel
theorem dX7_owed_48 : decode cX7_owed 48 = .ok (.bipush 8, 2) := by decide +kernel
theorem dX7_owed_50 : decode cX7_owed 50 = .ok (.imul, 1) := by decide +kernel
theorem dX7_owed_51 : decode cX7_owed 51 = .ok (.iload 5, 2) := by decide +kernel
theorem dX7_owed_53 : decode cX7_owed 53 = .ok (.iadd, 1) := by decide +kernel
theorem dX7_owed_54 : decode cX7_owed 54 = .ok (.iaload, 1) := by decide +kernel
theorem dX7_owed_55 : decode cX7_owed 55 = .ok (.iload_n 2, 1) := by decide +kernel
theorem dX7_owed_56 : decode cX7_owed 56 = .ok (.if_icmp .le 22, 3) := by decide +kernel
theorem dX7_owed_59 : decode cX7_owed 59 = .ok (.aload_n 0, 1) := by decide +kernel
theorem dX7_owed_60 : decode cX7_owed 60 = .ok (.getfield 12, 3) := by decide +kernel
theorem dX7_owed_63 : decode cX7_owed 63 = .ok (.iload_n 1, 1) := by decide +kernel
theorem dX7_owed_64 : decode cX7_owed 64 = .ok (.iload 5, 2) := by decide +kernel
theorem dX7_owed_66 : decode cX7_owed 66 = .ok (.invokevirtual 283, 3) := by decide +kernel
theorem dX7_owed_69 : decode cX7_owed 69 = .ok (.iload_n 2, 1) := by decide +kernel
theorem dX7_owed_70 : decode cX7_owed 70 = .ok (.iload_n 3, 1) := by decide +kernel
theorem dX7_owed_71 : decode cX7_owed 71 = .ok (.isub, 1) := by decide +kernel
theorem dX7_owed_72 : decode cX7_owed 72 = .ok (.if_icmp .gt 6, 3) := by decide +kernel
theorem dX7_owed_75 : decode cX7_owed 75 = .ok (.iinc 4 1, 3) := by decide +kernel
theorem dX7_owed_78 : decode cX7_owed 78 = .ok (.iinc 5 1, 3) := by decide +kernel
theorem dX7_owed_81 : decode cX7_owed 81 = .ok (.goto (-48), 3) := by decide +kernel
theorem dX7_owed_84 : decode cX7_owed 84 = .ok (.iload 4, 2) := by decide +kernel
theorem dX7_owed_86 : decode cX7_owed 86 = .ok (.ireturn, 1) := by decide +kernel
theorem dX7_street_0 : decode cX7_street 0 = .ok (.iload_n 1, 1) := by decide +kernel
theorem dX7_street_1 : decode cX7_street 1 = .ok (.invokestatic 100, 3) := by decide +kernel
theorem dX7_street_4 : decode cX7_street 4 = .ok (.ifCond .eq 24, 3) := by decide +kernel
theorem dX7_street_7 : decode cX7_street 7 = .ok (.iload_n 2, 1) := by decide +kernel
theorem dX7_street_8 : decode cX7_street 8 = .ok (.iconst 1, 1) := by decide +kernel
theorem dX7_street_9 : decode cX7_street 9 = .ok (.bipush 20, 2) := by decide +kernel
theorem dX7_street_11 : decode cX7_street 11 = .ok (.invokestatic 80, 3) := by decide +kernel
theorem dX7_street_14 : decode cX7_street 14 = .ok (.ifCond .eq 14, 3) := by decide +kernel
theorem dX7_street_17 : decode cX7_street 17 = .ok (.iload_n 3, 1) := by decide +kernel
theorem dX7_street_18 : decode cX7_street 18 = .ok (.iconst 0, 1) := by decide +kernel
theorem dX7_street_19 : decode cX7_street 19 = .ok (.sipush 10000, 3) := by decide +kernel
theorem dX7_street_22 : decode cX7_street 22 = .ok (.invokestatic 80, 3) := by decide +kernel
theorem dX7_street_25 : decode cX7_street 25 = .ok (.ifCond .ne 9, 3) := by decide +kernel
theorem dX7_street_28 : decode cX7_street 28 = .ok (.aload_n 0, 1) := by decide +kernel
theorem dX7_street_29 : decode cX7_street 29 = .ok (.iconst (-1), 1) := by decide +kernel
theorem dX7_street_30 : decode cX7_street 30 = .ok (.invokevirtual 70, 3) := by decide +kernel
theorem dX7_street_33 : decode cX7_street 33 = .ok (.ireturn, 1) := by decide +kernel
theorem dX7_street_34 : decode cX7_street 34 = .ok (.aload_n 0, 1) := by decide +kernel
theorem dX7_street_35 : decode cX7_street 35 = .ok (.getfield 12, 3) := by decide +kernel
theorem dX7_street_38 : decode cX7_street 38 = .ok (.getfield 286, 3) := by decide +kernel
theorem dX7_street_41 : decode cX7_street 41 = .ok (.invokevirtual 108, 3) := by decide +kernel
theorem dX7_street_44 : decode cX7_street 44 = .ok (.ifCond .eq 10, 3) := by decide +kernel
theorem dX7_street_47 : decode cX7_street 47 = .ok (.aload_n 0, 1) := by decide +kernel
theorem dX7_street_48 : decode cX7_street 48 = .ok (.bipush (-5), 2) := by decide +kernel
theorem dX7_street_50 : decode cX7_street 50 = .ok (.invokevirtual 70, 3) := by decide +kernel
theorem dX7_street_53 : decode cX7_street 53 = .ok (.ireturn, 1) := by decide +kernel
theorem dX7_street_54 : decode cX7_street 54 = .ok (.aload_n 0, 1) := by decide +kernel
theorem dX7_street_55 : decode cX7_street 55 = .ok (.getfield 12, 3) := by decide +kernel
theorem dX7_street_58 : decode cX7_street 58 = .ok (.getfield 286, 3) := by decide +kernel
theorem dX7_street_61 : decode cX7_street 61 = .ok (.invokevirtual 114, 3) := by decide +kernel
theorem dX7_street_64 : decode cX7_street 64 = .ok (.aload_n 0, 1) := by decide +kernel
theorem dX7_street_65 : decode cX7_street 65 = .ok (.getfield 12, 3) := by decide +kernel
theorem dX7_street_68 : decode cX7_street 68 = .ok (.getfield 286, 3) := by decide +kernel
theorem dX7_street_71 : decode cX7_street 71 = .ok (.iconst 0, 1) := by decide +kernel
theorem dX7_street_72 : decode cX7_street 72 = .ok (.iload_n 1, 1) := by decide +kernel
theorem dX7_street_73 : decode cX7_street 73 = .ok (.invokevirtual 117, 3) := by decide +kernel
theorem dX7_street_76 : decode cX7_street 76 = .ok (.aload_n 0, 1) := by decide +kernel
theorem dX7_street_77 : decode cX7_street 77 = .ok (.getfield 12, 3) := by decide +kernel
theorem dX7_street_80 : decode cX7_street 80 = .ok (.getfield 286, 3) := by decide +kernel
theorem dX7_street_83 : decode cX7_street 83 = .ok (.iconst 1, 1) := by decide +kernel
theorem dX7_street_84 : decode cX7_street 84 = .ok (.iload_n 2, 1) := by decide +kernel
theorem dX7_street_85 : decode cX7_street 85 = .ok (.invokevirtual 117, 3) := by decide +kernel
theorem dX7_street_88 : decode cX7_street 88 = .ok (.aload_n 0, 1) := by decide +kernel
theorem dX7_street_89 : decode cX7_street 89 = .ok (.getfield 12, 3) := by decide +kernel
theorem dX7_street_92 : decode cX7_street 92 = .ok (.getfield 286, 3) := by decide +kernel
theorem dX7_street_95 : decode cX7_street 95 = .ok (.iconst 2, 1) := by decide +kernel
theorem dX7_street_96 : decode cX7_street 96 = .ok (.iload_n 3, 1) := by decide +kernel
theorem dX7_street_97 : decode cX7_street 97 = .ok (.invokevirtual 117, 3) := by decide +kernel
theorem dX7_street_100 : decode cX7_street 100 = .ok (.aload_n 0, 1) := by decide +kernel
theorem dX7_street_101 : decode cX7_street 101 = .ok (.aload_n 0, 1) := by decide +kernel
theorem dX7_street_102 : decode cX7_street 102 = .ok (.getfield 12, 3) := by decide +kernel
theorem dX7_street_105 : decode cX7_street 105 = .ok (.getfield 286, 3) := by decide +kernel
theorem dX7_street_108 : decode cX7_street 108 = .ok (.getfield 121, 3) := by decide +kernel
theorem dX7_street_111 : decode cX7_street 111 = .ok (.iconst 1, 1) := by decide +kernel
theorem dX7_street_112 : decode cX7_street 112 = .ok (.isub, 1) := by decide +kernel
theorem dX7_street_113 : decode cX7_street 113 = .ok (.invokevirtual 77, 3) := by decide +kernel
theorem dX7_street_116 : decode cX7_street 116 = .ok (.ireturn, 1) := by decide +kernel
theorem dX7_under_0 : decode cX7_under 0 = .ok (.aload_n 0, 1) := by decide +kernel
theorem dX7_under_1 : decode cX7_under 1 = .ok (.iload_n 1, 1) := by decide +kernel
theorem dX7_under_2 : decode cX7_under 2 = .ok (.iload_n 2, 1) := by decide +kernel
theorem dX7_under_3 : decode cX7_under 3 = .ok (.invokevirtual 133, 3) := by decide +kernel
theorem dX7_under_6 : decode cX7_under 6 = .ok (.ifCond .ne 5, 3) := by decide +kernel
theorem dX7_under_9 : decode cX7_under 9 = .ok (.iconst (-1), 1) := by decide +kernel
theorem dX7_under_10 : decode cX7_under 10 = .ok (.ireturn, 1) := by decide +kernel
theorem dX7_under_11 : decode cX7_under 11 = .ok (.aload_n 0, 1) := by decide +kernel
theorem dX7_under_12 : decode cX7_under 12 = .ok (.getfield 25, 3) := by decide +kernel
theorem dX7_under_15 : decode cX7_under 15 = .ok (.invokevirtual 139, 3) := by decide +kernel
theorem dX7_under_18 : decode cX7_under 18 = .ok (.aload_n 0, 1) := by decide +kernel
theorem dX7_under_19 : decode cX7_under 19 = .ok (.getfield 25, 3) := by decide +kernel
theorem dX7_under_22 : decode cX7_under 22 = .ok (.iload_n 1, 1) := by decide +kernel
theorem dX7_under_23 : decode cX7_under 23 = .ok (.iload_n 2, 1) := by decide +kernel
theorem dX7_under_24 : decode cX7_under 24 = .ok (.invokevirtual 152, 3) := by decide +kernel
theorem dX7_under_27 : decode cX7_under 27 = .ok (.aload_n 0, 1) := by decide +kernel
theorem dX7_under_28 : decode cX7_under 28 = .ok (.getfield 25, 3) := by decide +kernel
theorem dX7_under_31 : decode cX7_under 31 = .ok (.getfield 161, 3) := by decide +kernel
theorem dX7_under_34 : decode cX7_under 34 = .ok (.iconst (-1), 1) := by decide +kernel
theorem dX7_under_35 : decode cX7_under 35 = .ok (.if_icmp .ne 5, 3) := by decide +kernel
theorem dX7_under_38 : decode cX7_under 38 = .ok (.iconst 0, 1) := by decide +kernel
theorem dX7_under_39 : decode cX7_under 39 = .ok (.ireturn, 1) := by decide +kernel
theorem dX7_under_40 : decode cX7_under 40 = .ok (.aload_n 0, 1) := by decide +kernel
theorem dX7_under_41 : decode cX7_under 41 = .ok (.getfield 12, 3) := by decide +kernel
theorem dX7_under_44 : decode cX7_under 44 = .ok (.aload_n 0, 1) := by decide +kernel
theorem dX7_under_45 : decode cX7_under 45 = .ok (.getfield 12, 3) := by decide +kernel
theorem dX7_under_48 : decode cX7_under 48 = .ok (.getfield 104, 3) := by decide +kernel
theorem dX7_under_51 : decode cX7_under 51 = .ok (.iload_n 1, 1) := by decide +kernel
theorem dX7_under_52 : decode cX7_under 52 = .ok (.iconst 0, 1) := by decide +kernel
theorem dX7_under_53 : decode cX7_under 53 = .ok (.invokevirtual 203, 3) := by decide +kernel
theorem dX7_under_56 : decode cX7_under 56 = .ok (.iconst 3, 1) := by decide +kernel
theorem dX7_under_57 : decode cX7_under 57 = .ok (.bipush 6, 2) := by decide +kernel
theorem dX7_under_59 : decode cX7_under 59 = .ok (.aload_n 0, 1) := by decide +kernel
theorem dX7_under_60 : decode cX7_under 60 = .ok (.getfield 25, 3) := by decide +kernel
theorem dX7_under_63 : decode cX7_under 63 = .ok (.getfield 161, 3) := by decide +kernel
theorem dX7_under_66 : decode cX7_under 66 = .ok (.isub, 1) := by decide +kernel
theorem dX7_under_67 : decode cX7_under 67 = .ok (.imul, 1) := by decide +kernel
theorem dX7_under_68 : decode cX7_under 68 = .ok (.invokevirtual 289, 3) := by decide +kernel
theorem dX7_under_71 : decode cX7_under 71 = .ok (.ireturn, 1) := by decide +kernel
theorem dX7_row_0 : decode cX7_row 0 = .ok (.aload_n 0, 1) := by decide +kernel
theorem dX7_row_1 : decode cX7_row 1 = .ok (.invokevirtual 168, 3) := by decide +kernel
theorem dX7_row_4 : decode cX7_row 4 = .ok (.iconst 1, 1) := by decide +kernel
theorem dX7_row_5 : decode cX7_row 5 = .ok (.isub, 1) := by decide +kernel
theorem dX7_row_6 : decode cX7_row 6 = .ok (.istore_n 1, 1) := by decide +kernel
theorem dX7_row_7 : decode cX7_row 7 = .ok (.aload_n 0, 1) := by decide +kernel
theorem dX7_row_8 : decode cX7_row 8 = .ok (.getfield 12, 3) := by decide +kernel
theorem dX7_row_11 : decode cX7_row 11 = .ok (.getfield 292, 3) := by decide +kernel
theorem dX7_row_14 : decode cX7_row 14 = .ok (.invokevirtual 108, 3) := by decide +kernel
theorem dX7_row_17 : decode cX7_row 17 = .ok (.ifCond .eq 10, 3) := by decide +kernel
theorem dX7_row_20 : decode cX7_row 20 = .ok (.aload_n 0, 1) := by decide +kernel
theorem dX7_row_21 : decode cX7_row 21 = .ok (.bipush (-5), 2) := by decide +kernel
theorem dX7_row_23 : decode cX7_row 23 = .ok (.invokevirtual 70, 3) := by decide +kernel
theorem dX7_row_26 : decode cX7_row 26 = .ok (.ireturn, 1) := by decide +kernel
theorem dX7_row_27 : decode cX7_row 27 = .ok (.iload_n 1, 1) := by decide +kernel
theorem dX7_row_28 : decode cX7_row 28 = .ok (.iconst 1, 1) := by decide +kernel
theorem dX7_row_29 : decode cX7_row 29 = .ok (.bipush 40, 2) := by decide +kernel
theorem dX7_row_31 : decode cX7_row 31 = .ok (.invokestatic 80, 3) := by decide +kernel
theorem dX7_row_34 : decode cX7_row 34 = .ok (.ifCond .eq 13, 3) := by decide +kernel
theorem dX7_row_37 : decode cX7_row 37 = .ok (.aload_n 0, 1) := by decide +kernel
theorem dX7_row_38 : decode cX7_row 38 = .ok (.getfield 52, 3) := by decide +kernel
theorem dX7_row_41 : decode cX7_row 41 = .ok (.iconst 0, 1) := by decide +kernel
theorem dX7_row_42 : decode cX7_row 42 = .ok (.iaload, 1) := by decide +kernel
theorem dX7_row_43 : decode cX7_row 43 = .ok (.iconst 1, 1) := by decide +kernel
theorem dX7_row_44 : decode cX7_row 44 = .ok (.if_icmp .le 10, 3) := by decide +kernel
theorem dX7_row_47 : decode cX7_row 47 = .ok (.aload_n 0, 1) := by decide +kernel
theorem dX7_row_48 : decode cX7_row 48 = .ok (.bipush (-6), 2) := by decide +kernel
theorem dX7_row_50 : decode cX7_row 50 = .ok (.invokevirtual 70, 3) := by decide +kernel
theorem dX7_row_53 : decode cX7_row 53 = .ok (.ireturn, 1) := by decide +kernel
theorem dX7_row_54 : decode cX7_row 54 = .ok (.aload_n 0, 1) := by decide +kernel
theorem dX7_row_55 : decode cX7_row 55 = .ok (.getfield 12, 3) := by decide +kernel
theorem dX7_row_58 : decode cX7_row 58 = .ok (.getfield 292, 3) := by decide +kernel
theorem dX7_row_61 : decode cX7_row 61 = .ok (.invokevirtual 114, 3) := by decide +kernel
theorem dX7_row_64 : decode cX7_row 64 = .ok (.aload_n 0, 1) := by decide +kernel
theorem dX7_row_65 : decode cX7_row 65 = .ok (.getfield 12, 3) := by decide +kernel
theorem dX7_row_68 : decode cX7_row 68 = .ok (.getfield 292, 3) := by decide +kernel
theorem dX7_row_71 : decode cX7_row 71 = .ok (.iconst 0, 1) := by decide +kernel
theorem dX7_row_72 : decode cX7_row 72 = .ok (.aload_n 0, 1) := by decide +kernel
theorem dX7_row_73 : decode cX7_row 73 = .ok (.getfield 52, 3) := by decide +kernel
theorem dX7_row_76 : decode cX7_row 76 = .ok (.iconst 0, 1) := by decide +kernel
theorem dX7_row_77 : decode cX7_row 77 = .ok (.iaload, 1) := by decide +kernel
theorem dX7_row_78 : decode cX7_row 78 = .ok (.invokevirtual 117, 3) := by decide +kernel
theorem dX7_row_81 : decode cX7_row 81 = .ok (.aload_n 0, 1) := by decide +kernel
theorem dX7_row_82 : decode cX7_row 82 = .ok (.getfield 12, 3) := by decide +kernel
theorem dX7_row_85 : decode cX7_row 85 = .ok (.getfield 292, 3) := by decide +kernel
theorem dX7_row_88 : decode cX7_row 88 = .ok (.iconst 1, 1) := by decide +kernel
theorem dX7_row_89 : decode cX7_row 89 = .ok (.iload_n 1, 1) := by decide +kernel
theorem dX7_row_90 : decode cX7_row 90 = .ok (.invokevirtual 117, 3) := by decide +kernel
theorem dX7_row_93 : decode cX7_row 93 = .ok (.iconst 0, 1) := by decide +kernel
theorem dX7_row_94 : decode cX7_row 94 = .ok (.istore_n 2, 1) := by decide +kernel
theorem dX7_row_95 : decode cX7_row 95 = .ok (.iconst 0, 1) := by decide +kernel
theorem dX7_row_96 : decode cX7_row 96 = .ok (.istore_n 3, 1) := by decide +kernel
theorem dX7_row_97 : decode cX7_row 97 = .ok (.iload_n 3, 1) := by decide +kernel
theorem dX7_row_98 : decode cX7_row 98 = .ok (.iload_n 1, 1) := by decide +kernel
theorem dX7_row_99 : decode cX7_row 99 = .ok (.if_icmp .ge 49, 3) := by decide +kernel
theorem dX7_row_102 : decode cX7_row 102 = .ok (.aload_n 0, 1) := by decide +kernel
theorem dX7_row_103 : decode cX7_row 103 = .ok (.getfield 52, 3) := by decide +kernel
theorem dX7_row_106 : decode cX7_row 106 = .ok (.iload_n 3, 1) := by decide +kernel
theorem dX7_row_107 : decode cX7_row 107 = .ok (.iconst 1, 1) := by decide +kernel
theorem dX7_row_108 : decode cX7_row 108 = .ok (.iadd, 1) := by decide +kernel
theorem dX7_row_109 : decode cX7_row 109 = .ok (.iaload, 1) := by decide +kernel
theorem dX7_row_110 : decode cX7_row 110 = .ok (.bipush 100, 2) := by decide +kernel
theorem dX7_row_112 : decode cX7_row 112 = .ok (.if_icmp .le 7, 3) := by decide +kernel
theorem dX7_row_115 : decode cX7_row 115 = .ok (.iload_n 2, 1) := by decide +kernel
theorem dX7_row_116 : decode cX7_row 116 = .ok (.goto 11, 3) := by decide +kernel
theorem dX7_row_119 : decode cX7_row 119 = .ok (.aload_n 0, 1) := by decide +kernel
theorem dX7_row_120 : decode cX7_row 120 = .ok (.getfield 52, 3) := by decide +kernel
theorem dX7_row_123 : decode cX7_row 123 = .ok (.iload_n 3, 1) := by decide +kernel
theorem dX7_row_124 : decode cX7_row 124 = .ok (.iconst 1, 1) := by decide +kernel
theorem dX7_row_125 : decode cX7_row 125 = .ok (.iadd, 1) := by decide +kernel
theorem dX7_row_126 : decode cX7_row 126 = .ok (.iaload, 1) := by decide +kernel
theorem dX7_row_127 : decode cX7_row 127 = .ok (.istore_n 2, 1) := by decide +kernel
theorem dX7_row_128 : decode cX7_row 128 = .ok (.aload_n 0, 1) := by decide +kernel
theorem dX7_row_129 : decode cX7_row 129 = .ok (.getfield 12, 3) := by decide +kernel
theorem dX7_row_132 : decode cX7_row 132 = .ok (.getfield 292, 3) := by decide +kernel
theorem dX7_row_135 : decode cX7_row 135 = .ok (.iconst 2, 1) := by decide +kernel
theorem dX7_row_136 : decode cX7_row 136 = .ok (.iload_n 3, 1) := by decide +kernel
theorem dX7_row_137 : decode cX7_row 137 = .ok (.iadd, 1) := by decide +kernel
theorem dX7_row_138 : decode cX7_row 138 = .ok (.iload_n 2, 1) := by decide +kernel
theorem dX7_row_139 : decode cX7_row 139 = .ok (.invokevirtual 117, 3) := by decide +kernel
theorem dX7_row_142 : decode cX7_row 142 = .ok (.iinc 3 1, 3) := by decide +kernel
theorem dX7_row_145 : decode cX7_row 145 = .ok (.goto (-48), 3) := by decide +kernel
theorem dX7_row_148 : decode cX7_row 148 = .ok (.aload_n 0, 1) := by decide +kernel
theorem dX7_row_149 : decode cX7_row 149 = .ok (.aload_n 0, 1) := by decide +kernel
theorem dX7_row_150 : decode cX7_row 150 = .ok (.getfield 12, 3) := by decide +kernel
theorem dX7_row_153 : decode cX7_row 153 = .ok (.getfield 292, 3) := by decide +kernel
theorem dX7_row_156 : decode cX7_row 156 = .ok (.getfield 121, 3) := by decide +kernel
theorem dX7_row_159 : decode cX7_row 159 = .ok (.invokevirtual 77, 3) := by decide +kernel
theorem dX7_row_162 : decode cX7_row 162 = .ok (.ireturn, 1) := by decide +kernel
theorem dX7_call_0 : decode cX7_call 0 = .ok (.iload_n 1, 1) := by decide +kernel
theorem dX7_call_1 : decode cX7_call 1 = .ok (.iconst 0, 1) := by decide +kernel
theorem dX7_call_2 : decode cX7_call 2 = .ok (.bipush 100, 2) := by decide +kernel
theorem dX7_call_4 : decode cX7_call 4 = .ok (.invokestatic 80, 3) := by decide +kernel
theorem dX7_call_7 : decode cX7_call 7 = .ok (.ifCond .eq 14, 3) := by decide +kernel
theorem dX7_call_10 : decode cX7_call 10 = .ok (.aload_n 0, 1) := by decide +kernel
theorem dX7_call_11 : decode cX7_call 11 = .ok (.getfield 12, 3) := by decide +kernel
theorem dX7_call_14 : decode cX7_call 14 = .ok (.iload_n 1, 1) := by decide +kernel
theorem dX7_call_15 : decode cX7_call 15 = .ok (.invokevirtual 295, 3) := by decide +kernel
theorem dX7_call_18 : decode cX7_call 18 = .ok (.goto 4, 3) := by decide +kernel
theorem dX7_call_21 : decode cX7_call 21 = .ok (.iconst (-1), 1) := by decide +kernel
theorem dX7_call_22 : decode cX7_call 22 = .ok (.ireturn, 1) := by decide +kernel
theorem dX7_when_0 : decode cX7_when 0 = .ok (.aload_n 0, 1) := by decide +kernel
theorem dX7_when_1 : decode cX7_when 1 = .ok (.getfield 12, 3) := by decide +kernel
theorem dX7_when_4 : decode cX7_when 4 = .ok (.getfield 292, 3) := by decide +kernel
theorem dX7_when_7 : decode cX7_when 7 = .ok (.getfield 121, 3) := by decide +kernel
theorem dX7_when_10 : decode cX7_when 10 = .ok (.ifCond .ne 5, 3) := by decide +kernel
theorem dX7_when_13 : decode cX7_when 13 = .ok (.iconst (-1), 1) := by decide +kernel
theorem dX7_when_14 : decode cX7_when 14 = .ok (.ireturn, 1) := by decide +kernel
theorem dX7_when_15 : decode cX7_when 15 = .ok (.iconst 0, 1) := by decide +kernel
theorem dX7_when_16 : decode cX7_when 16 = .ok (.istore_n 1, 1) := by decide +kernel
theorem dX7_when_17 : decode cX7_when 17 = .ok (.aload_n 0, 1) := by decide +kernel
theorem dX7_when_18 : decode cX7_when 18 = .ok (.getfield 12, 3) := by decide +kernel
theorem dX7_when_21 : decode cX7_when 21 = .ok (.iconst 0, 1) := by decide +kernel
theorem dX7_when_22 : decode cX7_when 22 = .ok (.invokevirtual 295, 3) := by decide +kernel
theorem dX7_when_25 : decode cX7_when 25 = .ok (.istore_n 2, 1) := by decide +kernel
theorem dX7_when_26 : decode cX7_when 26 = .ok (.iconst 1, 1) := by decide +kernel
theorem dX7_when_27 : decode cX7_when 27 = .ok (.istore_n 3, 1) := by decide +kernel
theorem dX7_when_28 : decode cX7_when 28 = .ok (.iload_n 3, 1) := by decide +kernel
theorem dX7_when_29 : decode cX7_when 29 = .ok (.bipush 100, 2) := by decide +kernel
theorem dX7_when_31 : decode cX7_when 31 = .ok (.if_icmp .gt 30, 3) := by decide +kernel
theorem dX7_when_34 : decode cX7_when 34 = .ok (.aload_n 0, 1) := by decide +kernel
theorem dX7_when_35 : decode cX7_when 35 = .ok (.getfield 12, 3) := by decide +kernel
theorem dX7_when_38 : decode cX7_when 38 = .ok (.iload_n 3, 1) := by decide +kernel
theorem dX7_when_39 : decode cX7_when 39 = .ok (.invokevirtual 295, 3) := by decide +kernel
theorem dX7_when_42 : decode cX7_when 42 = .ok (.istore 4, 2) := by decide +kernel
theorem dX7_when_44 : decode cX7_when 44 = .ok (.iload 4, 2) := by decide +kernel
theorem dX7_when_46 : decode cX7_when 46 = .ok (.iload_n 2, 1) := by decide +kernel
theorem dX7_when_47 : decode cX7_when 47 = .ok (.if_icmp .gt 8, 3) := by decide +kernel
theorem dX7_when_50 : decode cX7_when 50 = .ok (.iload_n 3, 1) := by decide +kernel
theorem dX7_when_51 : decode cX7_when 51 = .ok (.istore_n 1, 1) := by decide +kernel
theorem dX7_when_52 : decode cX7_when 52 = .ok (.iload 4, 2) := by decide +kernel
theorem dX7_when_54 : decode cX7_when 54 = .ok (.istore_n 2, 1) := by decide +kernel
theorem dX7_when_55 : decode cX7_when 55 = .ok (.iinc 3 1, 3) := by decide +kernel
theorem dX7_when_58 : decode cX7_when 58 = .ok (.goto (-30), 3) := by decide +kernel
theorem dX7_when_61 : decode cX7_when 61 = .ok (.iload_n 1, 1) := by decide +kernel
theorem dX7_when_62 : decode cX7_when 62 = .ok (.ireturn, 1) := by decide +kernel
theorem dX7_tower_0 : decode cX7_tower 0 = .ok (.iload_n 1, 1) := by decide +kernel
theorem dX7_tower_1 : decode cX7_tower 1 = .ok (.iconst 1, 1) := by decide +kernel
theorem dX7_tower_2 : decode cX7_tower 2 = .ok (.sipush 200, 3) := by decide +kernel
theorem dX7_tower_5 : decode cX7_tower 5 = .ok (.invokestatic 80, 3) := by decide +kernel
theorem dX7_tower_8 : decode cX7_tower 8 = .ok (.ifCond .eq 48, 3) := by decide +kernel
theorem dX7_tower_11 : decode cX7_tower 11 = .ok (.iload_n 2, 1) := by decide +kernel
theorem dX7_tower_12 : decode cX7_tower 12 = .ok (.iconst 0, 1) := by decide +kernel
theorem dX7_tower_13 : decode cX7_tower 13 = .ok (.bipush 100, 2) := by decide +kernel
theorem dX7_tower_15 : decode cX7_tower 15 = .ok (.invokestatic 80, 3) := by decide +kernel
theorem dX7_tower_18 : decode cX7_tower 18 = .ok (.ifCond .eq 38, 3) := by decide +kernel
theorem dX7_tower_21 : decode cX7_tower 21 = .ok (.iload_n 3, 1) := by decide +kernel
theorem dX7_tower_22 : decode cX7_tower 22 = .ok (.iconst 0, 1) := by decide +kernel
theorem dX7_tower_23 : decode cX7_tower 23 = .ok (.sipush 400, 3) := by decide +kernel
theorem dX7_tower_26 : decode cX7_tower 26 = .ok (.invokestatic 80, 3) := by decide +kernel
theorem dX7_tower_29 : decode cX7_tower 29 = .ok (.ifCond .eq 27, 3) := by decide +kernel
theorem dX7_tower_32 : decode cX7_tower 32 = .ok (.iload 4, 2) := by decide +kernel
theorem dX7_tower_34 : decode cX7_tower 34 = .ok (.iconst 0, 1) := by decide +kernel
theorem dX7_tower_35 : decode cX7_tower 35 = .ok (.getstatic 94, 3) := by decide +kernel
theorem dX7_tower_38 : decode cX7_tower 38 = .ok (.iconst 3, 1) := by decide +kernel
theorem dX7_tower_39 : decode cX7_tower 39 = .ok (.iaload, 1) := by decide +kernel
theorem dX7_tower_40 : decode cX7_tower 40 = .ok (.invokestatic 80, 3) := by decide +kernel
theorem dX7_tower_43 : decode cX7_tower 43 = .ok (.ifCond .eq 13, 3) := by decide +kernel
theorem dX7_tower_46 : decode cX7_tower 46 = .ok (.iload 5, 2) := by decide +kernel
theorem dX7_tower_48 : decode cX7_tower 48 = .ok (.iconst 0, 1) := by decide +kernel
theorem dX7_tower_49 : decode cX7_tower 49 = .ok (.iconst 1, 1) := by decide +kernel
theorem dX7_tower_50 : decode cX7_tower 50 = .ok (.invokestatic 80, 3) := by decide +kernel
theorem dX7_tower_53 : decode cX7_tower 53 = .ok (.ifCond .ne 9, 3) := by decide +kernel
theorem dX7_tower_56 : decode cX7_tower 56 = .ok (.aload_n 0, 1) := by decide +kernel
theorem dX7_tower_57 : decode cX7_tower 57 = .ok (.iconst (-1), 1) := by decide +kernel
theorem dX7_tower_58 : decode cX7_tower 58 = .ok (.invokevirtual 70, 3) := by decide +kernel
theorem dX7_tower_61 : decode cX7_tower 61 = .ok (.ireturn, 1) := by decide +kernel
theorem dX7_tower_62 : decode cX7_tower 62 = .ok (.aload_n 0, 1) := by decide +kernel
theorem dX7_tower_63 : decode cX7_tower 63 = .ok (.getfield 12, 3) := by decide +kernel
theorem dX7_tower_66 : decode cX7_tower 66 = .ok (.getfield 298, 3) := by decide +kernel
theorem dX7_tower_69 : decode cX7_tower 69 = .ok (.invokevirtual 108, 3) := by decide +kernel
theorem dX7_tower_72 : decode cX7_tower 72 = .ok (.ifCond .eq 10, 3) := by decide +kernel
theorem dX7_tower_75 : decode cX7_tower 75 = .ok (.aload_n 0, 1) := by decide +kernel
theorem dX7_tower_76 : decode cX7_tower 76 = .ok (.bipush (-5), 2) := by decide +kernel
theorem dX7_tower_78 : decode cX7_tower 78 = .ok (.invokevirtual 70, 3) := by decide +kernel
theorem dX7_tower_81 : decode cX7_tower 81 = .ok (.ireturn, 1) := by decide +kernel
theorem dX7_tower_82 : decode cX7_tower 82 = .ok (.aload_n 0, 1) := by decide +kernel
theorem dX7_tower_83 : decode cX7_tower 83 = .ok (.getfield 12, 3) := by decide +kernel
theorem dX7_tower_86 : decode cX7_tower 86 = .ok (.getfield 298, 3) := by decide +kernel
theorem dX7_tower_89 : decode cX7_tower 89 = .ok (.invokevirtual 114, 3) := by decide +kernel
theorem dX7_tower_92 : decode cX7_tower 92 = .ok (.aload_n 0, 1) := by decide +kernel
theorem dX7_tower_93 : decode cX7_tower 93 = .ok (.getfield 12, 3) := by decide +kernel
theorem dX7_tower_96 : decode cX7_tower 96 = .ok (.getfield 298, 3) := by decide +kernel
theorem dX7_tower_99 : decode cX7_tower 99 = .ok (.iconst 0, 1) := by decide +kernel
theorem dX7_tower_100 : decode cX7_tower 100 = .ok (.iload_n 1, 1) := by decide +kernel
theorem dX7_tower_101 : decode cX7_tower 101 = .ok (.invokevirtual 117, 3) := by decide +kernel
theorem dX7_tower_104 : decode cX7_tower 104 = .ok (.aload_n 0, 1) := by decide +kernel
theorem dX7_tower_105 : decode cX7_tower 105 = .ok (.getfield 12, 3) := by decide +kernel
theorem dX7_tower_108 : decode cX7_tower 108 = .ok (.getfield 298, 3) := by decide +kernel
theorem dX7_tower_111 : decode cX7_tower 111 = .ok (.iconst 1, 1) := by decide +kernel
theorem dX7_tower_112 : decode cX7_tower 112 = .ok (.iload_n 2, 1) := by decide +kernel
theorem dX7_tower_113 : decode cX7_tower 113 = .ok (.invokevirtual 117, 3) := by decide +kernel
theorem dX7_tower_116 : decode cX7_tower 116 = .ok (.aload_n 0, 1) := by decide +kernel
theorem dX7_tower_117 : decode cX7_tower 117 = .ok (.getfield 12, 3) := by decide +kernel
theorem dX7_tower_120 : decode cX7_tower 120 = .ok (.getfield 298, 3) := by decide +kernel
theorem dX7_tower_123 : decode cX7_tower 123 = .ok (.iconst 2, 1) := by decide +kernel
theorem dX7_tower_124 : decode cX7_tower 124 = .ok (.iload_n 3, 1) := by decide +kernel
theorem dX7_tower_125 : decode cX7_tower 125 = .ok (.invokevirtual 117, 3) := by decide +kernel
theorem dX7_tower_128 : decode cX7_tower 128 = .ok (.aload_n 0, 1) := by decide +kernel
theorem dX7_tower_129 : decode cX7_tower 129 = .ok (.getfield 12, 3) := by decide +kernel
theorem dX7_tower_132 : decode cX7_tower 132 = .ok (.getfield 298, 3) := by decide +kernel
theorem dX7_tower_135 : decode cX7_tower 135 = .ok (.iconst 3, 1) := by decide +kernel
theorem dX7_tower_136 : decode cX7_tower 136 = .ok (.iload 4, 2) := by decide +kernel
theorem dX7_tower_138 : decode cX7_tower 138 = .ok (.invokevirtual 117, 3) := by decide +kernel
theorem dX7_tower_141 : decode cX7_tower 141 = .ok (.aload_n 0, 1) := by decide +kernel
theorem dX7_tower_142 : decode cX7_tower 142 = .ok (.getfield 12, 3) := by decide +kernel
theorem dX7_tower_145 : decode cX7_tower 145 = .ok (.getfield 298, 3) := by decide +kernel
theorem dX7_tower_148 : decode cX7_tower 148 = .ok (.iconst 4, 1) := by decide +kernel
theorem dX7_tower_149 : decode cX7_tower 149 = .ok (.iload 5, 2) := by decide +kernel
theorem dX7_tower_151 : decode cX7_tower 151 = .ok (.invokevirtual 117, 3) := by decide +kernel
theorem dX7_tower_154 : decode cX7_tower 154 = .ok (.aload_n 0, 1) := by decide +kernel
theorem dX7_tower_155 : decode cX7_tower 155 = .ok (.aload_n 0, 1) := by decide +kernel
theorem dX7_tower_156 : decode cX7_tower 156 = .ok (.getfield 12, 3) := by decide +kernel
theorem dX7_tower_159 : decode cX7_tower 159 = .ok (.getfield 298, 3) := by decide +kernel
theorem dX7_tower_162 : decode cX7_tower 162 = .ok (.getfield 121, 3) := by decide +kernel
theorem dX7_tower_165 : decode cX7_tower 165 = .ok (.iconst 1, 1) := by decide +kernel
theorem dX7_tower_166 : decode cX7_tower 166 = .ok (.isub, 1) := by decide +kernel
theorem dX7_tower_167 : decode cX7_tower 167 = .ok (.invokevirtual 77, 3) := by decide +kernel
theorem dX7_tower_170 : decode cX7_tower 170 = .ok (.ireturn, 1) := by decide +kernel
theorem dX7_first_0 : decode cX7_first 0 = .ok (.aload_n 0, 1) := by decide +kernel
theorem dX7_first_1 : decode cX7_first 1 = .ok (.iload_n 1, 1) := by decide +kernel
theorem dX7_first_2 : decode cX7_first 2 = .ok (.invokevirtual 186, 3) := by decide +kernel
theorem dX7_first_5 : decode cX7_first 5 = .ok (.astore_n 2, 1) := by decide +kernel
theorem dX7_first_6 : decode cX7_first 6 = .ok (.aload_n 2, 1) := by decide +kernel
theorem dX7_first_7 : decode cX7_first 7 = .ok (.ifnonnull 5, 3) := by decide +kernel
theorem dX7_first_10 : decode cX7_first 10 = .ok (.iconst (-1), 1) := by decide +kernel
theorem dX7_first_11 : decode cX7_first 11 = .ok (.ireturn, 1) := by decide +kernel
theorem dX7_first_12 : decode cX7_first 12 = .ok (.iconst (-1), 1) := by decide +kernel
theorem dX7_first_13 : decode cX7_first 13 = .ok (.istore_n 3, 1) := by decide +kernel
theorem dX7_first_14 : decode cX7_first 14 = .ok (.lconst 0, 1) := by decide +kernel
theorem dX7_first_15 : decode cX7_first 15 = .ok (.lstore 4, 2) := by decide +kernel
theorem dX7_first_17 : decode cX7_first 17 = .ok (.iconst 0, 1) := by decide +kernel
theorem dX7_first_18 : decode cX7_first 18 = .ok (.istore 6, 2) := by decide +kernel
theorem dX7_first_20 : decode cX7_first 20 = .ok (.iload 6, 2) := by decide +kernel
theorem dX7_first_22 : decode cX7_first 22 = .ok (.aload_n 0, 1) := by decide +kernel
theorem dX7_first_23 : decode cX7_first 23 = .ok (.getfield 12, 3) := by decide +kernel
theorem dX7_first_26 : decode cX7_first 26 = .ok (.getfield 298, 3) := by decide +kernel
theorem dX7_first_29 : decode cX7_first 29 = .ok (.getfield 121, 3) := by decide +kernel
theorem dX7_first_32 : decode cX7_first 32 = .ok (.if_icmp .ge 66, 3) := by decide +kernel
theorem dX7_first_35 : decode cX7_first 35 = .ok (.aload_n 0, 1) := by decide +kernel
theorem dX7_first_36 : decode cX7_first 36 = .ok (.getfield 48, 3) := by decide +kernel
theorem dX7_first_39 : decode cX7_first 39 = .ok (.aload_n 0, 1) := by decide +kernel
theorem dX7_first_40 : decode cX7_first 40 = .ok (.getfield 12, 3) := by decide +kernel
theorem dX7_first_43 : decode cX7_first 43 = .ok (.iload 6, 2) := by decide +kernel
theorem dX7_first_45 : decode cX7_first 45 = .ok (.invokevirtual 301, 3) := by decide +kernel
theorem dX7_first_48 : decode cX7_first 48 = .ok (.aload_n 0, 1) := by decide +kernel
theorem dX7_first_49 : decode cX7_first 49 = .ok (.getfield 48, 3) := by decide +kernel
theorem dX7_first_52 : decode cX7_first 52 = .ok (.aload_n 2, 1) := by decide +kernel
theorem dX7_first_53 : decode cX7_first 53 = .ok (.sipush 257, 3) := by decide +kernel
theorem dX7_first_56 : decode cX7_first 56 = .ok (.invokevirtual 305, 3) := by decide +kernel
theorem dX7_first_59 : decode cX7_first 59 = .ok (.ifCond .eq 33, 3) := by decide +kernel
theorem dX7_first_62 : decode cX7_first 62 = .ok (.iload_n 3, 1) := by decide +kernel
theorem dX7_first_63 : decode cX7_first 63 = .ok (.iconst (-1), 1) := by decide +kernel
theorem dX7_first_64 : decode cX7_first 64 = .ok (.if_icmp .eq 16, 3) := by decide +kernel
theorem dX7_first_67 : decode cX7_first 67 = .ok (.aload_n 0, 1) := by decide +kernel
theorem dX7_first_68 : decode cX7_first 68 = .ok (.getfield 48, 3) := by decide +kernel
theorem dX7_first_71 : decode cX7_first 71 = .ok (.getfield 309, 3) := by decide +kernel
theorem dX7_first_74 : decode cX7_first 74 = .ok (.lload 4, 2) := by decide +kernel
theorem dX7_first_76 : decode cX7_first 76 = .ok (.lcmp, 1) := by decide +kernel
theorem dX7_first_77 : decode cX7_first 77 = .ok (.ifCond .le 15, 3) := by decide +kernel
theorem dX7_first_80 : decode cX7_first 80 = .ok (.iload 6, 2) := by decide +kernel
theorem dX7_first_82 : decode cX7_first 82 = .ok (.istore_n 3, 1) := by decide +kernel
theorem dX7_first_83 : decode cX7_first 83 = .ok (.aload_n 0, 1) := by decide +kernel
theorem dX7_first_84 : decode cX7_first 84 = .ok (.getfield 48, 3) := by decide +kernel
theorem dX7_first_87 : decode cX7_first 87 = .ok (.getfield 309, 3) := by decide +kernel
theorem dX7_first_90 : decode cX7_first 90 = .ok (.lstore 4, 2) := by decide +kernel
theorem dX7_first_92 : decode cX7_first 92 = .ok (.iinc 6 1, 3) := by decide +kernel
theorem dX7_first_95 : decode cX7_first 95 = .ok (.goto (-75), 3) := by decide +kernel
theorem dX7_first_98 : decode cX7_first 98 = .ok (.iload_n 3, 1) := by decide +kernel
theorem dX7_first_99 : decode cX7_first 99 = .ok (.ireturn, 1) := by decide +kernel
theorem dX7_image_0 : decode cX7_image 0 = .ok (.iload_n 1, 1) := by decide +kernel
theorem dX7_image_1 : decode cX7_image 1 = .ok (.iconst 0, 1) := by decide +kernel
theorem dX7_image_2 : decode cX7_image 2 = .ok (.iconst 1, 1) := by decide +kernel
theorem dX7_image_3 : decode cX7_image 3 = .ok (.invokestatic 80, 3) := by decide +kernel
theorem dX7_image_6 : decode cX7_image 6 = .ok (.ifCond .ne 9, 3) := by decide +kernel
theorem dX7_image_9 : decode cX7_image 9 = .ok (.aload_n 0, 1) := by decide +kernel
theorem dX7_image_10 : decode cX7_image 10 = .ok (.iconst (-1), 1) := by decide +kernel
theorem dX7_image_11 : decode cX7_image 11 = .ok (.invokevirtual 70, 3) := by decide +kernel
theorem dX7_image_14 : decode cX7_image 14 = .ok (.ireturn, 1) := by decide +kernel
theorem dX7_image_15 : decode cX7_image 15 = .ok (.aload_n 0, 1) := by decide +kernel
theorem dX7_image_16 : decode cX7_image 16 = .ok (.getfield 16, 3) := by decide +kernel
theorem dX7_image_19 : decode cX7_image 19 = .ok (.iload_n 1, 1) := by decide +kernel
theorem dX7_image_20 : decode cX7_image 20 = .ok (.aaload, 1) := by decide +kernel
theorem dX7_image_21 : decode cX7_image 21 = .ok (.astore_n 2, 1) := by decide +kernel
theorem dX7_image_22 : decode cX7_image 22 = .ok (.aload_n 2, 1) := by decide +kernel
theorem dX7_image_23 : decode cX7_image 23 = .ok (.ifnonnull 18, 3) := by decide +kernel
theorem dX7_image_26 : decode cX7_image 26 = .ok (.new 9, 3) := by decide +kernel
theorem dX7_image_29 : decode cX7_image 29 = .ok (.dup, 1) := by decide +kernel
theorem dX7_image_30 : decode cX7_image 30 = .ok (.invokespecial 11, 3) := by decide +kernel
theorem dX7_image_33 : decode cX7_image 33 = .ok (.astore_n 2, 1) := by decide +kernel
theorem dX7_image_34 : decode cX7_image 34 = .ok (.aload_n 0, 1) := by decide +kernel
theorem dX7_image_35 : decode cX7_image 35 = .ok (.getfield 16, 3) := by decide +kernel
theorem dX7_image_38 : decode cX7_image 38 = .ok (.iload_n 1, 1) := by decide +kernel
theorem dX7_image_39 : decode cX7_image 39 = .ok (.aload_n 2, 1) := by decide +kernel
theorem dX7_image_40 : decode cX7_image 40 = .ok (.aastore, 1) := by decide +kernel
theorem dX7_image_41 : decode cX7_image 41 = .ok (.aload_n 2, 1) := by decide +kernel
theorem dX7_image_42 : decode cX7_image 42 = .ok (.aload_n 0, 1) := by decide +kernel
theorem dX7_image_43 : decode cX7_image 43 = .ok (.getfield 12, 3) := by decide +kernel
theorem dX7_image_46 : decode cX7_image 46 = .ok (.invokevirtual 313, 3) := by decide +kernel
theorem dX7_image_49 : decode cX7_image 49 = .ok (.aload_n 0, 1) := by decide +kernel
theorem dX7_image_50 : decode cX7_image 50 = .ok (.iconst 0, 1) := by decide +kernel
theorem dX7_image_51 : decode cX7_image 51 = .ok (.invokevirtual 77, 3) := by decide +kernel
theorem dX7_image_54 : decode cX7_image 54 = .ok (.ireturn, 1) := by decide +kernel
theorem dX7_back_0 : decode cX7_back 0 = .ok (.iload_n 1, 1) := by decide +kernel
theorem dX7_back_1 : decode cX7_back 1 = .ok (.iconst 0, 1) := by decide +kernel
theorem dX7_back_2 : decode cX7_back 2 = .ok (.iconst 1, 1) := by decide +kernel
theorem dX7_back_3 : decode cX7_back 3 = .ok (.invokestatic 80, 3) := by decide +kernel
theorem dX7_back_6 : decode cX7_back 6 = .ok (.ifCond .ne 9, 3) := by decide +kernel
theorem dX7_back_9 : decode cX7_back 9 = .ok (.aload_n 0, 1) := by decide +kernel
theorem dX7_back_10 : decode cX7_back 10 = .ok (.iconst (-1), 1) := by decide +kernel
theorem dX7_back_11 : decode cX7_back 11 = .ok (.invokevirtual 70, 3) := by decide +kernel
theorem dX7_back_14 : decode cX7_back 14 = .ok (.ireturn, 1) := by decide +kernel
theorem dX7_back_15 : decode cX7_back 15 = .ok (.aload_n 0, 1) := by decide +kernel
theorem dX7_back_16 : decode cX7_back 16 = .ok (.getfield 16, 3) := by decide +kernel
theorem dX7_back_19 : decode cX7_back 19 = .ok (.iload_n 1, 1) := by decide +kernel
theorem dX7_back_20 : decode cX7_back 20 = .ok (.aaload, 1) := by decide +kernel
theorem dX7_back_21 : decode cX7_back 21 = .ok (.astore_n 2, 1) := by decide +kernel
theorem dX7_back_22 : decode cX7_back 22 = .ok (.aload_n 2, 1) := by decide +kernel
theorem dX7_back_23 : decode cX7_back 23 = .ok (.ifnonnull 10, 3) := by decide +kernel
theorem dX7_back_26 : decode cX7_back 26 = .ok (.aload_n 0, 1) := by decide +kernel
theorem dX7_back_27 : decode cX7_back 27 = .ok (.bipush (-2), 2) := by decide +kernel
theorem dX7_back_29 : decode cX7_back 29 = .ok (.invokevirtual 70, 3) := by decide +kernel
theorem dX7_back_32 : decode cX7_back 32 = .ok (.ireturn, 1) := by decide +kernel
theorem dX7_back_33 : decode cX7_back 33 = .ok (.aload_n 0, 1) := by decide +kernel
theorem dX7_back_34 : decode cX7_back 34 = .ok (.getfield 12, 3) := by decide +kernel
theorem dX7_back_37 : decode cX7_back 37 = .ok (.aload_n 2, 1) := by decide +kernel
theorem dX7_back_38 : decode cX7_back 38 = .ok (.invokevirtual 313, 3) := by decide +kernel
theorem dX7_back_41 : decode cX7_back 41 = .ok (.aload_n 0, 1) := by decide +kernel
theorem dX7_back_42 : decode cX7_back 42 = .ok (.iconst 0, 1) := by decide +kernel
theorem dX7_back_43 : decode cX7_back 43 = .ok (.invokevirtual 77, 3) := by decide +kernel
theorem dX7_back_46 : decode cX7_back 46 = .ok (.ireturn, 1) := by decide +kernel
theorem dX7_count_0 : decode cX7_count 0 = .ok (.iload_n 1, 1) := by decide +kernel
theorem dX7_count_1 : decode cX7_count 1 = .ok (.tableswitch 123 0 7 #[47, 58, 66, 77, 85, 96, 107, 118], 47) := by decide +kernel
theorem dX7_count_48 : decode cX7_count 48 = .ok (.aload_n 0, 1) := by decide +kernel
theorem dX7_count_49 : decode cX7_count 49 = .ok (.getfield 12, 3) := by decide +kernel
theorem dX7_count_52 : decode cX7_count 52 = .ok (.getfield 104, 3) := by decide +kernel
theorem dX7_count_55 : decode cX7_count 55 = .ok (.getfield 121, 3) := by decide +kernel
theorem dX7_count_58 : decode cX7_count 58 = .ok (.ireturn, 1) := by decide +kernel
theorem dX7_count_59 : decode cX7_count 59 = .ok (.aload_n 0, 1) := by decide +kernel
theorem dX7_count_60 : decode cX7_count 60 = .ok (.getfield 12, 3) := by decide +kernel
theorem dX7_count_63 : decode cX7_count 63 = .ok (.getfield 172, 3) := by decide +kernel
theorem dX7_count_66 : decode cX7_count 66 = .ok (.ireturn, 1) := by decide +kernel
theorem dX7_count_67 : decode cX7_count 67 = .ok (.aload_n 0, 1) := by decide +kernel
theorem dX7_count_68 : decode cX7_count 68 = .ok (.getfield 12, 3) := by decide +kernel
theorem dX7_count_71 : decode cX7_count 71 = .ok (.getfield 200, 3) := by decide +kernel
theorem dX7_count_74 : decode cX7_count 74 = .ok (.getfield 121, 3) := by decide +kernel
theorem dX7_count_77 : decode cX7_count 77 = .ok (.ireturn, 1) := by decide +kernel
theorem dX7_count_78 : decode cX7_count 78 = .ok (.aload_n 0, 1) := by decide +kernel
theorem dX7_count_79 : decode cX7_count 79 = .ok (.getfield 34, 3) := by decide +kernel
theorem dX7_count_82 : decode cX7_count 82 = .ok (.getfield 232, 3) := by decide +kernel
theorem dX7_count_85 : decode cX7_count 85 = .ok (.ireturn, 1) := by decide +kernel
theorem dX7_count_86 : decode cX7_count 86 = .ok (.aload_n 0, 1) := by decide +kernel
theorem dX7_count_87 : decode cX7_count 87 = .ok (.getfield 12, 3) := by decide +kernel
theorem dX7_count_90 : decode cX7_count 90 = .ok (.getfield 286, 3) := by decide +kernel
theorem dX7_count_93 : decode cX7_count 93 = .ok (.getfield 121, 3) := by decide +kernel
theorem dX7_count_96 : decode cX7_count 96 = .ok (.ireturn, 1) := by decide +kernel
theorem dX7_count_97 : decode cX7_count 97 = .ok (.aload_n 0, 1) := by decide +kernel
theorem dX7_count_98 : decode cX7_count 98 = .ok (.getfield 12, 3) := by decide +kernel
theorem dX7_count_101 : decode cX7_count 101 = .ok (.getfield 292, 3) := by decide +kernel
theorem dX7_count_104 : decode cX7_count 104 = .ok (.getfield 121, 3) := by decide +kernel
theorem dX7_count_107 : decode cX7_count 107 = .ok (.ireturn, 1) := by decide +kernel
theorem dX7_count_108 : decode cX7_count 108 = .ok (.aload_n 0, 1) := by decide +kernel
theorem dX7_count_109 : decode cX7_count 109 = .ok (.getfield 12, 3) := by decide +kernel
theorem dX7_count_112 : decode cX7_count 112 = .ok (.getfield 298, 3) := by decide +kernel
theorem dX7_count_115 : decode cX7_count 115 = .ok (.getfield 121, 3) := by decide +kernel
theorem dX7_count_118 : decode cX7_count 118 = .ok (.ireturn, 1) := by decide +kernel
theorem dX7_count_119 : decode cX7_count 119 = .ok (.aload_n 0, 1) := by decide +kernel
theorem dX7_count_120 : decode cX7_count 120 = .ok (.getfield 56, 3) := by decide +kernel
theorem dX7_count_123 : decode cX7_count 123 = .ok (.ireturn, 1) := by decide +kernel
theorem dX7_count_124 : decode cX7_count 124 = .ok (.iconst (-1), 1) := by decide +kernel
theorem dX7_count_125 : decode cX7_count 125 = .ok (.ireturn, 1) := by decide +kernel
theorem dX7_status_0 : decode cX7_status 0 = .ok (.aload_n 0, 1) := by decide +kernel
theorem dX7_status_1 : decode cX7_status 1 = .ok (.getfield 63, 3) := by decide +kernel
theorem dX7_status_4 : decode cX7_status 4 = .ok (.ireturn, 1) := by decide +kernel
theorem dX7_refuse_0 : decode cX7_refuse 0 = .ok (.aload_n 0, 1) := by decide +kernel
theorem dX7_refuse_1 : decode cX7_refuse 1 = .ok (.iload_n 1, 1) := by decide +kernel
theorem dX7_refuse_2 : decode cX7_refuse 2 = .ok (.putfield 63, 3) := by decide +kernel
theorem dX7_refuse_5 : decode cX7_refuse 5 = .ok (.iload_n 1, 1) := by decide +kernel
theorem dX7_refuse_6 : decode cX7_refuse 6 = .ok (.ireturn, 1) := by decide +kernel
theorem dX7_accept_0 : decode cX7_accept 0 = .ok (.aload_n 0, 1) := by decide +kernel
theorem dX7_accept_1 : decode cX7_accept 1 = .ok (.iconst 0, 1) := by decide +kernel
theorem dX7_accept_2 : decode cX7_accept 2 = .ok (.putfield 63, 3) := by decide +kernel
theorem dX7_accept_5 : decode cX7_accept 5 = .ok (.iload_n 1, 1) := by decide +kernel
theorem dX7_accept_6 : decode cX7_accept 6 = .ok (.ireturn, 1) := by decide +kernel
theorem dX7_isWithin_0 : decode cX7_isWithin 0 = .ok (.iload_n 0, 1) := by decide +kernel
theorem dX7_isWithin_1 : decode cX7_isWithin 1 = .ok (.iload_n 1, 1) := by decide +kernel
theorem dX7_isWithin_2 : decode cX7_isWithin 2 = .ok (.if_icmp .lt 12, 3) := by decide +kernel
theorem dX7_isWithin_5 : decode cX7_isWithin 5 = .ok (.iload_n 0, 1) := by decide +kernel
theorem dX7_isWithin_6 : decode cX7_isWithin 6 = .ok (.iload_n 2, 1) := by decide +kernel
theorem dX7_isWithin_7 : decode cX7_isWithin 7 = .ok (.if_icmp .gt 7, 3) := by decide +kernel
theorem dX7_isWithin_10 : decode cX7_isWithin 10 = .ok (.iconst 1, 1) := by decide +kernel
theorem dX7_isWithin_11 : decode cX7_isWithin 11 = .ok (.goto 4, 3) := by decide +kernel
theorem dX7_isWithin_14 : decode cX7_isWithin 14 = .ok (.iconst 0, 1) := by decide +kernel
theorem dX7_isWithin_15 : decode cX7_isWithin 15 = .ok (.ireturn, 1) := by decide +kernel
theorem dX7_isJoint_0 : decode cX7_isJoint 0 = .ok (.iload_n 0, 1) := by decide +kernel
theorem dX7_isJoint_1 : decode cX7_isJoint 1 = .ok (.ifCond .lt 13, 3) := by decide +kernel
theorem dX7_isJoint_4 : decode cX7_isJoint 4 = .ok (.iload_n 0, 1) := by decide +kernel
theorem dX7_isJoint_5 : decode cX7_isJoint 5 = .ok (.bipush 48, 2) := by decide +kernel
theorem dX7_isJoint_7 : decode cX7_isJoint 7 = .ok (.if_icmp .ge 7, 3) := by decide +kernel
theorem dX7_isJoint_10 : decode cX7_isJoint 10 = .ok (.iconst 1, 1) := by decide +kernel
theorem dX7_isJoint_11 : decode cX7_isJoint 11 = .ok (.goto 4, 3) := by decide +kernel
theorem dX7_isJoint_14 : decode cX7_isJoint 14 = .ok (.iconst 0, 1) := by decide +kernel
theorem dX7_isJoint_15 : decode cX7_isJoint 15 = .ok (.ireturn, 1) := by decide +kernel
theorem dX7_isWay_0 : decode cX7_isWay 0 = .ok (.iload_n 0, 1) := by decide +kernel
theorem dX7_isWay_1 : decode cX7_isWay 1 = .ok (.ifCond .lt 13, 3) := by decide +kernel
theorem dX7_isWay_4 : decode cX7_isWay 4 = .ok (.iload_n 0, 1) := by decide +kernel
theorem dX7_isWay_5 : decode cX7_isWay 5 = .ok (.bipush 8, 2) := by decide +kernel
theorem dX7_isWay_7 : decode cX7_isWay 7 = .ok (.if_icmp .ge 7, 3) := by decide +kernel
theorem dX7_isWay_10 : decode cX7_isWay 10 = .ok (.iconst 1, 1) := by decide +kernel
theorem dX7_isWay_11 : decode cX7_isWay 11 = .ok (.goto 4, 3) := by decide +kernel
theorem dX7_isWay_14 : decode cX7_isWay 14 = .ok (.iconst 0, 1) := by decide +kernel
theorem dX7_isWay_15 : decode cX7_isWay 15 = .ok (.ireturn, 1) := by decide +kernel
theorem dX7_isDay_0 : decode cX7_isDay 0 = .ok (.iload_n 0, 1) := by decide +kernel
theorem dX7_isDay_1 : decode cX7_isDay 1 = .ok (.ifCond .lt 14, 3) := by decide +kernel
theorem dX7_isDay_4 : decode cX7_isDay 4 = .ok (.iload_n 0, 1) := by decide +kernel
theorem dX7_isDay_5 : decode cX7_isDay 5 = .ok (.sipush 9999, 3) := by decide +kernel
theorem dX7_isDay_8 : decode cX7_isDay 8 = .ok (.if_icmp .gt 7, 3) := by decide +kernel
theorem dX7_isDay_11 : decode cX7_isDay 11 = .ok (.iconst 1, 1) := by decide +kernel
theorem dX7_isDay_12 : decode cX7_isDay 12 = .ok (.goto 4, 3) := by decide +kernel
theorem dX7_isDay_15 : decode cX7_isDay 15 = .ok (.iconst 0, 1) := by decide +kernel
theorem dX7_isDay_16 : decode cX7_isDay 16 = .ok (.ireturn, 1) := by decide +kernel
theorem dX7_isPerson_0 : decode cX7_isPerson 0 = .ok (.iload_n 0, 1) := by decide +kernel
theorem dX7_isPerson_1 : decode cX7_isPerson 1 = .ok (.ifCond .lt 13, 3) := by decide +kernel
theorem dX7_isPerson_4 : decode cX7_isPerson 4 = .ok (.iload_n 0, 1) := by decide +kernel
theorem dX7_isPerson_5 : decode cX7_isPerson 5 = .ok (.bipush 8, 2) := by decide +kernel
theorem dX7_isPerson_7 : decode cX7_isPerson 7 = .ok (.if_icmp .ge 7, 3) := by decide +kernel
theorem dX7_isPerson_10 : decode cX7_isPerson 10 = .ok (.iconst 1, 1) := by decide +kernel
theorem dX7_isPerson_11 : decode cX7_isPerson 11 = .ok (.goto 4, 3) := by decide +kernel
theorem dX7_isPerson_14 : decode cX7_isPerson 14 = .ok (.iconst 0, 1) := by decide +kernel
theorem dX7_isPerson_15 : decode cX7_isPerson 15 = .ok (.ireturn, 1) := by decide +kernel
theorem dX7_isFact_0 : decode cX7_isFact 0 = .ok (.iload_n 0, 1) := by decide +kernel
theorem dX7_isFact_1 : decode cX7_isFact 1 = .ok (.ifCond .lt 13, 3) := by decide +kernel
theorem dX7_isFact_4 : decode cX7_isFact 4 = .ok (.iload_n 0, 1) := by decide +kernel
theorem dX7_isFact_5 : decode cX7_isFact 5 = .ok (.bipush 8, 2) := by decide +kernel
theorem dX7_isFact_7 : decode cX7_isFact 7 = .ok (.if_icmp .ge 7, 3) := by decide +kernel
theorem dX7_isFact_10 : decode cX7_isFact 10 = .ok (.iconst 1, 1) := by decide +kernel
theorem dX7_isFact_11 : decode cX7_isFact 11 = .ok (.goto 4, 3) := by decide +kernel
theorem dX7_isFact_14 : decode cX7_isFact 14 = .ok (.iconst 0, 1) := by decide +kernel
theorem dX7_isFact_15 : decode cX7_isFact 15 = .ok (.ireturn, 1) := by decide +kernel
theorem dX7_isBlowing_0 : decode cX7_isBlowing 0 = .ok (.iload_n 1, 1) := by decide +kernel
theorem dX7_isBlowing_1 : decode cX7_isBlowing 1 = .ok (.ifCond .lt 30, 3) := by decide +kernel
theorem dX7_isBlowing_4 : decode cX7_isBlowing 4 = .ok (.iload_n 1, 1) := by decide +kernel
theorem dX7_isBlowing_5 : decode cX7_isBlowing 5 = .ok (.aload_n 0, 1) := by decide +kernel
theorem dX7_isBlowing_6 : decode cX7_isBlowing 6 = .ok (.getfield 12, 3) := by decide +kernel
theorem dX7_isBlowing_9 : decode cX7_isBlowing 9 = .ok (.getfield 104, 3) := by decide +kernel
theorem dX7_isBlowing_12 : decode cX7_isBlowing 12 = .ok (.getfield 121, 3) := by decide +kernel
theorem dX7_isBlowing_15 : decode cX7_isBlowing 15 = .ok (.if_icmp .ge 16, 3) := by decide +kernel
theorem dX7_isBlowing_18 : decode cX7_isBlowing 18 = .ok (.iload_n 2, 1) := by decide +kernel
theorem dX7_isBlowing_19 : decode cX7_isBlowing 19 = .ok (.ifCond .eq 8, 3) := by decide +kernel
theorem dX7_isBlowing_22 : decode cX7_isBlowing 22 = .ok (.iload_n 2, 1) := by decide +kernel
theorem dX7_isBlowing_23 : decode cX7_isBlowing 23 = .ok (.iconst 1, 1) := by decide +kernel
theorem dX7_isBlowing_24 : decode cX7_isBlowing 24 = .ok (.if_icmp .ne 7, 3) := by decide +kernel
theorem dX7_isBlowing_27 : decode cX7_isBlowing 27 = .ok (.iconst 1, 1) := by decide +kernel
theorem dX7_isBlowing_28 : decode cX7_isBlowing 28 = .ok (.goto 4, 3) := by decide +kernel
theorem dX7_isBlowing_31 : decode cX7_isBlowing 31 = .ok (.iconst 0, 1) := by decide +kernel
theorem dX7_isBlowing_32 : decode cX7_isBlowing 32 = .ok (.ireturn, 1) := by decide +kernel
theorem dX7_textAt_0 : decode cX7_textAt 0 = .ok (.iload_n 1, 1) := by decide +kernel
theorem dX7_textAt_1 : decode cX7_textAt 1 = .ok (.ifCond .lt 32, 3) := by decide +kernel
theorem dX7_textAt_4 : decode cX7_textAt 4 = .ok (.iload_n 1, 1) := by decide +kernel
theorem dX7_textAt_5 : decode cX7_textAt 5 = .ok (.aload_n 0, 1) := by decide +kernel
theorem dX7_textAt_6 : decode cX7_textAt 6 = .ok (.getfield 12, 3) := by decide +kernel
theorem dX7_textAt_9 : decode cX7_textAt 9 = .ok (.getfield 172, 3) := by decide +kernel
theorem dX7_textAt_12 : decode cX7_textAt 12 = .ok (.if_icmp .ge 21, 3) := by decide +kernel
theorem dX7_textAt_15 : decode cX7_textAt 15 = .ok (.iload_n 1, 1) := by decide +kernel
theorem dX7_textAt_16 : decode cX7_textAt 16 = .ok (.bipush 8, 2) := by decide +kernel
theorem dX7_textAt_18 : decode cX7_textAt 18 = .ok (.if_icmp .ge 15, 3) := by decide +kernel
theorem dX7_textAt_21 : decode cX7_textAt 21 = .ok (.aload_n 0, 1) := by decide +kernel
theorem dX7_textAt_22 : decode cX7_textAt 22 = .ok (.getfield 12, 3) := by decide +kernel
theorem dX7_textAt_25 : decode cX7_textAt 25 = .ok (.getfield 182, 3) := by decide +kernel
theorem dX7_textAt_28 : decode cX7_textAt 28 = .ok (.iload_n 1, 1) := by decide +kernel
theorem dX7_textAt_29 : decode cX7_textAt 29 = .ok (.aaload, 1) := by decide +kernel
theorem dX7_textAt_30 : decode cX7_textAt 30 = .ok (.goto 4, 3) := by decide +kernel
theorem dX7_textAt_33 : decode cX7_textAt 33 = .ok (.aconst_null, 1) := by decide +kernel
theorem dX7_textAt_34 : decode cX7_textAt 34 = .ok (.areturn, 1) := by decide +kernel
theorem dX7_writeBytes_0 : decode cX7_writeBytes 0 = .ok (.bipush 24, 2) := by decide +kernel
theorem dX7_writeBytes_2 : decode cX7_writeBytes 2 = .ok (.istore_n 2, 1) := by decide +kernel
theorem dX7_writeBytes_3 : decode cX7_writeBytes 3 = .ok (.iload_n 2, 1) := by decide +kernel
theorem dX7_writeBytes_4 : decode cX7_writeBytes 4 = .ok (.ifCond .lt 46, 3) := by decide +kernel
theorem dX7_writeBytes_7 : decode cX7_writeBytes 7 = .ok (.aload_n 0, 1) := by decide +kernel
theorem dX7_writeBytes_8 : decode cX7_writeBytes 8 = .ok (.getfield 56, 3) := by decide +kernel
theorem dX7_writeBytes_11 : decode cX7_writeBytes 11 = .ok (.sipush 400, 3) := by decide +kernel
theorem dX7_writeBytes_14 : decode cX7_writeBytes 14 = .ok (.if_icmp .lt 4, 3) := by decide +kernel
theorem dX7_writeBytes_17 : decode cX7_writeBytes 17 = .ok (.return_, 1) := by decide +kernel
theorem dX7_writeBytes_18 : decode cX7_writeBytes 18 = .ok (.aload_n 0, 1) := by decide +kernel
theorem dX7_writeBytes_19 : decode cX7_writeBytes 19 = .ok (.getfield 52, 3) := by decide +kernel
theorem dX7_writeBytes_22 : decode cX7_writeBytes 22 = .ok (.aload_n 0, 1) := by decide +kernel
theorem dX7_writeBytes_23 : decode cX7_writeBytes 23 = .ok (.getfield 56, 3) := by decide +kernel
theorem dX7_writeBytes_26 : decode cX7_writeBytes 26 = .ok (.iload_n 1, 1) := by decide +kernel
theorem dX7_writeBytes_27 : decode cX7_writeBytes 27 = .ok (.iload_n 2, 1) := by decide +kernel
theorem dX7_writeBytes_28 : decode cX7_writeBytes 28 = .ok (.iushr, 1) := by decide +kernel
theorem dX7_writeBytes_29 : decode cX7_writeBytes 29 = .ok (.sipush 255, 3) := by decide +kernel
theorem dX7_writeBytes_32 : decode cX7_writeBytes 32 = .ok (.iand, 1) := by decide +kernel
theorem dX7_writeBytes_33 : decode cX7_writeBytes 33 = .ok (.iastore, 1) := by decide +kernel
theorem dX7_writeBytes_34 : decode cX7_writeBytes 34 = .ok (.aload_n 0, 1) := by decide +kernel
theorem dX7_writeBytes_35 : decode cX7_writeBytes 35 = .ok (.dup, 1) := by decide +kernel
theorem dX7_writeBytes_36 : decode cX7_writeBytes 36 = .ok (.getfield 56, 3) := by decide +kernel
theorem dX7_writeBytes_39 : decode cX7_writeBytes 39 = .ok (.iconst 1, 1) := by decide +kernel
theorem dX7_writeBytes_40 : decode cX7_writeBytes 40 = .ok (.iadd, 1) := by decide +kernel
theorem dX7_writeBytes_41 : decode cX7_writeBytes 41 = .ok (.putfield 56, 3) := by decide +kernel
theorem dX7_writeBytes_44 : decode cX7_writeBytes 44 = .ok (.iinc 2 (-8), 3) := by decide +kernel
theorem dX7_writeBytes_47 : decode cX7_writeBytes 47 = .ok (.goto (-44), 3) := by decide +kernel
theorem dX7_writeBytes_50 : decode cX7_writeBytes 50 = .ok (.return_, 1) := by decide +kernel
theorem dX7_takeTape_0 : decode cX7_takeTape 0 = .ok (.aload_n 0, 1) := by decide +kernel
theorem dX7_takeTape_1 : decode cX7_takeTape 1 = .ok (.getfield 56, 3) := by decide +kernel
theorem dX7_takeTape_4 : decode cX7_takeTape 4 = .ok (.istore_n 1, 1) := by decide +kernel
theorem dX7_takeTape_5 : decode cX7_takeTape 5 = .ok (.aload_n 0, 1) := by decide +kernel
theorem dX7_takeTape_6 : decode cX7_takeTape 6 = .ok (.iconst 0, 1) := by decide +kernel
theorem dX7_takeTape_7 : decode cX7_takeTape 7 = .ok (.putfield 56, 3) := by decide +kernel
theorem dX7_takeTape_10 : decode cX7_takeTape 10 = .ok (.iload_n 1, 1) := by decide +kernel
theorem dX7_takeTape_11 : decode cX7_takeTape 11 = .ok (.ireturn, 1) := by decide +kernel
theorem dX7_needBy_0 : decode cX7_needBy 0 = .ok (.lconst 0, 1) := by decide +kernel
theorem dX7_needBy_1 : decode cX7_needBy 1 = .ok (.lstore 4, 2) := by decide +kernel
theorem dX7_needBy_3 : decode cX7_needBy 3 = .ok (.aload_n 0, 1) := by decide +kernel
theorem dX7_needBy_4 : decode cX7_needBy 4 = .ok (.getfield 25, 3) := by decide +kernel
theorem dX7_needBy_7 : decode cX7_needBy 7 = .ok (.invokevirtual 139, 3) := by decide +kernel
theorem dX7_needBy_10 : decode cX7_needBy 10 = .ok (.iconst 0, 1) := by decide +kernel
theorem dX7_needBy_11 : decode cX7_needBy 11 = .ok (.istore 6, 2) := by decide +kernel
theorem dX7_needBy_13 : decode cX7_needBy 13 = .ok (.iload 6, 2) := by decide +kernel
theorem dX7_needBy_15 : decode cX7_needBy 15 = .ok (.aload_n 0, 1) := by decide +kernel
theorem dX7_needBy_16 : decode cX7_needBy 16 = .ok (.getfield 12, 3) := by decide +kernel
theorem dX7_needBy_19 : decode cX7_needBy 19 = .ok (.getfield 104, 3) := by decide +kernel
theorem dX7_needBy_22 : decode cX7_needBy 22 = .ok (.getfield 121, 3) := by decide +kernel
theorem dX7_needBy_25 : decode cX7_needBy 25 = .ok (.if_icmp .ge 142, 3) := by decide +kernel
theorem dX7_needBy_28 : decode cX7_needBy 28 = .ok (.aload_n 0, 1) := by decide +kernel
theorem dX7_needBy_29 : decode cX7_needBy 29 = .ok (.getfield 25, 3) := by decide +kernel
theorem dX7_needBy_32 : decode cX7_needBy 32 = .ok (.iload 6, 2) := by decide +kernel
theorem dX7_needBy_34 : decode cX7_needBy 34 = .ok (.iconst 1, 1) := by decide +kernel
theorem dX7_needBy_35 : decode cX7_needBy 35 = .ok (.invokevirtual 142, 3) := by decide +kernel
theorem dX7_needBy_38 : decode cX7_needBy 38 = .ok (.aload_n 0, 1) := by decide +kernel
theorem dX7_needBy_39 : decode cX7_needBy 39 = .ok (.getfield 12, 3) := by decide +kernel
theorem dX7_needBy_42 : decode cX7_needBy 42 = .ok (.iload 6, 2) := by decide +kernel
theorem dX7_needBy_44 : decode cX7_needBy 44 = .ok (.invokevirtual 316, 3) := by decide +kernel
theorem dX7_needBy_47 : decode cX7_needBy 47 = .ok (.istore 7, 2) := by decide +kernel
theorem dX7_needBy_49 : decode cX7_needBy 49 = .ok (.aload_n 0, 1) := by decide +kernel
theorem dX7_needBy_50 : decode cX7_needBy 50 = .ok (.getfield 25, 3) := by decide +kernel
theorem dX7_needBy_53 : decode cX7_needBy 53 = .ok (.iload_n 2, 1) := by decide +kernel
theorem dX7_needBy_54 : decode cX7_needBy 54 = .ok (.bipush 8, 2) := by decide +kernel
theorem dX7_needBy_56 : decode cX7_needBy 56 = .ok (.idiv, 1) := by decide +kernel
theorem dX7_needBy_57 : decode cX7_needBy 57 = .ok (.iconst 0, 1) := by decide +kernel
theorem dX7_needBy_58 : decode cX7_needBy 58 = .ok (.invokevirtual 145, 3) := by decide +kernel
theorem dX7_needBy_61 : decode cX7_needBy 61 = .ok (.ifCond .eq 14, 3) := by decide +kernel
theorem dX7_needBy_64 : decode cX7_needBy 64 = .ok (.aload_n 0, 1) := by decide +kernel
theorem dX7_needBy_65 : decode cX7_needBy 65 = .ok (.getfield 25, 3) := by decide +kernel
theorem dX7_needBy_68 : decode cX7_needBy 68 = .ok (.iload_n 2, 1) := by decide +kernel
theorem dX7_needBy_69 : decode cX7_needBy 69 = .ok (.invokevirtual 319, 3) := by decide +kernel
theorem dX7_needBy_72 : decode cX7_needBy 72 = .ok (.goto 4, 3) := by decide +kernel
theorem dX7_needBy_75 : decode cX7_needBy 75 = .ok (.iconst 0, 1) := by decide +kernel
theorem dX7_needBy_76 : decode cX7_needBy 76 = .ok (.istore 8, 2) := by decide +kernel
theorem dX7_needBy_78 : decode cX7_needBy 78 = .ok (.aload_n 0, 1) := by decide +kernel
theorem dX7_needBy_79 : decode cX7_needBy 79 = .ok (.getfield 48, 3) := by decide +kernel
theorem dX7_needBy_82 : decode cX7_needBy 82 = .ok (.aload_n 0, 1) := by decide +kernel
theorem dX7_needBy_83 : decode cX7_needBy 83 = .ok (.getfield 12, 3) := by decide +kernel
theorem dX7_needBy_86 : decode cX7_needBy 86 = .ok (.iload_n 2, 1) := by decide +kernel
theorem dX7_needBy_87 : decode cX7_needBy 87 = .ok (.iload_n 3, 1) := by decide +kernel
theorem dX7_needBy_88 : decode cX7_needBy 88 = .ok (.invokevirtual 322, 3) := by decide +kernel
theorem dX7_needBy_91 : decode cX7_needBy 91 = .ok (.aload_n 0, 1) := by decide +kernel
theorem dX7_needBy_92 : decode cX7_needBy 92 = .ok (.getfield 48, 3) := by decide +kernel
theorem dX7_needBy_95 : decode cX7_needBy 95 = .ok (.iload 8, 2) := by decide +kernel
theorem dX7_needBy_97 : decode cX7_needBy 97 = .ok (.iload 7, 2) := by decide +kernel
theorem dX7_needBy_99 : decode cX7_needBy 99 = .ok (.invokevirtual 326, 3) := by decide +kernel
theorem dX7_needBy_102 : decode cX7_needBy 102 = .ok (.iload 7, 2) := by decide +kernel
theorem dX7_needBy_104 : decode cX7_needBy 104 = .ok (.ifCond .ne 17, 3) := by decide +kernel
theorem dX7_needBy_107 : decode cX7_needBy 107 = .ok (.aload_n 0, 1) := by decide +kernel
theorem dX7_needBy_108 : decode cX7_needBy 108 = .ok (.getfield 48, 3) := by decide +kernel
theorem dX7_needBy_111 : decode cX7_needBy 111 = .ok (.aload_n 1, 1) := by decide +kernel
theorem dX7_needBy_112 : decode cX7_needBy 112 = .ok (.sipush 258, 3) := by decide +kernel
theorem dX7_needBy_115 : decode cX7_needBy 115 = .ok (.invokevirtual 305, 3) := by decide +kernel
theorem dX7_needBy_118 : decode cX7_needBy 118 = .ok (.ifCond .eq 7, 3) := by decide +kernel
theorem dX7_needBy_121 : decode cX7_needBy 121 = .ok (.iconst 1, 1) := by decide +kernel
theorem dX7_needBy_122 : decode cX7_needBy 122 = .ok (.goto 4, 3) := by decide +kernel
theorem dX7_needBy_125 : decode cX7_needBy 125 = .ok (.iconst 0, 1) := by decide +kernel
theorem dX7_needBy_126 : decode cX7_needBy 126 = .ok (.istore 9, 2) := by decide +kernel
theorem dX7_needBy_128 : decode cX7_needBy 128 = .ok (.iload 9, 2) := by decide +kernel
theorem dX7_needBy_130 : decode cX7_needBy 130 = .ok (.ifCond .eq 31, 3) := by decide +kernel
theorem dX7_needBy_133 : decode cX7_needBy 133 = .ok (.aload_n 0, 1) := by decide +kernel
theorem dX7_needBy_134 : decode cX7_needBy 134 = .ok (.getfield 48, 3) := by decide +kernel
theorem dX7_needBy_137 : decode cX7_needBy 137 = .ok (.aload_n 1, 1) := by decide +kernel
theorem dX7_needBy_138 : decode cX7_needBy 138 = .ok (.sipush 256, 3) := by decide +kernel
theorem dX7_needBy_141 : decode cX7_needBy 141 = .ok (.invokevirtual 305, 3) := by decide +kernel
theorem dX7_needBy_144 : decode cX7_needBy 144 = .ok (.ifCond .eq 17, 3) := by decide +kernel
theorem dX7_needBy_147 : decode cX7_needBy 147 = .ok (.lload 4, 2) := by decide +kernel
theorem dX7_needBy_149 : decode cX7_needBy 149 = .ok (.aload_n 0, 1) := by decide +kernel
theorem dX7_needBy_150 : decode cX7_needBy 150 = .ok (.getfield 48, 3) := by decide +kernel
theorem dX7_needBy_153 : decode cX7_needBy 153 = .ok (.getfield 309, 3) := by decide +kernel
theorem dX7_needBy_156 : decode cX7_needBy 156 = .ok (.invokestatic 330, 3) := by decide +kernel
theorem dX7_needBy_159 : decode cX7_needBy 159 = .ok (.lstore 4, 2) := by decide +kernel
theorem dX7_needBy_161 : decode cX7_needBy 161 = .ok (.iinc 6 1, 3) := by decide +kernel
theorem dX7_needBy_164 : decode cX7_needBy 164 = .ok (.goto (-151), 3) := by decide +kernel
theorem dX7_needBy_167 : decode cX7_needBy 167 = .ok (.lload 4, 2) := by decide +kernel
theorem dX7_needBy_169 : decode cX7_needBy 169 = .ok (.l2i, 1) := by decide +kernel
theorem dX7_needBy_170 : decode cX7_needBy 170 = .ok (.ireturn, 1) := by decide +kernel
theorem dL_law_0 : decode cL_law 0 = .ok (.new 7, 3) := by decide +kernel
theorem dL_law_3 : decode cL_law 3 = .ok (.dup, 1) := by decide +kernel
theorem dL_law_4 : decode cL_law 4 = .ok (.invokespecial 9, 3) := by decide +kernel
theorem dL_law_7 : decode cL_law 7 = .ok (.astore_n 1, 1) := by decide +kernel
theorem dL_law_8 : decode cL_law 8 = .ok (.new 10, 3) := by decide +kernel
theorem dL_law_11 : decode cL_law 11 = .ok (.dup, 1) := by decide +kernel
theorem dL_law_12 : decode cL_law 12 = .ok (.invokespecial 12, 3) := by decide +kernel
theorem dL_law_15 : decode cL_law 15 = .ok (.astore_n 2, 1) := by decide +kernel
theorem dL_law_16 : decode cL_law 16 = .ok (.iconst 0, 1) := by decide +kernel
theorem dL_law_17 : decode cL_law 17 = .ok (.istore_n 3, 1) := by decide +kernel
theorem dL_law_18 : decode cL_law 18 = .ok (.iload_n 3, 1) := by decide +kernel
theorem dL_law_19 : decode cL_law 19 = .ok (.aload_n 0, 1) := by decide +kernel
theorem dL_law_20 : decode cL_law 20 = .ok (.arraylength, 1) := by decide +kernel
theorem dL_law_21 : decode cL_law 21 = .ok (.bipush 6, 2) := by decide +kernel
theorem dL_law_23 : decode cL_law 23 = .ok (.isub, 1) := by decide +kernel
theorem dL_law_24 : decode cL_law 24 = .ok (.if_icmp .gt 1403, 3) := by decide +kernel
theorem dL_law_27 : decode cL_law 27 = .ok (.aload_n 0, 1) := by decide +kernel
theorem dL_law_28 : decode cL_law 28 = .ok (.iload_n 3, 1) := by decide +kernel
theorem dL_law_29 : decode cL_law 29 = .ok (.iaload, 1) := by decide +kernel
theorem dL_law_30 : decode cL_law 30 = .ok (.bipush 63, 2) := by decide +kernel
theorem dL_law_32 : decode cL_law 32 = .ok (.iand, 1) := by decide +kernel
theorem dL_law_33 : decode cL_law 33 = .ok (.tableswitch 1388 0 39 #[175, 208, 251, 284, 327, 360, 393, 437, 480, 513, 576, 599, 612, 625, 668, 731, 764, 777, 800, 823, 836, 850, 873, 887, 910, 923, 966, 1019, 1052, 1095, 1138, 1171, 1184, 1207, 1220, 1283, 1306, 1329, 1352, 1375], 175) := by decide +kernel
theorem dL_law_208 : decode cL_law 208 = .ok (.aload_n 1, 1) := by decide +kernel
theorem dL_law_209 : decode cL_law 209 = .ok (.aload_n 0, 1) := by decide +kernel
theorem dL_law_210 : decode cL_law 210 = .ok (.iload_n 3, 1) := by decide +kernel
theorem dL_law_211 : decode cL_law 211 = .ok (.iconst 1, 1) := by decide +kernel
theorem dL_law_212 : decode cL_law 212 = .ok (.iadd, 1) := by decide +kernel
theorem dL_law_213 : decode cL_law 213 = .ok (.iaload, 1) := by decide +kernel
theorem dL_law_214 : decode cL_law 214 = .ok (.aload_n 0, 1) := by decide +kernel
theorem dL_law_215 : decode cL_law 215 = .ok (.iload_n 3, 1) := by decide +kernel
theorem dL_law_216 : decode cL_law 216 = .ok (.iconst 2, 1) := by decide +kernel
theorem dL_law_217 : decode cL_law 217 = .ok (.iadd, 1) := by decide +kernel
theorem dL_law_218 : decode cL_law 218 = .ok (.iaload, 1) := by decide +kernel
theorem dL_law_219 : decode cL_law 219 = .ok (.invokevirtual 13, 3) := by decide +kernel
theorem dL_law_222 : decode cL_law 222 = .ok (.aload_n 2, 1) := by decide +kernel
theorem dL_law_223 : decode cL_law 223 = .ok (.aload_n 0, 1) := by decide +kernel
theorem dL_law_224 : decode cL_law 224 = .ok (.iload_n 3, 1) := by decide +kernel
theorem dL_law_225 : decode cL_law 225 = .ok (.iconst 1, 1) := by decide +kernel
theorem dL_law_226 : decode cL_law 226 = .ok (.iadd, 1) := by decide +kernel
theorem dL_law_227 : decode cL_law 227 = .ok (.iaload, 1) := by decide +kernel
theorem dL_law_228 : decode cL_law 228 = .ok (.aload_n 0, 1) := by decide +kernel
theorem dL_law_229 : decode cL_law 229 = .ok (.iload_n 3, 1) := by decide +kernel
theorem dL_law_230 : decode cL_law 230 = .ok (.iconst 2, 1) := by decide +kernel
theorem dL_law_231 : decode cL_law 231 = .ok (.iadd, 1) := by decide +kernel
theorem dL_law_232 : decode cL_law 232 = .ok (.iaload, 1) := by decide +kernel
theorem dL_law_233 : decode cL_law 233 = .ok (.invokevirtual 17, 3) := by decide +kernel
theorem dL_law_236 : decode cL_law 236 = .ok (.if_icmp .eq 1185, 3) := by decide +kernel
theorem dL_law_239 : decode cL_law 239 = .ok (.iconst 0, 1) := by decide +kernel
theorem dL_law_240 : decode cL_law 240 = .ok (.ireturn, 1) := by decide +kernel
theorem dL_law_241 : decode cL_law 241 = .ok (.aload_n 1, 1) := by decide +kernel
theorem dL_law_242 : decode cL_law 242 = .ok (.aload_n 0, 1) := by decide +kernel
theorem dL_law_243 : decode cL_law 243 = .ok (.iload_n 3, 1) := by decide +kernel
theorem dL_law_244 : decode cL_law 244 = .ok (.iconst 1, 1) := by decide +kernel
theorem dL_law_245 : decode cL_law 245 = .ok (.iadd, 1) := by decide +kernel
theorem dL_law_246 : decode cL_law 246 = .ok (.iaload, 1) := by decide +kernel
theorem dL_law_247 : decode cL_law 247 = .ok (.aload_n 0, 1) := by decide +kernel
theorem dL_law_248 : decode cL_law 248 = .ok (.iload_n 3, 1) := by decide +kernel
theorem dL_law_249 : decode cL_law 249 = .ok (.iconst 2, 1) := by decide +kernel
theorem dL_law_250 : decode cL_law 250 = .ok (.iadd, 1) := by decide +kernel
theorem dL_law_251 : decode cL_law 251 = .ok (.iaload, 1) := by decide +kernel
theorem dL_law_252 : decode cL_law 252 = .ok (.aload_n 0, 1) := by decide +kernel
theorem dL_law_253 : decode cL_law 253 = .ok (.iload_n 3, 1) := by decide +kernel
theorem dL_law_254 : decode cL_law 254 = .ok (.iconst 3, 1) := by decide +kernel
theorem dL_law_255 : decode cL_law 255 = .ok (.iadd, 1) := by decide +kernel
theorem dL_law_256 : decode cL_law 256 = .ok (.iaload, 1) := by decide +kernel
theorem dL_law_257 : decode cL_law 257 = .ok (.invokevirtual 18, 3) := by decide +kernel
theorem dL_law_260 : decode cL_law 260 = .ok (.aload_n 2, 1) := by decide +kernel
theorem dL_law_261 : decode cL_law 261 = .ok (.aload_n 0, 1) := by decide +kernel
theorem dL_law_262 : decode cL_law 262 = .ok (.iload_n 3, 1) := by decide +kernel
theorem dL_law_263 : decode cL_law 263 = .ok (.iconst 1, 1) := by decide +kernel
theorem dL_law_264 : decode cL_law 264 = .ok (.iadd, 1) := by decide +kernel
theorem dL_law_265 : decode cL_law 265 = .ok (.iaload, 1) := by decide +kernel
theorem dL_law_266 : decode cL_law 266 = .ok (.aload_n 0, 1) := by decide +kernel
theorem dL_law_267 : decode cL_law 267 = .ok (.iload_n 3, 1) := by decide +kernel
theorem dL_law_268 : decode cL_law 268 = .ok (.iconst 2, 1) := by decide +kernel
theorem dL_law_269 : decode cL_law 269 = .ok (.iadd, 1) := by decide +kernel
theorem dL_law_270 : decode cL_law 270 = .ok (.iaload, 1) := by decide +kernel
theorem dL_law_271 : decode cL_law 271 = .ok (.aload_n 0, 1) := by decide +kernel
theorem dL_law_272 : decode cL_law 272 = .ok (.iload_n 3, 1) := by decide +kernel
theorem dL_law_273 : decode cL_law 273 = .ok (.iconst 3, 1) := by decide +kernel
theorem dL_law_274 : decode cL_law 274 = .ok (.iadd, 1) := by decide +kernel
theorem dL_law_275 : decode cL_law 275 = .ok (.iaload, 1) := by decide +kernel
theorem dL_law_276 : decode cL_law 276 = .ok (.invokevirtual 22, 3) := by decide +kernel
theorem dL_law_279 : decode cL_law 279 = .ok (.if_icmp .eq 1142, 3) := by decide +kernel
theorem dL_law_282 : decode cL_law 282 = .ok (.iconst 0, 1) := by decide +kernel
theorem dL_law_283 : decode cL_law 283 = .ok (.ireturn, 1) := by decide +kernel
theorem dL_law_284 : decode cL_law 284 = .ok (.aload_n 1, 1) := by decide +kernel
theorem dL_law_285 : decode cL_law 285 = .ok (.aload_n 0, 1) := by decide +kernel
theorem dL_law_286 : decode cL_law 286 = .ok (.iload_n 3, 1) := by decide +kernel
theorem dL_law_287 : decode cL_law 287 = .ok (.iconst 1, 1) := by decide +kernel
theorem dL_law_288 : decode cL_law 288 = .ok (.iadd, 1) := by decide +kernel
theorem dL_law_289 : decode cL_law 289 = .ok (.iaload, 1) := by decide +kernel
theorem dL_law_290 : decode cL_law 290 = .ok (.aload_n 0, 1) := by decide +kernel
theorem dL_law_291 : decode cL_law 291 = .ok (.iload_n 3, 1) := by decide +kernel
theorem dL_law_292 : decode cL_law 292 = .ok (.iconst 2, 1) := by decide +kernel
theorem dL_law_293 : decode cL_law 293 = .ok (.iadd, 1) := by decide +kernel
theorem dL_law_294 : decode cL_law 294 = .ok (.iaload, 1) := by decide +kernel
theorem dL_law_295 : decode cL_law 295 = .ok (.invokevirtual 23, 3) := by decide +kernel
theorem dL_law_298 : decode cL_law 298 = .ok (.aload_n 2, 1) := by decide +kernel
theorem dL_law_299 : decode cL_law 299 = .ok (.aload_n 0, 1) := by decide +kernel
theorem dL_law_300 : decode cL_law 300 = .ok (.iload_n 3, 1) := by decide +kernel
theorem dL_law_301 : decode cL_law 301 = .ok (.iconst 1, 1) := by decide +kernel
theorem dL_law_302 : decode cL_law 302 = .ok (.iadd, 1) := by decide +kernel
theorem dL_law_303 : decode cL_law 303 = .ok (.iaload, 1) := by decide +kernel
theorem dL_law_304 : decode cL_law 304 = .ok (.aload_n 0, 1) := by decide +kernel
theorem dL_law_305 : decode cL_law 305 = .ok (.iload_n 3, 1) := by decide +kernel
theorem dL_law_306 : decode cL_law 306 = .ok (.iconst 2, 1) := by decide +kernel
theorem dL_law_307 : decode cL_law 307 = .ok (.iadd, 1) := by decide +kernel
theorem dL_law_308 : decode cL_law 308 = .ok (.iaload, 1) := by decide +kernel
theorem dL_law_309 : decode cL_law 309 = .ok (.invokevirtual 26, 3) := by decide +kernel
theorem dL_law_312 : decode cL_law 312 = .ok (.if_icmp .eq 1109, 3) := by decide +kernel
theorem dL_law_315 : decode cL_law 315 = .ok (.iconst 0, 1) := by decide +kernel
theorem dL_law_316 : decode cL_law 316 = .ok (.ireturn, 1) := by decide +kernel
theorem dL_law_317 : decode cL_law 317 = .ok (.aload_n 1, 1) := by decide +kernel
theorem dL_law_318 : decode cL_law 318 = .ok (.aload_n 0, 1) := by decide +kernel
theorem dL_law_319 : decode cL_law 319 = .ok (.iload_n 3, 1) := by decide +kernel
theorem dL_law_320 : decode cL_law 320 = .ok (.iconst 1, 1) := by decide +kernel
theorem dL_law_321 : decode cL_law 321 = .ok (.iadd, 1) := by decide +kernel
theorem dL_law_322 : decode cL_law 322 = .ok (.iaload, 1) := by decide +kernel
theorem dL_law_323 : decode cL_law 323 = .ok (.aload_n 0, 1) := by decide +kernel
theorem dL_law_324 : decode cL_law 324 = .ok (.iload_n 3, 1) := by decide +kernel
theorem dL_law_325 : decode cL_law 325 = .ok (.iconst 2, 1) := by decide +kernel
theorem dL_law_326 : decode cL_law 326 = .ok (.iadd, 1) := by decide +kernel
theorem dL_law_327 : decode cL_law 327 = .ok (.iaload, 1) := by decide +kernel
theorem dL_law_328 : decode cL_law 328 = .ok (.aload_n 0, 1) := by decide +kernel
theorem dL_law_329 : decode cL_law 329 = .ok (.iload_n 3, 1) := by decide +kernel
theorem dL_law_330 : decode cL_law 330 = .ok (.iconst 3, 1) := by decide +kernel
theorem dL_law_331 : decode cL_law 331 = .ok (.iadd, 1) := by decide +kernel
theorem dL_law_332 : decode cL_law 332 = .ok (.iaload, 1) := by decide +kernel
theorem dL_law_333 : decode cL_law 333 = .ok (.invokevirtual 27, 3) := by decide +kernel
theorem dL_law_336 : decode cL_law 336 = .ok (.aload_n 2, 1) := by decide +kernel
theorem dL_law_337 : decode cL_law 337 = .ok (.aload_n 0, 1) := by decide +kernel
theorem dL_law_338 : decode cL_law 338 = .ok (.iload_n 3, 1) := by decide +kernel
theorem dL_law_339 : decode cL_law 339 = .ok (.iconst 1, 1) := by decide +kernel
theorem dL_law_340 : decode cL_law 340 = .ok (.iadd, 1) := by decide +kernel
theorem dL_law_341 : decode cL_law 341 = .ok (.iaload, 1) := by decide +kernel
theorem dL_law_342 : decode cL_law 342 = .ok (.aload_n 0, 1) := by decide +kernel
theorem dL_law_343 : decode cL_law 343 = .ok (.iload_n 3, 1) := by decide +kernel
theorem dL_law_344 : decode cL_law 344 = .ok (.iconst 2, 1) := by decide +kernel
theorem dL_law_345 : decode cL_law 345 = .ok (.iadd, 1) := by decide +kernel
theorem dL_law_346 : decode cL_law 346 = .ok (.iaload, 1) := by decide +kernel
theorem dL_law_347 : decode cL_law 347 = .ok (.aload_n 0, 1) := by decide +kernel
theorem dL_law_348 : decode cL_law 348 = .ok (.iload_n 3, 1) := by decide +kernel
theorem dL_law_349 : decode cL_law 349 = .ok (.iconst 3, 1) := by decide +kernel
theorem dL_law_350 : decode cL_law 350 = .ok (.iadd, 1) := by decide +kernel
theorem dL_law_351 : decode cL_law 351 = .ok (.iaload, 1) := by decide +kernel
theorem dL_law_352 : decode cL_law 352 = .ok (.invokevirtual 30, 3) := by decide +kernel
theorem dL_law_355 : decode cL_law 355 = .ok (.if_icmp .eq 1066, 3) := by decide +kernel
theorem dL_law_358 : decode cL_law 358 = .ok (.iconst 0, 1) := by decide +kernel
theorem dL_law_359 : decode cL_law 359 = .ok (.ireturn, 1) := by decide +kernel
theorem dL_law_360 : decode cL_law 360 = .ok (.aload_n 1, 1) := by decide +kernel
theorem dL_law_361 : decode cL_law 361 = .ok (.aload_n 0, 1) := by decide +kernel
theorem dL_law_362 : decode cL_law 362 = .ok (.iload_n 3, 1) := by decide +kernel
theorem dL_law_363 : decode cL_law 363 = .ok (.iconst 1, 1) := by decide +kernel
theorem dL_law_364 : decode cL_law 364 = .ok (.iadd, 1) := by decide +kernel
theorem dL_law_365 : decode cL_law 365 = .ok (.iaload, 1) := by decide +kernel
theorem dL_law_366 : decode cL_law 366 = .ok (.aload_n 0, 1) := by decide +kernel
theorem dL_law_367 : decode cL_law 367 = .ok (.iload_n 3, 1) := by decide +kernel
theorem dL_law_368 : decode cL_law 368 = .ok (.iconst 2, 1) := by decide +kernel
theorem dL_law_369 : decode cL_law 369 = .ok (.iadd, 1) := by decide +kernel
theorem dL_law_370 : decode cL_law 370 = .ok (.iaload, 1) := by decide +kernel
theorem dL_law_371 : decode cL_law 371 = .ok (.invokevirtual 31, 3) := by decide +kernel
theorem dL_law_374 : decode cL_law 374 = .ok (.aload_n 2, 1) := by decide +kernel
theorem dL_law_375 : decode cL_law 375 = .ok (.aload_n 0, 1) := by decide +kernel
theorem dL_law_376 : decode cL_law 376 = .ok (.iload_n 3, 1) := by decide +kernel
theorem dL_law_377 : decode cL_law 377 = .ok (.iconst 1, 1) := by decide +kernel
theorem dL_law_378 : decode cL_law 378 = .ok (.iadd, 1) := by decide +kernel
theorem dL_law_379 : decode cL_law 379 = .ok (.iaload, 1) := by decide +kernel
theorem dL_law_380 : decode cL_law 380 = .ok (.aload_n 0, 1) := by decide +kernel
theorem dL_law_381 : decode cL_law 381 = .ok (.iload_n 3, 1) := by decide +kernel
theorem dL_law_382 : decode cL_law 382 = .ok (.iconst 2, 1) := by decide +kernel
theorem dL_law_383 : decode cL_law 383 = .ok (.iadd, 1) := by decide +kernel
theorem dL_law_384 : decode cL_law 384 = .ok (.iaload, 1) := by decide +kernel
theorem dL_law_385 : decode cL_law 385 = .ok (.invokevirtual 34, 3) := by decide +kernel
theorem dL_law_388 : decode cL_law 388 = .ok (.if_icmp .eq 1033, 3) := by decide +kernel
theorem dL_law_391 : decode cL_law 391 = .ok (.iconst 0, 1) := by decide +kernel
theorem dL_law_392 : decode cL_law 392 = .ok (.ireturn, 1) := by decide +kernel
theorem dL_law_393 : decode cL_law 393 = .ok (.aload_n 1, 1) := by decide +kernel
theorem dL_law_394 : decode cL_law 394 = .ok (.aload_n 0, 1) := by decide +kernel
theorem dL_law_395 : decode cL_law 395 = .ok (.iload_n 3, 1) := by decide +kernel
theorem dL_law_396 : decode cL_law 396 = .ok (.iconst 1, 1) := by decide +kernel
theorem dL_law_397 : decode cL_law 397 = .ok (.iadd, 1) := by decide +kernel
theorem dL_law_398 : decode cL_law 398 = .ok (.iaload, 1) := by decide +kernel
theorem dL_law_399 : decode cL_law 399 = .ok (.aload_n 0, 1) := by decide +kernel
theorem dL_law_400 : decode cL_law 400 = .ok (.iload_n 3, 1) := by decide +kernel
theorem dL_law_401 : decode cL_law 401 = .ok (.iconst 2, 1) := by decide +kernel
theorem dL_law_402 : decode cL_law 402 = .ok (.iadd, 1) := by decide +kernel
theorem dL_law_403 : decode cL_law 403 = .ok (.iaload, 1) := by decide +kernel
theorem dL_law_404 : decode cL_law 404 = .ok (.invokevirtual 35, 3) := by decide +kernel
theorem dL_law_407 : decode cL_law 407 = .ok (.aload_n 2, 1) := by decide +kernel
theorem dL_law_408 : decode cL_law 408 = .ok (.aload_n 0, 1) := by decide +kernel
theorem dL_law_409 : decode cL_law 409 = .ok (.iload_n 3, 1) := by decide +kernel
theorem dL_law_410 : decode cL_law 410 = .ok (.iconst 1, 1) := by decide +kernel
theorem dL_law_411 : decode cL_law 411 = .ok (.iadd, 1) := by decide +kernel
theorem dL_law_412 : decode cL_law 412 = .ok (.iaload, 1) := by decide +kernel
theorem dL_law_413 : decode cL_law 413 = .ok (.aload_n 0, 1) := by decide +kernel
theorem dL_law_414 : decode cL_law 414 = .ok (.iload_n 3, 1) := by decide +kernel
theorem dL_law_415 : decode cL_law 415 = .ok (.iconst 2, 1) := by decide +kernel
theorem dL_law_416 : decode cL_law 416 = .ok (.iadd, 1) := by decide +kernel
theorem dL_law_417 : decode cL_law 417 = .ok (.iaload, 1) := by decide +kernel
theorem dL_law_418 : decode cL_law 418 = .ok (.invokevirtual 38, 3) := by decide +kernel
theorem dL_law_421 : decode cL_law 421 = .ok (.if_icmp .eq 1000, 3) := by decide +kernel
theorem dL_law_424 : decode cL_law 424 = .ok (.iconst 0, 1) := by decide +kernel
theorem dL_law_425 : decode cL_law 425 = .ok (.ireturn, 1) := by decide +kernel
theorem dL_law_426 : decode cL_law 426 = .ok (.aload_n 1, 1) := by decide +kernel
theorem dL_law_427 : decode cL_law 427 = .ok (.aload_n 0, 1) := by decide +kernel
theorem dL_law_428 : decode cL_law 428 = .ok (.iload_n 3, 1) := by decide +kernel
theorem dL_law_429 : decode cL_law 429 = .ok (.iconst 1, 1) := by decide +kernel
theorem dL_law_430 : decode cL_law 430 = .ok (.iadd, 1) := by decide +kernel
theorem dL_law_431 : decode cL_law 431 = .ok (.iaload, 1) := by decide +kernel
theorem dL_law_432 : decode cL_law 432 = .ok (.aload_n 0, 1) := by decide +kernel
theorem dL_law_433 : decode cL_law 433 = .ok (.iload_n 3, 1) := by decide +kernel
theorem dL_law_434 : decode cL_law 434 = .ok (.iconst 2, 1) := by decide +kernel
theorem dL_law_435 : decode cL_law 435 = .ok (.iadd, 1) := by decide +kernel
theorem dL_law_436 : decode cL_law 436 = .ok (.iaload, 1) := by decide +kernel
theorem dL_law_437 : decode cL_law 437 = .ok (.aload_n 0, 1) := by decide +kernel
theorem dL_law_438 : decode cL_law 438 = .ok (.iload_n 3, 1) := by decide +kernel
theorem dL_law_439 : decode cL_law 439 = .ok (.iconst 3, 1) := by decide +kernel
theorem dL_law_440 : decode cL_law 440 = .ok (.iadd, 1) := by decide +kernel
theorem dL_law_441 : decode cL_law 441 = .ok (.iaload, 1) := by decide +kernel
theorem dL_law_442 : decode cL_law 442 = .ok (.invokevirtual 39, 3) := by decide +kernel
theorem dL_law_445 : decode cL_law 445 = .ok (.aload_n 2, 1) := by decide +kernel
theorem dL_law_446 : decode cL_law 446 = .ok (.aload_n 0, 1) := by decide +kernel
theorem dL_law_447 : decode cL_law 447 = .ok (.iload_n 3, 1) := by decide +kernel
theorem dL_law_448 : decode cL_law 448 = .ok (.iconst 1, 1) := by decide +kernel
theorem dL_law_449 : decode cL_law 449 = .ok (.iadd, 1) := by decide +kernel
theorem dL_law_450 : decode cL_law 450 = .ok (.iaload, 1) := by decide +kernel
theorem dL_law_451 : decode cL_law 451 = .ok (.aload_n 0, 1) := by decide +kernel
theorem dL_law_452 : decode cL_law 452 = .ok (.iload_n 3, 1) := by decide +kernel
theorem dL_law_453 : decode cL_law 453 = .ok (.iconst 2, 1) := by decide +kernel
theorem dL_law_454 : decode cL_law 454 = .ok (.iadd, 1) := by decide +kernel
theorem dL_law_455 : decode cL_law 455 = .ok (.iaload, 1) := by decide +kernel
theorem dL_law_456 : decode cL_law 456 = .ok (.aload_n 0, 1) := by decide +kernel
theorem dL_law_457 : decode cL_law 457 = .ok (.iload_n 3, 1) := by decide +kernel
theorem dL_law_458 : decode cL_law 458 = .ok (.iconst 3, 1) := by decide +kernel
theorem dL_law_459 : decode cL_law 459 = .ok (.iadd, 1) := by decide +kernel
theorem dL_law_460 : decode cL_law 460 = .ok (.iaload, 1) := by decide +kernel
theorem dL_law_461 : decode cL_law 461 = .ok (.invokevirtual 43, 3) := by decide +kernel
theorem dL_law_464 : decode cL_law 464 = .ok (.lcmp, 1) := by decide +kernel
theorem dL_law_465 : decode cL_law 465 = .ok (.ifCond .eq 956, 3) := by decide +kernel
theorem dL_law_468 : decode cL_law 468 = .ok (.iconst 0, 1) := by decide +kernel
theorem dL_law_469 : decode cL_law 469 = .ok (.ireturn, 1) := by decide +kernel
theorem dL_law_470 : decode cL_law 470 = .ok (.aload_n 1, 1) := by decide +kernel
theorem dL_law_471 : decode cL_law 471 = .ok (.aload_n 0, 1) := by decide +kernel
theorem dL_law_472 : decode cL_law 472 = .ok (.iload_n 3, 1) := by decide +kernel
theorem dL_law_473 : decode cL_law 473 = .ok (.iconst 1, 1) := by decide +kernel
theorem dL_law_474 : decode cL_law 474 = .ok (.iadd, 1) := by decide +kernel
theorem dL_law_475 : decode cL_law 475 = .ok (.iaload, 1) := by decide +kernel
theorem dL_law_476 : decode cL_law 476 = .ok (.aload_n 0, 1) := by decide +kernel
theorem dL_law_477 : decode cL_law 477 = .ok (.iload_n 3, 1) := by decide +kernel
theorem dL_law_478 : decode cL_law 478 = .ok (.iconst 2, 1) := by decide +kernel
theorem dL_law_479 : decode cL_law 479 = .ok (.iadd, 1) := by decide +kernel
theorem dL_law_480 : decode cL_law 480 = .ok (.iaload, 1) := by decide +kernel
theorem dL_law_481 : decode cL_law 481 = .ok (.aload_n 0, 1) := by decide +kernel
theorem dL_law_482 : decode cL_law 482 = .ok (.iload_n 3, 1) := by decide +kernel
theorem dL_law_483 : decode cL_law 483 = .ok (.iconst 3, 1) := by decide +kernel
theorem dL_law_484 : decode cL_law 484 = .ok (.iadd, 1) := by decide +kernel
theorem dL_law_485 : decode cL_law 485 = .ok (.iaload, 1) := by decide +kernel
theorem dL_law_486 : decode cL_law 486 = .ok (.invokevirtual 44, 3) := by decide +kernel
theorem dL_law_489 : decode cL_law 489 = .ok (.aload_n 2, 1) := by decide +kernel
theorem dL_law_490 : decode cL_law 490 = .ok (.aload_n 0, 1) := by decide +kernel
theorem dL_law_491 : decode cL_law 491 = .ok (.iload_n 3, 1) := by decide +kernel
theorem dL_law_492 : decode cL_law 492 = .ok (.iconst 1, 1) := by decide +kernel
theorem dL_law_493 : decode cL_law 493 = .ok (.iadd, 1) := by decide +kernel
theorem dL_law_494 : decode cL_law 494 = .ok (.iaload, 1) := by decide +kernel
theorem dL_law_495 : decode cL_law 495 = .ok (.aload_n 0, 1) := by decide +kernel
theorem dL_law_496 : decode cL_law 496 = .ok (.iload_n 3, 1) := by decide +kernel
theorem dL_law_497 : decode cL_law 497 = .ok (.iconst 2, 1) := by decide +kernel
theorem dL_law_498 : decode cL_law 498 = .ok (.iadd, 1) := by decide +kernel
theorem dL_law_499 : decode cL_law 499 = .ok (.iaload, 1) := by decide +kernel
theorem dL_law_500 : decode cL_law 500 = .ok (.aload_n 0, 1) := by decide +kernel
theorem dL_law_501 : decode cL_law 501 = .ok (.iload_n 3, 1) := by decide +kernel
theorem dL_law_502 : decode cL_law 502 = .ok (.iconst 3, 1) := by decide +kernel
theorem dL_law_503 : decode cL_law 503 = .ok (.iadd, 1) := by decide +kernel
theorem dL_law_504 : decode cL_law 504 = .ok (.iaload, 1) := by decide +kernel
theorem dL_law_505 : decode cL_law 505 = .ok (.invokevirtual 47, 3) := by decide +kernel
theorem dL_law_508 : decode cL_law 508 = .ok (.if_icmp .eq 913, 3) := by decide +kernel
theorem dL_law_511 : decode cL_law 511 = .ok (.iconst 0, 1) := by decide +kernel
theorem dL_law_512 : decode cL_law 512 = .ok (.ireturn, 1) := by decide +kernel
theorem dL_law_513 : decode cL_law 513 = .ok (.aload_n 1, 1) := by decide +kernel
theorem dL_law_514 : decode cL_law 514 = .ok (.aload_n 0, 1) := by decide +kernel
theorem dL_law_515 : decode cL_law 515 = .ok (.iload_n 3, 1) := by decide +kernel
theorem dL_law_516 : decode cL_law 516 = .ok (.iconst 1, 1) := by decide +kernel
theorem dL_law_517 : decode cL_law 517 = .ok (.iadd, 1) := by decide +kernel
theorem dL_law_518 : decode cL_law 518 = .ok (.iaload, 1) := by decide +kernel
theorem dL_law_519 : decode cL_law 519 = .ok (.aload_n 0, 1) := by decide +kernel
theorem dL_law_520 : decode cL_law 520 = .ok (.iload_n 3, 1) := by decide +kernel
theorem dL_law_521 : decode cL_law 521 = .ok (.iconst 2, 1) := by decide +kernel
theorem dL_law_522 : decode cL_law 522 = .ok (.iadd, 1) := by decide +kernel
theorem dL_law_523 : decode cL_law 523 = .ok (.iaload, 1) := by decide +kernel
theorem dL_law_524 : decode cL_law 524 = .ok (.invokevirtual 48, 3) := by decide +kernel
theorem dL_law_527 : decode cL_law 527 = .ok (.aload_n 2, 1) := by decide +kernel
theorem dL_law_528 : decode cL_law 528 = .ok (.aload_n 0, 1) := by decide +kernel
theorem dL_law_529 : decode cL_law 529 = .ok (.iload_n 3, 1) := by decide +kernel
theorem dL_law_530 : decode cL_law 530 = .ok (.iconst 1, 1) := by decide +kernel
theorem dL_law_531 : decode cL_law 531 = .ok (.iadd, 1) := by decide +kernel
theorem dL_law_532 : decode cL_law 532 = .ok (.iaload, 1) := by decide +kernel
theorem dL_law_533 : decode cL_law 533 = .ok (.aload_n 0, 1) := by decide +kernel
theorem dL_law_534 : decode cL_law 534 = .ok (.iload_n 3, 1) := by decide +kernel
theorem dL_law_535 : decode cL_law 535 = .ok (.iconst 2, 1) := by decide +kernel
theorem dL_law_536 : decode cL_law 536 = .ok (.iadd, 1) := by decide +kernel
theorem dL_law_537 : decode cL_law 537 = .ok (.iaload, 1) := by decide +kernel
theorem dL_law_538 : decode cL_law 538 = .ok (.invokevirtual 51, 3) := by decide +kernel
theorem dL_law_541 : decode cL_law 541 = .ok (.if_icmp .eq 880, 3) := by decide +kernel
theorem dL_law_544 : decode cL_law 544 = .ok (.iconst 0, 1) := by decide +kernel
theorem dL_law_545 : decode cL_law 545 = .ok (.ireturn, 1) := by decide +kernel
theorem dL_law_546 : decode cL_law 546 = .ok (.aload_n 1, 1) := by decide +kernel
theorem dL_law_547 : decode cL_law 547 = .ok (.aload_n 0, 1) := by decide +kernel
theorem dL_law_548 : decode cL_law 548 = .ok (.iload_n 3, 1) := by decide +kernel
theorem dL_law_549 : decode cL_law 549 = .ok (.iconst 1, 1) := by decide +kernel
theorem dL_law_550 : decode cL_law 550 = .ok (.iadd, 1) := by decide +kernel
theorem dL_law_551 : decode cL_law 551 = .ok (.iaload, 1) := by decide +kernel
theorem dL_law_552 : decode cL_law 552 = .ok (.aload_n 0, 1) := by decide +kernel
theorem dL_law_553 : decode cL_law 553 = .ok (.iload_n 3, 1) := by decide +kernel
theorem dL_law_554 : decode cL_law 554 = .ok (.iconst 2, 1) := by decide +kernel
theorem dL_law_555 : decode cL_law 555 = .ok (.iadd, 1) := by decide +kernel
theorem dL_law_556 : decode cL_law 556 = .ok (.iaload, 1) := by decide +kernel
theorem dL_law_557 : decode cL_law 557 = .ok (.aload_n 0, 1) := by decide +kernel
theorem dL_law_558 : decode cL_law 558 = .ok (.iload_n 3, 1) := by decide +kernel
theorem dL_law_559 : decode cL_law 559 = .ok (.iconst 3, 1) := by decide +kernel
theorem dL_law_560 : decode cL_law 560 = .ok (.iadd, 1) := by decide +kernel
theorem dL_law_561 : decode cL_law 561 = .ok (.iaload, 1) := by decide +kernel
theorem dL_law_562 : decode cL_law 562 = .ok (.aload_n 0, 1) := by decide +kernel
theorem dL_law_563 : decode cL_law 563 = .ok (.iload_n 3, 1) := by decide +kernel
theorem dL_law_564 : decode cL_law 564 = .ok (.iconst 4, 1) := by decide +kernel
theorem dL_law_565 : decode cL_law 565 = .ok (.iadd, 1) := by decide +kernel
theorem dL_law_566 : decode cL_law 566 = .ok (.iaload, 1) := by decide +kernel
theorem dL_law_567 : decode cL_law 567 = .ok (.aload_n 0, 1) := by decide +kernel
theorem dL_law_568 : decode cL_law 568 = .ok (.iload_n 3, 1) := by decide +kernel
theorem dL_law_569 : decode cL_law 569 = .ok (.iconst 5, 1) := by decide +kernel
theorem dL_law_570 : decode cL_law 570 = .ok (.iadd, 1) := by decide +kernel
theorem dL_law_571 : decode cL_law 571 = .ok (.iaload, 1) := by decide +kernel
theorem dL_law_572 : decode cL_law 572 = .ok (.invokevirtual 52, 3) := by decide +kernel
theorem dL_law_575 : decode cL_law 575 = .ok (.aload_n 2, 1) := by decide +kernel
theorem dL_law_576 : decode cL_law 576 = .ok (.aload_n 0, 1) := by decide +kernel
theorem dL_law_577 : decode cL_law 577 = .ok (.iload_n 3, 1) := by decide +kernel
theorem dL_law_578 : decode cL_law 578 = .ok (.iconst 1, 1) := by decide +kernel
theorem dL_law_579 : decode cL_law 579 = .ok (.iadd, 1) := by decide +kernel
theorem dL_law_580 : decode cL_law 580 = .ok (.iaload, 1) := by decide +kernel
theorem dL_law_581 : decode cL_law 581 = .ok (.aload_n 0, 1) := by decide +kernel
theorem dL_law_582 : decode cL_law 582 = .ok (.iload_n 3, 1) := by decide +kernel
theorem dL_law_583 : decode cL_law 583 = .ok (.iconst 2, 1) := by decide +kernel
theorem dL_law_584 : decode cL_law 584 = .ok (.iadd, 1) := by decide +kernel
theorem dL_law_585 : decode cL_law 585 = .ok (.iaload, 1) := by decide +kernel
theorem dL_law_586 : decode cL_law 586 = .ok (.aload_n 0, 1) := by decide +kernel
theorem dL_law_587 : decode cL_law 587 = .ok (.iload_n 3, 1) := by decide +kernel
theorem dL_law_588 : decode cL_law 588 = .ok (.iconst 3, 1) := by decide +kernel
theorem dL_law_589 : decode cL_law 589 = .ok (.iadd, 1) := by decide +kernel
theorem dL_law_590 : decode cL_law 590 = .ok (.iaload, 1) := by decide +kernel
theorem dL_law_591 : decode cL_law 591 = .ok (.aload_n 0, 1) := by decide +kernel
theorem dL_law_592 : decode cL_law 592 = .ok (.iload_n 3, 1) := by decide +kernel
theorem dL_law_593 : decode cL_law 593 = .ok (.iconst 4, 1) := by decide +kernel
theorem dL_law_594 : decode cL_law 594 = .ok (.iadd, 1) := by decide +kernel
theorem dL_law_595 : decode cL_law 595 = .ok (.iaload, 1) := by decide +kernel
theorem dL_law_596 : decode cL_law 596 = .ok (.aload_n 0, 1) := by decide +kernel
theorem dL_law_597 : decode cL_law 597 = .ok (.iload_n 3, 1) := by decide +kernel
theorem dL_law_598 : decode cL_law 598 = .ok (.iconst 5, 1) := by decide +kernel
theorem dL_law_599 : decode cL_law 599 = .ok (.iadd, 1) := by decide +kernel
theorem dL_law_600 : decode cL_law 600 = .ok (.iaload, 1) := by decide +kernel
theorem dL_law_601 : decode cL_law 601 = .ok (.invokevirtual 56, 3) := by decide +kernel
theorem dL_law_604 : decode cL_law 604 = .ok (.if_icmp .eq 817, 3) := by decide +kernel
theorem dL_law_607 : decode cL_law 607 = .ok (.iconst 0, 1) := by decide +kernel
theorem dL_law_608 : decode cL_law 608 = .ok (.ireturn, 1) := by decide +kernel
theorem dL_law_609 : decode cL_law 609 = .ok (.aload_n 1, 1) := by decide +kernel
theorem dL_law_610 : decode cL_law 610 = .ok (.aload_n 0, 1) := by decide +kernel
theorem dL_law_611 : decode cL_law 611 = .ok (.iload_n 3, 1) := by decide +kernel
theorem dL_law_612 : decode cL_law 612 = .ok (.iconst 1, 1) := by decide +kernel
theorem dL_law_613 : decode cL_law 613 = .ok (.iadd, 1) := by decide +kernel
theorem dL_law_614 : decode cL_law 614 = .ok (.iaload, 1) := by decide +kernel
theorem dL_law_615 : decode cL_law 615 = .ok (.invokevirtual 57, 3) := by decide +kernel
theorem dL_law_618 : decode cL_law 618 = .ok (.aload_n 2, 1) := by decide +kernel
theorem dL_law_619 : decode cL_law 619 = .ok (.aload_n 0, 1) := by decide +kernel
theorem dL_law_620 : decode cL_law 620 = .ok (.iload_n 3, 1) := by decide +kernel
theorem dL_law_621 : decode cL_law 621 = .ok (.iconst 1, 1) := by decide +kernel
theorem dL_law_622 : decode cL_law 622 = .ok (.iadd, 1) := by decide +kernel
theorem dL_law_623 : decode cL_law 623 = .ok (.iaload, 1) := by decide +kernel
theorem dL_law_624 : decode cL_law 624 = .ok (.invokevirtual 61, 3) := by decide +kernel
theorem dL_law_627 : decode cL_law 627 = .ok (.if_icmp .eq 794, 3) := by decide +kernel
theorem dL_law_630 : decode cL_law 630 = .ok (.iconst 0, 1) := by decide +kernel
theorem dL_law_631 : decode cL_law 631 = .ok (.ireturn, 1) := by decide +kernel
theorem dL_law_632 : decode cL_law 632 = .ok (.aload_n 1, 1) := by decide +kernel
theorem dL_law_633 : decode cL_law 633 = .ok (.invokevirtual 62, 3) := by decide +kernel
theorem dL_law_636 : decode cL_law 636 = .ok (.aload_n 2, 1) := by decide +kernel
theorem dL_law_637 : decode cL_law 637 = .ok (.invokevirtual 66, 3) := by decide +kernel
theorem dL_law_640 : decode cL_law 640 = .ok (.if_icmp .eq 781, 3) := by decide +kernel
theorem dL_law_643 : decode cL_law 643 = .ok (.iconst 0, 1) := by decide +kernel
theorem dL_law_644 : decode cL_law 644 = .ok (.ireturn, 1) := by decide +kernel
theorem dL_law_645 : decode cL_law 645 = .ok (.aload_n 1, 1) := by decide +kernel
theorem dL_law_646 : decode cL_law 646 = .ok (.invokevirtual 67, 3) := by decide +kernel
theorem dL_law_649 : decode cL_law 649 = .ok (.aload_n 2, 1) := by decide +kernel
theorem dL_law_650 : decode cL_law 650 = .ok (.invokevirtual 70, 3) := by decide +kernel
theorem dL_law_653 : decode cL_law 653 = .ok (.if_icmp .eq 768, 3) := by decide +kernel
theorem dL_law_656 : decode cL_law 656 = .ok (.iconst 0, 1) := by decide +kernel
theorem dL_law_657 : decode cL_law 657 = .ok (.ireturn, 1) := by decide +kernel
theorem dL_law_658 : decode cL_law 658 = .ok (.aload_n 1, 1) := by decide +kernel
theorem dL_law_659 : decode cL_law 659 = .ok (.aload_n 0, 1) := by decide +kernel
theorem dL_law_660 : decode cL_law 660 = .ok (.iload_n 3, 1) := by decide +kernel
theorem dL_law_661 : decode cL_law 661 = .ok (.iconst 1, 1) := by decide +kernel
theorem dL_law_662 : decode cL_law 662 = .ok (.iadd, 1) := by decide +kernel
theorem dL_law_663 : decode cL_law 663 = .ok (.iaload, 1) := by decide +kernel
theorem dL_law_664 : decode cL_law 664 = .ok (.aload_n 0, 1) := by decide +kernel
theorem dL_law_665 : decode cL_law 665 = .ok (.iload_n 3, 1) := by decide +kernel
theorem dL_law_666 : decode cL_law 666 = .ok (.iconst 2, 1) := by decide +kernel
theorem dL_law_667 : decode cL_law 667 = .ok (.iadd, 1) := by decide +kernel
theorem dL_law_668 : decode cL_law 668 = .ok (.iaload, 1) := by decide +kernel
theorem dL_law_669 : decode cL_law 669 = .ok (.aload_n 0, 1) := by decide +kernel
theorem dL_law_670 : decode cL_law 670 = .ok (.iload_n 3, 1) := by decide +kernel
theorem dL_law_671 : decode cL_law 671 = .ok (.iconst 3, 1) := by decide +kernel
theorem dL_law_672 : decode cL_law 672 = .ok (.iadd, 1) := by decide +kernel
theorem dL_law_673 : decode cL_law 673 = .ok (.iaload, 1) := by decide +kernel
theorem dL_law_674 : decode cL_law 674 = .ok (.invokevirtual 71, 3) := by decide +kernel
theorem dL_law_677 : decode cL_law 677 = .ok (.aload_n 2, 1) := by decide +kernel
theorem dL_law_678 : decode cL_law 678 = .ok (.aload_n 0, 1) := by decide +kernel
theorem dL_law_679 : decode cL_law 679 = .ok (.iload_n 3, 1) := by decide +kernel
theorem dL_law_680 : decode cL_law 680 = .ok (.iconst 1, 1) := by decide +kernel
theorem dL_law_681 : decode cL_law 681 = .ok (.iadd, 1) := by decide +kernel
theorem dL_law_682 : decode cL_law 682 = .ok (.iaload, 1) := by decide +kernel
theorem dL_law_683 : decode cL_law 683 = .ok (.aload_n 0, 1) := by decide +kernel
theorem dL_law_684 : decode cL_law 684 = .ok (.iload_n 3, 1) := by decide +kernel
theorem dL_law_685 : decode cL_law 685 = .ok (.iconst 2, 1) := by decide +kernel
theorem dL_law_686 : decode cL_law 686 = .ok (.iadd, 1) := by decide +kernel
theorem dL_law_687 : decode cL_law 687 = .ok (.iaload, 1) := by decide +kernel
theorem dL_law_688 : decode cL_law 688 = .ok (.aload_n 0, 1) := by decide +kernel
theorem dL_law_689 : decode cL_law 689 = .ok (.iload_n 3, 1) := by decide +kernel
theorem dL_law_690 : decode cL_law 690 = .ok (.iconst 3, 1) := by decide +kernel
theorem dL_law_691 : decode cL_law 691 = .ok (.iadd, 1) := by decide +kernel
theorem dL_law_692 : decode cL_law 692 = .ok (.iaload, 1) := by decide +kernel
theorem dL_law_693 : decode cL_law 693 = .ok (.invokevirtual 74, 3) := by decide +kernel
theorem dL_law_696 : decode cL_law 696 = .ok (.if_icmp .eq 725, 3) := by decide +kernel
theorem dL_law_699 : decode cL_law 699 = .ok (.iconst 0, 1) := by decide +kernel
theorem dL_law_700 : decode cL_law 700 = .ok (.ireturn, 1) := by decide +kernel
theorem dL_law_701 : decode cL_law 701 = .ok (.aload_n 1, 1) := by decide +kernel
theorem dL_law_702 : decode cL_law 702 = .ok (.aload_n 0, 1) := by decide +kernel
theorem dL_law_703 : decode cL_law 703 = .ok (.iload_n 3, 1) := by decide +kernel
theorem dL_law_704 : decode cL_law 704 = .ok (.iconst 1, 1) := by decide +kernel
theorem dL_law_705 : decode cL_law 705 = .ok (.iadd, 1) := by decide +kernel
theorem dL_law_706 : decode cL_law 706 = .ok (.iaload, 1) := by decide +kernel
theorem dL_law_707 : decode cL_law 707 = .ok (.aload_n 0, 1) := by decide +kernel
theorem dL_law_708 : decode cL_law 708 = .ok (.iload_n 3, 1) := by decide +kernel
theorem dL_law_709 : decode cL_law 709 = .ok (.iconst 2, 1) := by decide +kernel
theorem dL_law_710 : decode cL_law 710 = .ok (.iadd, 1) := by decide +kernel
theorem dL_law_711 : decode cL_law 711 = .ok (.iaload, 1) := by decide +kernel
theorem dL_law_712 : decode cL_law 712 = .ok (.aload_n 0, 1) := by decide +kernel
theorem dL_law_713 : decode cL_law 713 = .ok (.iload_n 3, 1) := by decide +kernel
theorem dL_law_714 : decode cL_law 714 = .ok (.iconst 3, 1) := by decide +kernel
theorem dL_law_715 : decode cL_law 715 = .ok (.iadd, 1) := by decide +kernel
theorem dL_law_716 : decode cL_law 716 = .ok (.iaload, 1) := by decide +kernel
theorem dL_law_717 : decode cL_law 717 = .ok (.aload_n 0, 1) := by decide +kernel
theorem dL_law_718 : decode cL_law 718 = .ok (.iload_n 3, 1) := by decide +kernel
theorem dL_law_719 : decode cL_law 719 = .ok (.iconst 4, 1) := by decide +kernel
theorem dL_law_720 : decode cL_law 720 = .ok (.iadd, 1) := by decide +kernel
theorem dL_law_721 : decode cL_law 721 = .ok (.iaload, 1) := by decide +kernel
theorem dL_law_722 : decode cL_law 722 = .ok (.aload_n 0, 1) := by decide +kernel
theorem dL_law_723 : decode cL_law 723 = .ok (.iload_n 3, 1) := by decide +kernel
theorem dL_law_724 : decode cL_law 724 = .ok (.iconst 5, 1) := by decide +kernel
theorem dL_law_725 : decode cL_law 725 = .ok (.iadd, 1) := by decide +kernel
theorem dL_law_726 : decode cL_law 726 = .ok (.iaload, 1) := by decide +kernel
theorem dL_law_727 : decode cL_law 727 = .ok (.invokevirtual 75, 3) := by decide +kernel
theorem dL_law_730 : decode cL_law 730 = .ok (.aload_n 2, 1) := by decide +kernel
theorem dL_law_731 : decode cL_law 731 = .ok (.aload_n 0, 1) := by decide +kernel
theorem dL_law_732 : decode cL_law 732 = .ok (.iload_n 3, 1) := by decide +kernel
theorem dL_law_733 : decode cL_law 733 = .ok (.iconst 1, 1) := by decide +kernel
theorem dL_law_734 : decode cL_law 734 = .ok (.iadd, 1) := by decide +kernel
theorem dL_law_735 : decode cL_law 735 = .ok (.iaload, 1) := by decide +kernel
theorem dL_law_736 : decode cL_law 736 = .ok (.aload_n 0, 1) := by decide +kernel
theorem dL_law_737 : decode cL_law 737 = .ok (.iload_n 3, 1) := by decide +kernel
theorem dL_law_738 : decode cL_law 738 = .ok (.iconst 2, 1) := by decide +kernel
theorem dL_law_739 : decode cL_law 739 = .ok (.iadd, 1) := by decide +kernel
theorem dL_law_740 : decode cL_law 740 = .ok (.iaload, 1) := by decide +kernel
theorem dL_law_741 : decode cL_law 741 = .ok (.aload_n 0, 1) := by decide +kernel
theorem dL_law_742 : decode cL_law 742 = .ok (.iload_n 3, 1) := by decide +kernel
theorem dL_law_743 : decode cL_law 743 = .ok (.iconst 3, 1) := by decide +kernel
theorem dL_law_744 : decode cL_law 744 = .ok (.iadd, 1) := by decide +kernel
theorem dL_law_745 : decode cL_law 745 = .ok (.iaload, 1) := by decide +kernel
theorem dL_law_746 : decode cL_law 746 = .ok (.aload_n 0, 1) := by decide +kernel
theorem dL_law_747 : decode cL_law 747 = .ok (.iload_n 3, 1) := by decide +kernel
theorem dL_law_748 : decode cL_law 748 = .ok (.iconst 4, 1) := by decide +kernel
theorem dL_law_749 : decode cL_law 749 = .ok (.iadd, 1) := by decide +kernel
theorem dL_law_750 : decode cL_law 750 = .ok (.iaload, 1) := by decide +kernel
theorem dL_law_751 : decode cL_law 751 = .ok (.aload_n 0, 1) := by decide +kernel
theorem dL_law_752 : decode cL_law 752 = .ok (.iload_n 3, 1) := by decide +kernel
theorem dL_law_753 : decode cL_law 753 = .ok (.iconst 5, 1) := by decide +kernel
theorem dL_law_754 : decode cL_law 754 = .ok (.iadd, 1) := by decide +kernel
theorem dL_law_755 : decode cL_law 755 = .ok (.iaload, 1) := by decide +kernel
theorem dL_law_756 : decode cL_law 756 = .ok (.invokevirtual 78, 3) := by decide +kernel
theorem dL_law_759 : decode cL_law 759 = .ok (.if_icmp .eq 662, 3) := by decide +kernel
theorem dL_law_762 : decode cL_law 762 = .ok (.iconst 0, 1) := by decide +kernel
theorem dL_law_763 : decode cL_law 763 = .ok (.ireturn, 1) := by decide +kernel
theorem dL_law_764 : decode cL_law 764 = .ok (.aload_n 1, 1) := by decide +kernel
theorem dL_law_765 : decode cL_law 765 = .ok (.aload_n 0, 1) := by decide +kernel
theorem dL_law_766 : decode cL_law 766 = .ok (.iload_n 3, 1) := by decide +kernel
theorem dL_law_767 : decode cL_law 767 = .ok (.iconst 1, 1) := by decide +kernel
theorem dL_law_768 : decode cL_law 768 = .ok (.iadd, 1) := by decide +kernel
theorem dL_law_769 : decode cL_law 769 = .ok (.iaload, 1) := by decide +kernel
theorem dL_law_770 : decode cL_law 770 = .ok (.aload_n 0, 1) := by decide +kernel
theorem dL_law_771 : decode cL_law 771 = .ok (.iload_n 3, 1) := by decide +kernel
theorem dL_law_772 : decode cL_law 772 = .ok (.iconst 2, 1) := by decide +kernel
theorem dL_law_773 : decode cL_law 773 = .ok (.iadd, 1) := by decide +kernel
theorem dL_law_774 : decode cL_law 774 = .ok (.iaload, 1) := by decide +kernel
theorem dL_law_775 : decode cL_law 775 = .ok (.invokevirtual 79, 3) := by decide +kernel
theorem dL_law_778 : decode cL_law 778 = .ok (.aload_n 2, 1) := by decide +kernel
theorem dL_law_779 : decode cL_law 779 = .ok (.aload_n 0, 1) := by decide +kernel
theorem dL_law_780 : decode cL_law 780 = .ok (.iload_n 3, 1) := by decide +kernel
theorem dL_law_781 : decode cL_law 781 = .ok (.iconst 1, 1) := by decide +kernel
theorem dL_law_782 : decode cL_law 782 = .ok (.iadd, 1) := by decide +kernel
theorem dL_law_783 : decode cL_law 783 = .ok (.iaload, 1) := by decide +kernel
theorem dL_law_784 : decode cL_law 784 = .ok (.aload_n 0, 1) := by decide +kernel
theorem dL_law_785 : decode cL_law 785 = .ok (.iload_n 3, 1) := by decide +kernel
theorem dL_law_786 : decode cL_law 786 = .ok (.iconst 2, 1) := by decide +kernel
theorem dL_law_787 : decode cL_law 787 = .ok (.iadd, 1) := by decide +kernel
theorem dL_law_788 : decode cL_law 788 = .ok (.iaload, 1) := by decide +kernel
theorem dL_law_789 : decode cL_law 789 = .ok (.invokevirtual 82, 3) := by decide +kernel
theorem dL_law_792 : decode cL_law 792 = .ok (.if_icmp .eq 629, 3) := by decide +kernel
theorem dL_law_795 : decode cL_law 795 = .ok (.iconst 0, 1) := by decide +kernel
theorem dL_law_796 : decode cL_law 796 = .ok (.ireturn, 1) := by decide +kernel
theorem dL_law_797 : decode cL_law 797 = .ok (.aload_n 1, 1) := by decide +kernel
theorem dL_law_798 : decode cL_law 798 = .ok (.invokevirtual 83, 3) := by decide +kernel
theorem dL_law_801 : decode cL_law 801 = .ok (.aload_n 2, 1) := by decide +kernel
theorem dL_law_802 : decode cL_law 802 = .ok (.invokevirtual 86, 3) := by decide +kernel
theorem dL_law_805 : decode cL_law 805 = .ok (.if_icmp .eq 616, 3) := by decide +kernel
theorem dL_law_808 : decode cL_law 808 = .ok (.iconst 0, 1) := by decide +kernel
theorem dL_law_809 : decode cL_law 809 = .ok (.ireturn, 1) := by decide +kernel
theorem dL_law_810 : decode cL_law 810 = .ok (.aload_n 1, 1) := by decide +kernel
theorem dL_law_811 : decode cL_law 811 = .ok (.aload_n 0, 1) := by decide +kernel
theorem dL_law_812 : decode cL_law 812 = .ok (.iload_n 3, 1) := by decide +kernel
theorem dL_law_813 : decode cL_law 813 = .ok (.iconst 1, 1) := by decide +kernel
theorem dL_law_814 : decode cL_law 814 = .ok (.iadd, 1) := by decide +kernel
theorem dL_law_815 : decode cL_law 815 = .ok (.iaload, 1) := by decide +kernel
theorem dL_law_816 : decode cL_law 816 = .ok (.invokevirtual 87, 3) := by decide +kernel
theorem dL_law_819 : decode cL_law 819 = .ok (.aload_n 2, 1) := by decide +kernel
theorem dL_law_820 : decode cL_law 820 = .ok (.aload_n 0, 1) := by decide +kernel
theorem dL_law_821 : decode cL_law 821 = .ok (.iload_n 3, 1) := by decide +kernel
theorem dL_law_822 : decode cL_law 822 = .ok (.iconst 1, 1) := by decide +kernel
theorem dL_law_823 : decode cL_law 823 = .ok (.iadd, 1) := by decide +kernel
theorem dL_law_824 : decode cL_law 824 = .ok (.iaload, 1) := by decide +kernel
theorem dL_law_825 : decode cL_law 825 = .ok (.invokevirtual 90, 3) := by decide +kernel
theorem dL_law_828 : decode cL_law 828 = .ok (.if_icmp .eq 593, 3) := by decide +kernel
theorem dL_law_831 : decode cL_law 831 = .ok (.iconst 0, 1) := by decide +kernel
theorem dL_law_832 : decode cL_law 832 = .ok (.ireturn, 1) := by decide +kernel
theorem dL_law_833 : decode cL_law 833 = .ok (.aload_n 1, 1) := by decide +kernel
theorem dL_law_834 : decode cL_law 834 = .ok (.aload_n 0, 1) := by decide +kernel
theorem dL_law_835 : decode cL_law 835 = .ok (.iload_n 3, 1) := by decide +kernel
theorem dL_law_836 : decode cL_law 836 = .ok (.iconst 1, 1) := by decide +kernel
theorem dL_law_837 : decode cL_law 837 = .ok (.iadd, 1) := by decide +kernel
theorem dL_law_838 : decode cL_law 838 = .ok (.iaload, 1) := by decide +kernel
theorem dL_law_839 : decode cL_law 839 = .ok (.invokevirtual 91, 3) := by decide +kernel
theorem dL_law_842 : decode cL_law 842 = .ok (.aload_n 2, 1) := by decide +kernel
theorem dL_law_843 : decode cL_law 843 = .ok (.aload_n 0, 1) := by decide +kernel
theorem dL_law_844 : decode cL_law 844 = .ok (.iload_n 3, 1) := by decide +kernel
theorem dL_law_845 : decode cL_law 845 = .ok (.iconst 1, 1) := by decide +kernel
theorem dL_law_846 : decode cL_law 846 = .ok (.iadd, 1) := by decide +kernel
theorem dL_law_847 : decode cL_law 847 = .ok (.iaload, 1) := by decide +kernel
theorem dL_law_848 : decode cL_law 848 = .ok (.invokevirtual 94, 3) := by decide +kernel
theorem dL_law_851 : decode cL_law 851 = .ok (.if_icmp .eq 570, 3) := by decide +kernel
theorem dL_law_854 : decode cL_law 854 = .ok (.iconst 0, 1) := by decide +kernel
theorem dL_law_855 : decode cL_law 855 = .ok (.ireturn, 1) := by decide +kernel
theorem dL_law_856 : decode cL_law 856 = .ok (.aload_n 1, 1) := by decide +kernel
theorem dL_law_857 : decode cL_law 857 = .ok (.invokevirtual 95, 3) := by decide +kernel
theorem dL_law_860 : decode cL_law 860 = .ok (.aload_n 2, 1) := by decide +kernel
theorem dL_law_861 : decode cL_law 861 = .ok (.invokevirtual 98, 3) := by decide +kernel
theorem dL_law_864 : decode cL_law 864 = .ok (.if_icmp .eq 557, 3) := by decide +kernel
theorem dL_law_867 : decode cL_law 867 = .ok (.iconst 0, 1) := by decide +kernel
theorem dL_law_868 : decode cL_law 868 = .ok (.ireturn, 1) := by decide +kernel
theorem dL_law_869 : decode cL_law 869 = .ok (.aload_n 1, 1) := by decide +kernel
theorem dL_law_870 : decode cL_law 870 = .ok (.invokevirtual 99, 3) := by decide +kernel
theorem dL_law_873 : decode cL_law 873 = .ok (.aload_n 2, 1) := by decide +kernel
theorem dL_law_874 : decode cL_law 874 = .ok (.invokevirtual 103, 3) := by decide +kernel
theorem dL_law_877 : decode cL_law 877 = .ok (.lcmp, 1) := by decide +kernel
theorem dL_law_878 : decode cL_law 878 = .ok (.ifCond .eq 543, 3) := by decide +kernel
theorem dL_law_881 : decode cL_law 881 = .ok (.iconst 0, 1) := by decide +kernel
theorem dL_law_882 : decode cL_law 882 = .ok (.ireturn, 1) := by decide +kernel
theorem dL_law_883 : decode cL_law 883 = .ok (.aload_n 1, 1) := by decide +kernel
theorem dL_law_884 : decode cL_law 884 = .ok (.aload_n 0, 1) := by decide +kernel
theorem dL_law_885 : decode cL_law 885 = .ok (.iload_n 3, 1) := by decide +kernel
theorem dL_law_886 : decode cL_law 886 = .ok (.iconst 1, 1) := by decide +kernel
theorem dL_law_887 : decode cL_law 887 = .ok (.iadd, 1) := by decide +kernel
theorem dL_law_888 : decode cL_law 888 = .ok (.iaload, 1) := by decide +kernel
theorem dL_law_889 : decode cL_law 889 = .ok (.invokevirtual 104, 3) := by decide +kernel
theorem dL_law_892 : decode cL_law 892 = .ok (.aload_n 2, 1) := by decide +kernel
theorem dL_law_893 : decode cL_law 893 = .ok (.aload_n 0, 1) := by decide +kernel
theorem dL_law_894 : decode cL_law 894 = .ok (.iload_n 3, 1) := by decide +kernel
theorem dL_law_895 : decode cL_law 895 = .ok (.iconst 1, 1) := by decide +kernel
theorem dL_law_896 : decode cL_law 896 = .ok (.iadd, 1) := by decide +kernel
theorem dL_law_897 : decode cL_law 897 = .ok (.iaload, 1) := by decide +kernel
theorem dL_law_898 : decode cL_law 898 = .ok (.invokevirtual 107, 3) := by decide +kernel
theorem dL_law_901 : decode cL_law 901 = .ok (.if_icmp .eq 520, 3) := by decide +kernel
theorem dL_law_904 : decode cL_law 904 = .ok (.iconst 0, 1) := by decide +kernel
theorem dL_law_905 : decode cL_law 905 = .ok (.ireturn, 1) := by decide +kernel
theorem dL_law_906 : decode cL_law 906 = .ok (.aload_n 1, 1) := by decide +kernel
theorem dL_law_907 : decode cL_law 907 = .ok (.invokevirtual 108, 3) := by decide +kernel
theorem dL_law_910 : decode cL_law 910 = .ok (.aload_n 2, 1) := by decide +kernel
theorem dL_law_911 : decode cL_law 911 = .ok (.invokevirtual 111, 3) := by decide +kernel
theorem dL_law_914 : decode cL_law 914 = .ok (.lcmp, 1) := by decide +kernel
theorem dL_law_915 : decode cL_law 915 = .ok (.ifCond .eq 506, 3) := by decide +kernel
theorem dL_law_918 : decode cL_law 918 = .ok (.iconst 0, 1) := by decide +kernel
theorem dL_law_919 : decode cL_law 919 = .ok (.ireturn, 1) := by decide +kernel
theorem dL_law_920 : decode cL_law 920 = .ok (.aload_n 1, 1) := by decide +kernel
theorem dL_law_921 : decode cL_law 921 = .ok (.aload_n 0, 1) := by decide +kernel
theorem dL_law_922 : decode cL_law 922 = .ok (.iload_n 3, 1) := by decide +kernel
theorem dL_law_923 : decode cL_law 923 = .ok (.iconst 1, 1) := by decide +kernel
theorem dL_law_924 : decode cL_law 924 = .ok (.iadd, 1) := by decide +kernel
theorem dL_law_925 : decode cL_law 925 = .ok (.iaload, 1) := by decide +kernel
theorem dL_law_926 : decode cL_law 926 = .ok (.invokevirtual 112, 3) := by decide +kernel
theorem dL_law_929 : decode cL_law 929 = .ok (.aload_n 2, 1) := by decide +kernel
theorem dL_law_930 : decode cL_law 930 = .ok (.aload_n 0, 1) := by decide +kernel
theorem dL_law_931 : decode cL_law 931 = .ok (.iload_n 3, 1) := by decide +kernel
theorem dL_law_932 : decode cL_law 932 = .ok (.iconst 1, 1) := by decide +kernel
theorem dL_law_933 : decode cL_law 933 = .ok (.iadd, 1) := by decide +kernel
theorem dL_law_934 : decode cL_law 934 = .ok (.iaload, 1) := by decide +kernel
theorem dL_law_935 : decode cL_law 935 = .ok (.invokevirtual 115, 3) := by decide +kernel
theorem dL_law_938 : decode cL_law 938 = .ok (.if_icmp .eq 483, 3) := by decide +kernel
theorem dL_law_941 : decode cL_law 941 = .ok (.iconst 0, 1) := by decide +kernel
theorem dL_law_942 : decode cL_law 942 = .ok (.ireturn, 1) := by decide +kernel
theorem dL_law_943 : decode cL_law 943 = .ok (.aload_n 1, 1) := by decide +kernel
theorem dL_law_944 : decode cL_law 944 = .ok (.invokevirtual 116, 3) := by decide +kernel
theorem dL_law_947 : decode cL_law 947 = .ok (.aload_n 2, 1) := by decide +kernel
theorem dL_law_948 : decode cL_law 948 = .ok (.invokevirtual 119, 3) := by decide +kernel
theorem dL_law_951 : decode cL_law 951 = .ok (.if_icmp .eq 470, 3) := by decide +kernel
theorem dL_law_954 : decode cL_law 954 = .ok (.iconst 0, 1) := by decide +kernel
theorem dL_law_955 : decode cL_law 955 = .ok (.ireturn, 1) := by decide +kernel
theorem dL_law_956 : decode cL_law 956 = .ok (.aload_n 1, 1) := by decide +kernel
theorem dL_law_957 : decode cL_law 957 = .ok (.aload_n 0, 1) := by decide +kernel
theorem dL_law_958 : decode cL_law 958 = .ok (.iload_n 3, 1) := by decide +kernel
theorem dL_law_959 : decode cL_law 959 = .ok (.iconst 1, 1) := by decide +kernel
theorem dL_law_960 : decode cL_law 960 = .ok (.iadd, 1) := by decide +kernel
theorem dL_law_961 : decode cL_law 961 = .ok (.iaload, 1) := by decide +kernel
theorem dL_law_962 : decode cL_law 962 = .ok (.aload_n 0, 1) := by decide +kernel
theorem dL_law_963 : decode cL_law 963 = .ok (.iload_n 3, 1) := by decide +kernel
theorem dL_law_964 : decode cL_law 964 = .ok (.iconst 2, 1) := by decide +kernel
theorem dL_law_965 : decode cL_law 965 = .ok (.iadd, 1) := by decide +kernel
theorem dL_law_966 : decode cL_law 966 = .ok (.iaload, 1) := by decide +kernel
theorem dL_law_967 : decode cL_law 967 = .ok (.aload_n 0, 1) := by decide +kernel
theorem dL_law_968 : decode cL_law 968 = .ok (.iload_n 3, 1) := by decide +kernel
theorem dL_law_969 : decode cL_law 969 = .ok (.iconst 3, 1) := by decide +kernel
theorem dL_law_970 : decode cL_law 970 = .ok (.iadd, 1) := by decide +kernel
theorem dL_law_971 : decode cL_law 971 = .ok (.iaload, 1) := by decide +kernel
theorem dL_law_972 : decode cL_law 972 = .ok (.invokevirtual 120, 3) := by decide +kernel
theorem dL_law_975 : decode cL_law 975 = .ok (.aload_n 2, 1) := by decide +kernel
theorem dL_law_976 : decode cL_law 976 = .ok (.aload_n 0, 1) := by decide +kernel
theorem dL_law_977 : decode cL_law 977 = .ok (.iload_n 3, 1) := by decide +kernel
theorem dL_law_978 : decode cL_law 978 = .ok (.iconst 1, 1) := by decide +kernel
theorem dL_law_979 : decode cL_law 979 = .ok (.iadd, 1) := by decide +kernel
theorem dL_law_980 : decode cL_law 980 = .ok (.iaload, 1) := by decide +kernel
theorem dL_law_981 : decode cL_law 981 = .ok (.aload_n 0, 1) := by decide +kernel
theorem dL_law_982 : decode cL_law 982 = .ok (.iload_n 3, 1) := by decide +kernel
theorem dL_law_983 : decode cL_law 983 = .ok (.iconst 2, 1) := by decide +kernel
theorem dL_law_984 : decode cL_law 984 = .ok (.iadd, 1) := by decide +kernel
theorem dL_law_985 : decode cL_law 985 = .ok (.iaload, 1) := by decide +kernel
theorem dL_law_986 : decode cL_law 986 = .ok (.aload_n 0, 1) := by decide +kernel
theorem dL_law_987 : decode cL_law 987 = .ok (.iload_n 3, 1) := by decide +kernel
theorem dL_law_988 : decode cL_law 988 = .ok (.iconst 3, 1) := by decide +kernel
theorem dL_law_989 : decode cL_law 989 = .ok (.iadd, 1) := by decide +kernel
theorem dL_law_990 : decode cL_law 990 = .ok (.iaload, 1) := by decide +kernel
theorem dL_law_991 : decode cL_law 991 = .ok (.invokevirtual 123, 3) := by decide +kernel
theorem dL_law_994 : decode cL_law 994 = .ok (.if_icmp .eq 427, 3) := by decide +kernel
theorem dL_law_997 : decode cL_law 997 = .ok (.iconst 0, 1) := by decide +kernel
theorem dL_law_998 : decode cL_law 998 = .ok (.ireturn, 1) := by decide +kernel
theorem dL_law_999 : decode cL_law 999 = .ok (.aload_n 1, 1) := by decide +kernel
theorem dL_law_1000 : decode cL_law 1000 = .ok (.aload_n 0, 1) := by decide +kernel
theorem dL_law_1001 : decode cL_law 1001 = .ok (.iload_n 3, 1) := by decide +kernel
theorem dL_law_1002 : decode cL_law 1002 = .ok (.iconst 1, 1) := by decide +kernel
theorem dL_law_1003 : decode cL_law 1003 = .ok (.iadd, 1) := by decide +kernel
theorem dL_law_1004 : decode cL_law 1004 = .ok (.iaload, 1) := by decide +kernel
theorem dL_law_1005 : decode cL_law 1005 = .ok (.aload_n 0, 1) := by decide +kernel
theorem dL_law_1006 : decode cL_law 1006 = .ok (.iload_n 3, 1) := by decide +kernel
theorem dL_law_1007 : decode cL_law 1007 = .ok (.iconst 2, 1) := by decide +kernel
theorem dL_law_1008 : decode cL_law 1008 = .ok (.iadd, 1) := by decide +kernel
theorem dL_law_1009 : decode cL_law 1009 = .ok (.iaload, 1) := by decide +kernel
theorem dL_law_1010 : decode cL_law 1010 = .ok (.aload_n 0, 1) := by decide +kernel
theorem dL_law_1011 : decode cL_law 1011 = .ok (.iload_n 3, 1) := by decide +kernel
theorem dL_law_1012 : decode cL_law 1012 = .ok (.iconst 3, 1) := by decide +kernel
theorem dL_law_1013 : decode cL_law 1013 = .ok (.iadd, 1) := by decide +kernel
theorem dL_law_1014 : decode cL_law 1014 = .ok (.iaload, 1) := by decide +kernel
theorem dL_law_1015 : decode cL_law 1015 = .ok (.aload_n 0, 1) := by decide +kernel
theorem dL_law_1016 : decode cL_law 1016 = .ok (.iload_n 3, 1) := by decide +kernel
theorem dL_law_1017 : decode cL_law 1017 = .ok (.iconst 4, 1) := by decide +kernel
theorem dL_law_1018 : decode cL_law 1018 = .ok (.iadd, 1) := by decide +kernel
theorem dL_law_1019 : decode cL_law 1019 = .ok (.iaload, 1) := by decide +kernel
theorem dL_law_1020 : decode cL_law 1020 = .ok (.invokevirtual 124, 3) := by decide +kernel
theorem dL_law_1023 : decode cL_law 1023 = .ok (.aload_n 2, 1) := by decide +kernel
theorem dL_law_1024 : decode cL_law 1024 = .ok (.aload_n 0, 1) := by decide +kernel
theorem dL_law_1025 : decode cL_law 1025 = .ok (.iload_n 3, 1) := by decide +kernel
theorem dL_law_1026 : decode cL_law 1026 = .ok (.iconst 1, 1) := by decide +kernel
theorem dL_law_1027 : decode cL_law 1027 = .ok (.iadd, 1) := by decide +kernel
theorem dL_law_1028 : decode cL_law 1028 = .ok (.iaload, 1) := by decide +kernel
theorem dL_law_1029 : decode cL_law 1029 = .ok (.aload_n 0, 1) := by decide +kernel
theorem dL_law_1030 : decode cL_law 1030 = .ok (.iload_n 3, 1) := by decide +kernel
theorem dL_law_1031 : decode cL_law 1031 = .ok (.iconst 2, 1) := by decide +kernel
theorem dL_law_1032 : decode cL_law 1032 = .ok (.iadd, 1) := by decide +kernel
theorem dL_law_1033 : decode cL_law 1033 = .ok (.iaload, 1) := by decide +kernel
theorem dL_law_1034 : decode cL_law 1034 = .ok (.aload_n 0, 1) := by decide +kernel
theorem dL_law_1035 : decode cL_law 1035 = .ok (.iload_n 3, 1) := by decide +kernel
theorem dL_law_1036 : decode cL_law 1036 = .ok (.iconst 3, 1) := by decide +kernel
theorem dL_law_1037 : decode cL_law 1037 = .ok (.iadd, 1) := by decide +kernel
theorem dL_law_1038 : decode cL_law 1038 = .ok (.iaload, 1) := by decide +kernel
theorem dL_law_1039 : decode cL_law 1039 = .ok (.aload_n 0, 1) := by decide +kernel
theorem dL_law_1040 : decode cL_law 1040 = .ok (.iload_n 3, 1) := by decide +kernel
theorem dL_law_1041 : decode cL_law 1041 = .ok (.iconst 4, 1) := by decide +kernel
theorem dL_law_1042 : decode cL_law 1042 = .ok (.iadd, 1) := by decide +kernel
theorem dL_law_1043 : decode cL_law 1043 = .ok (.iaload, 1) := by decide +kernel
theorem dL_law_1044 : decode cL_law 1044 = .ok (.invokevirtual 128, 3) := by decide +kernel
theorem dL_law_1047 : decode cL_law 1047 = .ok (.if_icmp .eq 374, 3) := by decide +kernel
theorem dL_law_1050 : decode cL_law 1050 = .ok (.iconst 0, 1) := by decide +kernel
theorem dL_law_1051 : decode cL_law 1051 = .ok (.ireturn, 1) := by decide +kernel
theorem dL_law_1052 : decode cL_law 1052 = .ok (.aload_n 1, 1) := by decide +kernel
theorem dL_law_1053 : decode cL_law 1053 = .ok (.aload_n 0, 1) := by decide +kernel
theorem dL_law_1054 : decode cL_law 1054 = .ok (.iload_n 3, 1) := by decide +kernel
theorem dL_law_1055 : decode cL_law 1055 = .ok (.iconst 1, 1) := by decide +kernel
theorem dL_law_1056 : decode cL_law 1056 = .ok (.iadd, 1) := by decide +kernel
theorem dL_law_1057 : decode cL_law 1057 = .ok (.iaload, 1) := by decide +kernel
theorem dL_law_1058 : decode cL_law 1058 = .ok (.aload_n 0, 1) := by decide +kernel
theorem dL_law_1059 : decode cL_law 1059 = .ok (.iload_n 3, 1) := by decide +kernel
theorem dL_law_1060 : decode cL_law 1060 = .ok (.iconst 2, 1) := by decide +kernel
theorem dL_law_1061 : decode cL_law 1061 = .ok (.iadd, 1) := by decide +kernel
theorem dL_law_1062 : decode cL_law 1062 = .ok (.iaload, 1) := by decide +kernel
theorem dL_law_1063 : decode cL_law 1063 = .ok (.invokevirtual 129, 3) := by decide +kernel
theorem dL_law_1066 : decode cL_law 1066 = .ok (.aload_n 2, 1) := by decide +kernel
theorem dL_law_1067 : decode cL_law 1067 = .ok (.aload_n 0, 1) := by decide +kernel
theorem dL_law_1068 : decode cL_law 1068 = .ok (.iload_n 3, 1) := by decide +kernel
theorem dL_law_1069 : decode cL_law 1069 = .ok (.iconst 1, 1) := by decide +kernel
theorem dL_law_1070 : decode cL_law 1070 = .ok (.iadd, 1) := by decide +kernel
theorem dL_law_1071 : decode cL_law 1071 = .ok (.iaload, 1) := by decide +kernel
theorem dL_law_1072 : decode cL_law 1072 = .ok (.aload_n 0, 1) := by decide +kernel
theorem dL_law_1073 : decode cL_law 1073 = .ok (.iload_n 3, 1) := by decide +kernel
theorem dL_law_1074 : decode cL_law 1074 = .ok (.iconst 2, 1) := by decide +kernel
theorem dL_law_1075 : decode cL_law 1075 = .ok (.iadd, 1) := by decide +kernel
theorem dL_law_1076 : decode cL_law 1076 = .ok (.iaload, 1) := by decide +kernel
theorem dL_law_1077 : decode cL_law 1077 = .ok (.invokevirtual 132, 3) := by decide +kernel
theorem dL_law_1080 : decode cL_law 1080 = .ok (.if_icmp .eq 341, 3) := by decide +kernel
theorem dL_law_1083 : decode cL_law 1083 = .ok (.iconst 0, 1) := by decide +kernel
theorem dL_law_1084 : decode cL_law 1084 = .ok (.ireturn, 1) := by decide +kernel
theorem dL_law_1085 : decode cL_law 1085 = .ok (.aload_n 1, 1) := by decide +kernel
theorem dL_law_1086 : decode cL_law 1086 = .ok (.aload_n 0, 1) := by decide +kernel
theorem dL_law_1087 : decode cL_law 1087 = .ok (.iload_n 3, 1) := by decide +kernel
theorem dL_law_1088 : decode cL_law 1088 = .ok (.iconst 1, 1) := by decide +kernel
theorem dL_law_1089 : decode cL_law 1089 = .ok (.iadd, 1) := by decide +kernel
theorem dL_law_1090 : decode cL_law 1090 = .ok (.iaload, 1) := by decide +kernel
theorem dL_law_1091 : decode cL_law 1091 = .ok (.aload_n 0, 1) := by decide +kernel
theorem dL_law_1092 : decode cL_law 1092 = .ok (.iload_n 3, 1) := by decide +kernel
theorem dL_law_1093 : decode cL_law 1093 = .ok (.iconst 2, 1) := by decide +kernel
theorem dL_law_1094 : decode cL_law 1094 = .ok (.iadd, 1) := by decide +kernel
theorem dL_law_1095 : decode cL_law 1095 = .ok (.iaload, 1) := by decide +kernel
theorem dL_law_1096 : decode cL_law 1096 = .ok (.aload_n 0, 1) := by decide +kernel
theorem dL_law_1097 : decode cL_law 1097 = .ok (.iload_n 3, 1) := by decide +kernel
theorem dL_law_1098 : decode cL_law 1098 = .ok (.iconst 3, 1) := by decide +kernel
theorem dL_law_1099 : decode cL_law 1099 = .ok (.iadd, 1) := by decide +kernel
theorem dL_law_1100 : decode cL_law 1100 = .ok (.iaload, 1) := by decide +kernel
theorem dL_law_1101 : decode cL_law 1101 = .ok (.invokevirtual 133, 3) := by decide +kernel
theorem dL_law_1104 : decode cL_law 1104 = .ok (.aload_n 2, 1) := by decide +kernel
theorem dL_law_1105 : decode cL_law 1105 = .ok (.aload_n 0, 1) := by decide +kernel
theorem dL_law_1106 : decode cL_law 1106 = .ok (.iload_n 3, 1) := by decide +kernel
theorem dL_law_1107 : decode cL_law 1107 = .ok (.iconst 1, 1) := by decide +kernel
theorem dL_law_1108 : decode cL_law 1108 = .ok (.iadd, 1) := by decide +kernel
theorem dL_law_1109 : decode cL_law 1109 = .ok (.iaload, 1) := by decide +kernel
theorem dL_law_1110 : decode cL_law 1110 = .ok (.aload_n 0, 1) := by decide +kernel
theorem dL_law_1111 : decode cL_law 1111 = .ok (.iload_n 3, 1) := by decide +kernel
theorem dL_law_1112 : decode cL_law 1112 = .ok (.iconst 2, 1) := by decide +kernel
theorem dL_law_1113 : decode cL_law 1113 = .ok (.iadd, 1) := by decide +kernel
theorem dL_law_1114 : decode cL_law 1114 = .ok (.iaload, 1) := by decide +kernel
theorem dL_law_1115 : decode cL_law 1115 = .ok (.aload_n 0, 1) := by decide +kernel
theorem dL_law_1116 : decode cL_law 1116 = .ok (.iload_n 3, 1) := by decide +kernel
theorem dL_law_1117 : decode cL_law 1117 = .ok (.iconst 3, 1) := by decide +kernel
theorem dL_law_1118 : decode cL_law 1118 = .ok (.iadd, 1) := by decide +kernel
theorem dL_law_1119 : decode cL_law 1119 = .ok (.iaload, 1) := by decide +kernel
theorem dL_law_1120 : decode cL_law 1120 = .ok (.invokevirtual 136, 3) := by decide +kernel
theorem dL_law_1123 : decode cL_law 1123 = .ok (.if_icmp .eq 298, 3) := by decide +kernel
theorem dL_law_1126 : decode cL_law 1126 = .ok (.iconst 0, 1) := by decide +kernel
theorem dL_law_1127 : decode cL_law 1127 = .ok (.ireturn, 1) := by decide +kernel
theorem dL_law_1128 : decode cL_law 1128 = .ok (.aload_n 1, 1) := by decide +kernel
theorem dL_law_1129 : decode cL_law 1129 = .ok (.aload_n 0, 1) := by decide +kernel
theorem dL_law_1130 : decode cL_law 1130 = .ok (.iload_n 3, 1) := by decide +kernel
theorem dL_law_1131 : decode cL_law 1131 = .ok (.iconst 1, 1) := by decide +kernel
theorem dL_law_1132 : decode cL_law 1132 = .ok (.iadd, 1) := by decide +kernel
theorem dL_law_1133 : decode cL_law 1133 = .ok (.iaload, 1) := by decide +kernel
theorem dL_law_1134 : decode cL_law 1134 = .ok (.aload_n 0, 1) := by decide +kernel
theorem dL_law_1135 : decode cL_law 1135 = .ok (.iload_n 3, 1) := by decide +kernel
theorem dL_law_1136 : decode cL_law 1136 = .ok (.iconst 2, 1) := by decide +kernel
theorem dL_law_1137 : decode cL_law 1137 = .ok (.iadd, 1) := by decide +kernel
theorem dL_law_1138 : decode cL_law 1138 = .ok (.iaload, 1) := by decide +kernel
theorem dL_law_1139 : decode cL_law 1139 = .ok (.aload_n 0, 1) := by decide +kernel
theorem dL_law_1140 : decode cL_law 1140 = .ok (.iload_n 3, 1) := by decide +kernel
theorem dL_law_1141 : decode cL_law 1141 = .ok (.iconst 3, 1) := by decide +kernel
theorem dL_law_1142 : decode cL_law 1142 = .ok (.iadd, 1) := by decide +kernel
theorem dL_law_1143 : decode cL_law 1143 = .ok (.iaload, 1) := by decide +kernel
theorem dL_law_1144 : decode cL_law 1144 = .ok (.invokevirtual 137, 3) := by decide +kernel
theorem dL_law_1147 : decode cL_law 1147 = .ok (.aload_n 2, 1) := by decide +kernel
theorem dL_law_1148 : decode cL_law 1148 = .ok (.aload_n 0, 1) := by decide +kernel
theorem dL_law_1149 : decode cL_law 1149 = .ok (.iload_n 3, 1) := by decide +kernel
theorem dL_law_1150 : decode cL_law 1150 = .ok (.iconst 1, 1) := by decide +kernel
theorem dL_law_1151 : decode cL_law 1151 = .ok (.iadd, 1) := by decide +kernel
theorem dL_law_1152 : decode cL_law 1152 = .ok (.iaload, 1) := by decide +kernel
theorem dL_law_1153 : decode cL_law 1153 = .ok (.aload_n 0, 1) := by decide +kernel
theorem dL_law_1154 : decode cL_law 1154 = .ok (.iload_n 3, 1) := by decide +kernel
theorem dL_law_1155 : decode cL_law 1155 = .ok (.iconst 2, 1) := by decide +kernel
theorem dL_law_1156 : decode cL_law 1156 = .ok (.iadd, 1) := by decide +kernel
theorem dL_law_1157 : decode cL_law 1157 = .ok (.iaload, 1) := by decide +kernel
theorem dL_law_1158 : decode cL_law 1158 = .ok (.aload_n 0, 1) := by decide +kernel
theorem dL_law_1159 : decode cL_law 1159 = .ok (.iload_n 3, 1) := by decide +kernel
theorem dL_law_1160 : decode cL_law 1160 = .ok (.iconst 3, 1) := by decide +kernel
theorem dL_law_1161 : decode cL_law 1161 = .ok (.iadd, 1) := by decide +kernel
theorem dL_law_1162 : decode cL_law 1162 = .ok (.iaload, 1) := by decide +kernel
theorem dL_law_1163 : decode cL_law 1163 = .ok (.invokevirtual 140, 3) := by decide +kernel
theorem dL_law_1166 : decode cL_law 1166 = .ok (.if_icmp .eq 255, 3) := by decide +kernel
theorem dL_law_1169 : decode cL_law 1169 = .ok (.iconst 0, 1) := by decide +kernel
theorem dL_law_1170 : decode cL_law 1170 = .ok (.ireturn, 1) := by decide +kernel
theorem dL_law_1171 : decode cL_law 1171 = .ok (.aload_n 1, 1) := by decide +kernel
theorem dL_law_1172 : decode cL_law 1172 = .ok (.aload_n 0, 1) := by decide +kernel
theorem dL_law_1173 : decode cL_law 1173 = .ok (.iload_n 3, 1) := by decide +kernel
theorem dL_law_1174 : decode cL_law 1174 = .ok (.iconst 1, 1) := by decide +kernel
theorem dL_law_1175 : decode cL_law 1175 = .ok (.iadd, 1) := by decide +kernel
theorem dL_law_1176 : decode cL_law 1176 = .ok (.iaload, 1) := by decide +kernel
theorem dL_law_1177 : decode cL_law 1177 = .ok (.aload_n 0, 1) := by decide +kernel
theorem dL_law_1178 : decode cL_law 1178 = .ok (.iload_n 3, 1) := by decide +kernel
theorem dL_law_1179 : decode cL_law 1179 = .ok (.iconst 2, 1) := by decide +kernel
theorem dL_law_1180 : decode cL_law 1180 = .ok (.iadd, 1) := by decide +kernel
theorem dL_law_1181 : decode cL_law 1181 = .ok (.iaload, 1) := by decide +kernel
theorem dL_law_1182 : decode cL_law 1182 = .ok (.invokevirtual 141, 3) := by decide +kernel
theorem dL_law_1185 : decode cL_law 1185 = .ok (.aload_n 2, 1) := by decide +kernel
theorem dL_law_1186 : decode cL_law 1186 = .ok (.aload_n 0, 1) := by decide +kernel
theorem dL_law_1187 : decode cL_law 1187 = .ok (.iload_n 3, 1) := by decide +kernel
theorem dL_law_1188 : decode cL_law 1188 = .ok (.iconst 1, 1) := by decide +kernel
theorem dL_law_1189 : decode cL_law 1189 = .ok (.iadd, 1) := by decide +kernel
theorem dL_law_1190 : decode cL_law 1190 = .ok (.iaload, 1) := by decide +kernel
theorem dL_law_1191 : decode cL_law 1191 = .ok (.aload_n 0, 1) := by decide +kernel
theorem dL_law_1192 : decode cL_law 1192 = .ok (.iload_n 3, 1) := by decide +kernel
theorem dL_law_1193 : decode cL_law 1193 = .ok (.iconst 2, 1) := by decide +kernel
theorem dL_law_1194 : decode cL_law 1194 = .ok (.iadd, 1) := by decide +kernel
theorem dL_law_1195 : decode cL_law 1195 = .ok (.iaload, 1) := by decide +kernel
theorem dL_law_1196 : decode cL_law 1196 = .ok (.invokevirtual 144, 3) := by decide +kernel
theorem dL_law_1199 : decode cL_law 1199 = .ok (.if_icmp .eq 222, 3) := by decide +kernel
theorem dL_law_1202 : decode cL_law 1202 = .ok (.iconst 0, 1) := by decide +kernel
theorem dL_law_1203 : decode cL_law 1203 = .ok (.ireturn, 1) := by decide +kernel
theorem dL_law_1204 : decode cL_law 1204 = .ok (.aload_n 1, 1) := by decide +kernel
theorem dL_law_1205 : decode cL_law 1205 = .ok (.invokevirtual 145, 3) := by decide +kernel
theorem dL_law_1208 : decode cL_law 1208 = .ok (.aload_n 2, 1) := by decide +kernel
theorem dL_law_1209 : decode cL_law 1209 = .ok (.invokevirtual 148, 3) := by decide +kernel
theorem dL_law_1212 : decode cL_law 1212 = .ok (.if_icmp .eq 209, 3) := by decide +kernel
theorem dL_law_1215 : decode cL_law 1215 = .ok (.iconst 0, 1) := by decide +kernel
theorem dL_law_1216 : decode cL_law 1216 = .ok (.ireturn, 1) := by decide +kernel
theorem dL_law_1217 : decode cL_law 1217 = .ok (.aload_n 1, 1) := by decide +kernel
theorem dL_law_1218 : decode cL_law 1218 = .ok (.aload_n 0, 1) := by decide +kernel
theorem dL_law_1219 : decode cL_law 1219 = .ok (.iload_n 3, 1) := by decide +kernel
theorem dL_law_1220 : decode cL_law 1220 = .ok (.iconst 1, 1) := by decide +kernel
theorem dL_law_1221 : decode cL_law 1221 = .ok (.iadd, 1) := by decide +kernel
theorem dL_law_1222 : decode cL_law 1222 = .ok (.iaload, 1) := by decide +kernel
theorem dL_law_1223 : decode cL_law 1223 = .ok (.invokevirtual 149, 3) := by decide +kernel
theorem dL_law_1226 : decode cL_law 1226 = .ok (.aload_n 2, 1) := by decide +kernel
theorem dL_law_1227 : decode cL_law 1227 = .ok (.aload_n 0, 1) := by decide +kernel
theorem dL_law_1228 : decode cL_law 1228 = .ok (.iload_n 3, 1) := by decide +kernel
theorem dL_law_1229 : decode cL_law 1229 = .ok (.iconst 1, 1) := by decide +kernel
theorem dL_law_1230 : decode cL_law 1230 = .ok (.iadd, 1) := by decide +kernel
theorem dL_law_1231 : decode cL_law 1231 = .ok (.iaload, 1) := by decide +kernel
theorem dL_law_1232 : decode cL_law 1232 = .ok (.invokevirtual 152, 3) := by decide +kernel
theorem dL_law_1235 : decode cL_law 1235 = .ok (.if_icmp .eq 186, 3) := by decide +kernel
theorem dL_law_1238 : decode cL_law 1238 = .ok (.iconst 0, 1) := by decide +kernel
theorem dL_law_1239 : decode cL_law 1239 = .ok (.ireturn, 1) := by decide +kernel
theorem dL_law_1240 : decode cL_law 1240 = .ok (.aload_n 1, 1) := by decide +kernel
theorem dL_law_1241 : decode cL_law 1241 = .ok (.invokevirtual 153, 3) := by decide +kernel
theorem dL_law_1244 : decode cL_law 1244 = .ok (.aload_n 2, 1) := by decide +kernel
theorem dL_law_1245 : decode cL_law 1245 = .ok (.invokevirtual 156, 3) := by decide +kernel
theorem dL_law_1248 : decode cL_law 1248 = .ok (.if_icmp .eq 173, 3) := by decide +kernel
theorem dL_law_1251 : decode cL_law 1251 = .ok (.iconst 0, 1) := by decide +kernel
theorem dL_law_1252 : decode cL_law 1252 = .ok (.ireturn, 1) := by decide +kernel
theorem dL_law_1253 : decode cL_law 1253 = .ok (.aload_n 1, 1) := by decide +kernel
theorem dL_law_1254 : decode cL_law 1254 = .ok (.aload_n 0, 1) := by decide +kernel
theorem dL_law_1255 : decode cL_law 1255 = .ok (.iload_n 3, 1) := by decide +kernel
theorem dL_law_1256 : decode cL_law 1256 = .ok (.iconst 1, 1) := by decide +kernel
theorem dL_law_1257 : decode cL_law 1257 = .ok (.iadd, 1) := by decide +kernel
theorem dL_law_1258 : decode cL_law 1258 = .ok (.iaload, 1) := by decide +kernel
theorem dL_law_1259 : decode cL_law 1259 = .ok (.aload_n 0, 1) := by decide +kernel
theorem dL_law_1260 : decode cL_law 1260 = .ok (.iload_n 3, 1) := by decide +kernel
theorem dL_law_1261 : decode cL_law 1261 = .ok (.iconst 2, 1) := by decide +kernel
theorem dL_law_1262 : decode cL_law 1262 = .ok (.iadd, 1) := by decide +kernel
theorem dL_law_1263 : decode cL_law 1263 = .ok (.iaload, 1) := by decide +kernel
theorem dL_law_1264 : decode cL_law 1264 = .ok (.aload_n 0, 1) := by decide +kernel
theorem dL_law_1265 : decode cL_law 1265 = .ok (.iload_n 3, 1) := by decide +kernel
theorem dL_law_1266 : decode cL_law 1266 = .ok (.iconst 3, 1) := by decide +kernel
theorem dL_law_1267 : decode cL_law 1267 = .ok (.iadd, 1) := by decide +kernel
theorem dL_law_1268 : decode cL_law 1268 = .ok (.iaload, 1) := by decide +kernel
theorem dL_law_1269 : decode cL_law 1269 = .ok (.aload_n 0, 1) := by decide +kernel
theorem dL_law_1270 : decode cL_law 1270 = .ok (.iload_n 3, 1) := by decide +kernel
theorem dL_law_1271 : decode cL_law 1271 = .ok (.iconst 4, 1) := by decide +kernel
theorem dL_law_1272 : decode cL_law 1272 = .ok (.iadd, 1) := by decide +kernel
theorem dL_law_1273 : decode cL_law 1273 = .ok (.iaload, 1) := by decide +kernel
theorem dL_law_1274 : decode cL_law 1274 = .ok (.aload_n 0, 1) := by decide +kernel
theorem dL_law_1275 : decode cL_law 1275 = .ok (.iload_n 3, 1) := by decide +kernel
theorem dL_law_1276 : decode cL_law 1276 = .ok (.iconst 5, 1) := by decide +kernel
theorem dL_law_1277 : decode cL_law 1277 = .ok (.iadd, 1) := by decide +kernel
theorem dL_law_1278 : decode cL_law 1278 = .ok (.iaload, 1) := by decide +kernel
theorem dL_law_1279 : decode cL_law 1279 = .ok (.invokevirtual 157, 3) := by decide +kernel
theorem dL_law_1282 : decode cL_law 1282 = .ok (.aload_n 2, 1) := by decide +kernel
theorem dL_law_1283 : decode cL_law 1283 = .ok (.aload_n 0, 1) := by decide +kernel
theorem dL_law_1284 : decode cL_law 1284 = .ok (.iload_n 3, 1) := by decide +kernel
theorem dL_law_1285 : decode cL_law 1285 = .ok (.iconst 1, 1) := by decide +kernel
theorem dL_law_1286 : decode cL_law 1286 = .ok (.iadd, 1) := by decide +kernel
theorem dL_law_1287 : decode cL_law 1287 = .ok (.iaload, 1) := by decide +kernel
theorem dL_law_1288 : decode cL_law 1288 = .ok (.aload_n 0, 1) := by decide +kernel
theorem dL_law_1289 : decode cL_law 1289 = .ok (.iload_n 3, 1) := by decide +kernel
theorem dL_law_1290 : decode cL_law 1290 = .ok (.iconst 2, 1) := by decide +kernel
theorem dL_law_1291 : decode cL_law 1291 = .ok (.iadd, 1) := by decide +kernel
theorem dL_law_1292 : decode cL_law 1292 = .ok (.iaload, 1) := by decide +kernel
theorem dL_law_1293 : decode cL_law 1293 = .ok (.aload_n 0, 1) := by decide +kernel
theorem dL_law_1294 : decode cL_law 1294 = .ok (.iload_n 3, 1) := by decide +kernel
theorem dL_law_1295 : decode cL_law 1295 = .ok (.iconst 3, 1) := by decide +kernel
theorem dL_law_1296 : decode cL_law 1296 = .ok (.iadd, 1) := by decide +kernel
theorem dL_law_1297 : decode cL_law 1297 = .ok (.iaload, 1) := by decide +kernel
theorem dL_law_1298 : decode cL_law 1298 = .ok (.aload_n 0, 1) := by decide +kernel
theorem dL_law_1299 : decode cL_law 1299 = .ok (.iload_n 3, 1) := by decide +kernel
theorem dL_law_1300 : decode cL_law 1300 = .ok (.iconst 4, 1) := by decide +kernel
theorem dL_law_1301 : decode cL_law 1301 = .ok (.iadd, 1) := by decide +kernel
theorem dL_law_1302 : decode cL_law 1302 = .ok (.iaload, 1) := by decide +kernel
theorem dL_law_1303 : decode cL_law 1303 = .ok (.aload_n 0, 1) := by decide +kernel
theorem dL_law_1304 : decode cL_law 1304 = .ok (.iload_n 3, 1) := by decide +kernel
theorem dL_law_1305 : decode cL_law 1305 = .ok (.iconst 5, 1) := by decide +kernel
theorem dL_law_1306 : decode cL_law 1306 = .ok (.iadd, 1) := by decide +kernel
theorem dL_law_1307 : decode cL_law 1307 = .ok (.iaload, 1) := by decide +kernel
theorem dL_law_1308 : decode cL_law 1308 = .ok (.invokevirtual 160, 3) := by decide +kernel
theorem dL_law_1311 : decode cL_law 1311 = .ok (.if_icmp .eq 110, 3) := by decide +kernel
theorem dL_law_1314 : decode cL_law 1314 = .ok (.iconst 0, 1) := by decide +kernel
theorem dL_law_1315 : decode cL_law 1315 = .ok (.ireturn, 1) := by decide +kernel
theorem dL_law_1316 : decode cL_law 1316 = .ok (.aload_n 1, 1) := by decide +kernel
theorem dL_law_1317 : decode cL_law 1317 = .ok (.aload_n 0, 1) := by decide +kernel
theorem dL_law_1318 : decode cL_law 1318 = .ok (.iload_n 3, 1) := by decide +kernel
theorem dL_law_1319 : decode cL_law 1319 = .ok (.iconst 1, 1) := by decide +kernel
theorem dL_law_1320 : decode cL_law 1320 = .ok (.iadd, 1) := by decide +kernel
theorem dL_law_1321 : decode cL_law 1321 = .ok (.iaload, 1) := by decide +kernel
theorem dL_law_1322 : decode cL_law 1322 = .ok (.invokevirtual 161, 3) := by decide +kernel
theorem dL_law_1325 : decode cL_law 1325 = .ok (.aload_n 2, 1) := by decide +kernel
theorem dL_law_1326 : decode cL_law 1326 = .ok (.aload_n 0, 1) := by decide +kernel
theorem dL_law_1327 : decode cL_law 1327 = .ok (.iload_n 3, 1) := by decide +kernel
theorem dL_law_1328 : decode cL_law 1328 = .ok (.iconst 1, 1) := by decide +kernel
theorem dL_law_1329 : decode cL_law 1329 = .ok (.iadd, 1) := by decide +kernel
theorem dL_law_1330 : decode cL_law 1330 = .ok (.iaload, 1) := by decide +kernel
theorem dL_law_1331 : decode cL_law 1331 = .ok (.invokevirtual 164, 3) := by decide +kernel
theorem dL_law_1334 : decode cL_law 1334 = .ok (.if_icmp .eq 87, 3) := by decide +kernel
theorem dL_law_1337 : decode cL_law 1337 = .ok (.iconst 0, 1) := by decide +kernel
theorem dL_law_1338 : decode cL_law 1338 = .ok (.ireturn, 1) := by decide +kernel
theorem dL_law_1339 : decode cL_law 1339 = .ok (.aload_n 1, 1) := by decide +kernel
theorem dL_law_1340 : decode cL_law 1340 = .ok (.aload_n 0, 1) := by decide +kernel
theorem dL_law_1341 : decode cL_law 1341 = .ok (.iload_n 3, 1) := by decide +kernel
theorem dL_law_1342 : decode cL_law 1342 = .ok (.iconst 1, 1) := by decide +kernel
theorem dL_law_1343 : decode cL_law 1343 = .ok (.iadd, 1) := by decide +kernel
theorem dL_law_1344 : decode cL_law 1344 = .ok (.iaload, 1) := by decide +kernel
theorem dL_law_1345 : decode cL_law 1345 = .ok (.invokevirtual 165, 3) := by decide +kernel
theorem dL_law_1348 : decode cL_law 1348 = .ok (.aload_n 2, 1) := by decide +kernel
theorem dL_law_1349 : decode cL_law 1349 = .ok (.aload_n 0, 1) := by decide +kernel
theorem dL_law_1350 : decode cL_law 1350 = .ok (.iload_n 3, 1) := by decide +kernel
theorem dL_law_1351 : decode cL_law 1351 = .ok (.iconst 1, 1) := by decide +kernel
theorem dL_law_1352 : decode cL_law 1352 = .ok (.iadd, 1) := by decide +kernel
theorem dL_law_1353 : decode cL_law 1353 = .ok (.iaload, 1) := by decide +kernel
theorem dL_law_1354 : decode cL_law 1354 = .ok (.invokevirtual 168, 3) := by decide +kernel
theorem dL_law_1357 : decode cL_law 1357 = .ok (.if_icmp .eq 64, 3) := by decide +kernel
theorem dL_law_1360 : decode cL_law 1360 = .ok (.iconst 0, 1) := by decide +kernel
theorem dL_law_1361 : decode cL_law 1361 = .ok (.ireturn, 1) := by decide +kernel
theorem dL_law_1362 : decode cL_law 1362 = .ok (.aload_n 1, 1) := by decide +kernel
theorem dL_law_1363 : decode cL_law 1363 = .ok (.aload_n 0, 1) := by decide +kernel
theorem dL_law_1364 : decode cL_law 1364 = .ok (.iload_n 3, 1) := by decide +kernel
theorem dL_law_1365 : decode cL_law 1365 = .ok (.iconst 1, 1) := by decide +kernel
theorem dL_law_1366 : decode cL_law 1366 = .ok (.iadd, 1) := by decide +kernel
theorem dL_law_1367 : decode cL_law 1367 = .ok (.iaload, 1) := by decide +kernel
theorem dL_law_1368 : decode cL_law 1368 = .ok (.invokevirtual 169, 3) := by decide +kernel
theorem dL_law_1371 : decode cL_law 1371 = .ok (.aload_n 2, 1) := by decide +kernel
theorem dL_law_1372 : decode cL_law 1372 = .ok (.aload_n 0, 1) := by decide +kernel
theorem dL_law_1373 : decode cL_law 1373 = .ok (.iload_n 3, 1) := by decide +kernel
theorem dL_law_1374 : decode cL_law 1374 = .ok (.iconst 1, 1) := by decide +kernel
theorem dL_law_1375 : decode cL_law 1375 = .ok (.iadd, 1) := by decide +kernel
theorem dL_law_1376 : decode cL_law 1376 = .ok (.iaload, 1) := by decide +kernel
theorem dL_law_1377 : decode cL_law 1377 = .ok (.invokevirtual 172, 3) := by decide +kernel
theorem dL_law_1380 : decode cL_law 1380 = .ok (.if_icmp .eq 41, 3) := by decide +kernel
theorem dL_law_1383 : decode cL_law 1383 = .ok (.iconst 0, 1) := by decide +kernel
theorem dL_law_1384 : decode cL_law 1384 = .ok (.ireturn, 1) := by decide +kernel
theorem dL_law_1385 : decode cL_law 1385 = .ok (.aload_n 1, 1) := by decide +kernel
theorem dL_law_1386 : decode cL_law 1386 = .ok (.aload_n 0, 1) := by decide +kernel
theorem dL_law_1387 : decode cL_law 1387 = .ok (.iload_n 3, 1) := by decide +kernel
theorem dL_law_1388 : decode cL_law 1388 = .ok (.iconst 1, 1) := by decide +kernel
theorem dL_law_1389 : decode cL_law 1389 = .ok (.iadd, 1) := by decide +kernel
theorem dL_law_1390 : decode cL_law 1390 = .ok (.iaload, 1) := by decide +kernel
theorem dL_law_1391 : decode cL_law 1391 = .ok (.invokevirtual 173, 3) := by decide +kernel
theorem dL_law_1394 : decode cL_law 1394 = .ok (.aload_n 2, 1) := by decide +kernel
theorem dL_law_1395 : decode cL_law 1395 = .ok (.aload_n 0, 1) := by decide +kernel
theorem dL_law_1396 : decode cL_law 1396 = .ok (.iload_n 3, 1) := by decide +kernel
theorem dL_law_1397 : decode cL_law 1397 = .ok (.iconst 1, 1) := by decide +kernel
theorem dL_law_1398 : decode cL_law 1398 = .ok (.iadd, 1) := by decide +kernel
theorem dL_law_1399 : decode cL_law 1399 = .ok (.iaload, 1) := by decide +kernel
theorem dL_law_1400 : decode cL_law 1400 = .ok (.invokevirtual 176, 3) := by decide +kernel
theorem dL_law_1403 : decode cL_law 1403 = .ok (.if_icmp .eq 18, 3) := by decide +kernel
theorem dL_law_1406 : decode cL_law 1406 = .ok (.iconst 0, 1) := by decide +kernel
theorem dL_law_1407 : decode cL_law 1407 = .ok (.ireturn, 1) := by decide +kernel
theorem dL_law_1408 : decode cL_law 1408 = .ok (.aload_n 1, 1) := by decide +kernel
theorem dL_law_1409 : decode cL_law 1409 = .ok (.invokevirtual 177, 3) := by decide +kernel
theorem dL_law_1412 : decode cL_law 1412 = .ok (.aload_n 2, 1) := by decide +kernel
theorem dL_law_1413 : decode cL_law 1413 = .ok (.invokevirtual 180, 3) := by decide +kernel
theorem dL_law_1416 : decode cL_law 1416 = .ok (.if_icmp .eq 5, 3) := by decide +kernel
theorem dL_law_1419 : decode cL_law 1419 = .ok (.iconst 0, 1) := by decide +kernel
theorem dL_law_1420 : decode cL_law 1420 = .ok (.ireturn, 1) := by decide +kernel
theorem dL_law_1421 : decode cL_law 1421 = .ok (.iinc 3 6, 3) := by decide +kernel
theorem dL_law_1424 : decode cL_law 1424 = .ok (.goto (-1406), 3) := by decide +kernel
theorem dL_law_1427 : decode cL_law 1427 = .ok (.iconst 1, 1) := by decide +kernel
theorem dL_law_1428 : decode cL_law 1428 = .ok (.ireturn, 1) := by decide +kernel
