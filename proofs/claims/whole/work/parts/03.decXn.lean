theorem dX0_init_0 : decode cX0_init 0 = .ok (.aload_n 0, 1) := by decide +kernel
theorem dX0_init_1 : decode cX0_init 1 = .ok (.invokespecial 3, 3) := by decide +kernel
theorem dX0_init_4 : decode cX0_init 4 = .ok (.aload_n 0, 1) := by decide +kernel
theorem dX0_init_5 : decode cX0_init 5 = .ok (.lconst 0, 1) := by decide +kernel
theorem dX0_init_6 : decode cX0_init 6 = .ok (.putfield 9, 3) := by decide +kernel
theorem dX0_init_9 : decode cX0_init 9 = .ok (.aload_n 0, 1) := by decide +kernel
theorem dX0_init_10 : decode cX0_init 10 = .ok (.bipush 14, 2) := by decide +kernel
theorem dX0_init_12 : decode cX0_init 12 = .ok (.newarray .int, 2) := by decide +kernel
theorem dX0_init_14 : decode cX0_init 14 = .ok (.putfield 15, 3) := by decide +kernel
theorem dX0_init_17 : decode cX0_init 17 = .ok (.aload_n 0, 1) := by decide +kernel
theorem dX0_init_18 : decode cX0_init 18 = .ok (.bipush 64, 2) := by decide +kernel
theorem dX0_init_20 : decode cX0_init 20 = .ok (.newarray .long, 2) := by decide +kernel
theorem dX0_init_22 : decode cX0_init 22 = .ok (.putfield 19, 3) := by decide +kernel
theorem dX0_init_25 : decode cX0_init 25 = .ok (.aload_n 0, 1) := by decide +kernel
theorem dX0_init_26 : decode cX0_init 26 = .ok (.iconst 0, 1) := by decide +kernel
theorem dX0_init_27 : decode cX0_init 27 = .ok (.putfield 23, 3) := by decide +kernel
theorem dX0_init_30 : decode cX0_init 30 = .ok (.return_, 1) := by decide +kernel
theorem dX0_faceJoint_0 : decode cX0_faceJoint 0 = .ok (.aload_n 0, 1) := by decide +kernel
theorem dX0_faceJoint_1 : decode cX0_faceJoint 1 = .ok (.getfield 15, 3) := by decide +kernel
theorem dX0_faceJoint_4 : decode cX0_faceJoint 4 = .ok (.iconst 0, 1) := by decide +kernel
theorem dX0_faceJoint_5 : decode cX0_faceJoint 5 = .ok (.invokestatic 27, 3) := by decide +kernel
theorem dX0_faceJoint_8 : decode cX0_faceJoint 8 = .ok (.aload_n 0, 1) := by decide +kernel
theorem dX0_faceJoint_9 : decode cX0_faceJoint 9 = .ok (.getfield 15, 3) := by decide +kernel
theorem dX0_faceJoint_12 : decode cX0_faceJoint 12 = .ok (.iconst 1, 1) := by decide +kernel
theorem dX0_faceJoint_13 : decode cX0_faceJoint 13 = .ok (.aload_n 1, 1) := by decide +kernel
theorem dX0_faceJoint_14 : decode cX0_faceJoint 14 = .ok (.getfield 33, 3) := by decide +kernel
theorem dX0_faceJoint_17 : decode cX0_faceJoint 17 = .ok (.iload_n 2, 1) := by decide +kernel
theorem dX0_faceJoint_18 : decode cX0_faceJoint 18 = .ok (.bipush 8, 2) := by decide +kernel
theorem dX0_faceJoint_20 : decode cX0_faceJoint 20 = .ok (.idiv, 1) := by decide +kernel
theorem dX0_faceJoint_21 : decode cX0_faceJoint 21 = .ok (.iaload, 1) := by decide +kernel
theorem dX0_faceJoint_22 : decode cX0_faceJoint 22 = .ok (.iastore, 1) := by decide +kernel
theorem dX0_faceJoint_23 : decode cX0_faceJoint 23 = .ok (.aload_n 0, 1) := by decide +kernel
theorem dX0_faceJoint_24 : decode cX0_faceJoint 24 = .ok (.getfield 15, 3) := by decide +kernel
theorem dX0_faceJoint_27 : decode cX0_faceJoint 27 = .ok (.iconst 2, 1) := by decide +kernel
theorem dX0_faceJoint_28 : decode cX0_faceJoint 28 = .ok (.iload_n 2, 1) := by decide +kernel
theorem dX0_faceJoint_29 : decode cX0_faceJoint 29 = .ok (.bipush 8, 2) := by decide +kernel
theorem dX0_faceJoint_31 : decode cX0_faceJoint 31 = .ok (.idiv, 1) := by decide +kernel
theorem dX0_faceJoint_32 : decode cX0_faceJoint 32 = .ok (.iastore, 1) := by decide +kernel
theorem dX0_faceJoint_33 : decode cX0_faceJoint 33 = .ok (.aload_n 0, 1) := by decide +kernel
theorem dX0_faceJoint_34 : decode cX0_faceJoint 34 = .ok (.getfield 15, 3) := by decide +kernel
theorem dX0_faceJoint_37 : decode cX0_faceJoint 37 = .ok (.iconst 3, 1) := by decide +kernel
theorem dX0_faceJoint_38 : decode cX0_faceJoint 38 = .ok (.iload_n 2, 1) := by decide +kernel
theorem dX0_faceJoint_39 : decode cX0_faceJoint 39 = .ok (.invokestatic 38, 3) := by decide +kernel
theorem dX0_faceJoint_42 : decode cX0_faceJoint 42 = .ok (.iastore, 1) := by decide +kernel
theorem dX0_faceJoint_43 : decode cX0_faceJoint 43 = .ok (.aload_n 0, 1) := by decide +kernel
theorem dX0_faceJoint_44 : decode cX0_faceJoint 44 = .ok (.getfield 15, 3) := by decide +kernel
theorem dX0_faceJoint_47 : decode cX0_faceJoint 47 = .ok (.iconst 4, 1) := by decide +kernel
theorem dX0_faceJoint_48 : decode cX0_faceJoint 48 = .ok (.iload_n 3, 1) := by decide +kernel
theorem dX0_faceJoint_49 : decode cX0_faceJoint 49 = .ok (.iastore, 1) := by decide +kernel
theorem dX0_faceJoint_50 : decode cX0_faceJoint 50 = .ok (.aload_n 0, 1) := by decide +kernel
theorem dX0_faceJoint_51 : decode cX0_faceJoint 51 = .ok (.getfield 15, 3) := by decide +kernel
theorem dX0_faceJoint_54 : decode cX0_faceJoint 54 = .ok (.iconst 5, 1) := by decide +kernel
theorem dX0_faceJoint_55 : decode cX0_faceJoint 55 = .ok (.aload_n 1, 1) := by decide +kernel
theorem dX0_faceJoint_56 : decode cX0_faceJoint 56 = .ok (.iload_n 2, 1) := by decide +kernel
theorem dX0_faceJoint_57 : decode cX0_faceJoint 57 = .ok (.invokevirtual 44, 3) := by decide +kernel
theorem dX0_faceJoint_60 : decode cX0_faceJoint 60 = .ok (.iastore, 1) := by decide +kernel
theorem dX0_faceJoint_61 : decode cX0_faceJoint 61 = .ok (.aload_n 0, 1) := by decide +kernel
theorem dX0_faceJoint_62 : decode cX0_faceJoint 62 = .ok (.getfield 15, 3) := by decide +kernel
theorem dX0_faceJoint_65 : decode cX0_faceJoint 65 = .ok (.bipush 6, 2) := by decide +kernel
theorem dX0_faceJoint_67 : decode cX0_faceJoint 67 = .ok (.aload_n 1, 1) := by decide +kernel
theorem dX0_faceJoint_68 : decode cX0_faceJoint 68 = .ok (.getfield 47, 3) := by decide +kernel
theorem dX0_faceJoint_71 : decode cX0_faceJoint 71 = .ok (.iconst 3, 1) := by decide +kernel
theorem dX0_faceJoint_72 : decode cX0_faceJoint 72 = .ok (.iaload, 1) := by decide +kernel
theorem dX0_faceJoint_73 : decode cX0_faceJoint 73 = .ok (.iastore, 1) := by decide +kernel
theorem dX0_faceJoint_74 : decode cX0_faceJoint 74 = .ok (.aload_n 0, 1) := by decide +kernel
theorem dX0_faceJoint_75 : decode cX0_faceJoint 75 = .ok (.getfield 15, 3) := by decide +kernel
theorem dX0_faceJoint_78 : decode cX0_faceJoint 78 = .ok (.bipush 10, 2) := by decide +kernel
theorem dX0_faceJoint_80 : decode cX0_faceJoint 80 = .ok (.iconst 1, 1) := by decide +kernel
theorem dX0_faceJoint_81 : decode cX0_faceJoint 81 = .ok (.aload_n 1, 1) := by decide +kernel
theorem dX0_faceJoint_82 : decode cX0_faceJoint 82 = .ok (.getfield 50, 3) := by decide +kernel
theorem dX0_faceJoint_85 : decode cX0_faceJoint 85 = .ok (.iload_n 2, 1) := by decide +kernel
theorem dX0_faceJoint_86 : decode cX0_faceJoint 86 = .ok (.iaload, 1) := by decide +kernel
theorem dX0_faceJoint_87 : decode cX0_faceJoint 87 = .ok (.isub, 1) := by decide +kernel
theorem dX0_faceJoint_88 : decode cX0_faceJoint 88 = .ok (.iastore, 1) := by decide +kernel
theorem dX0_faceJoint_89 : decode cX0_faceJoint 89 = .ok (.aload_n 0, 1) := by decide +kernel
theorem dX0_faceJoint_90 : decode cX0_faceJoint 90 = .ok (.getfield 15, 3) := by decide +kernel
theorem dX0_faceJoint_93 : decode cX0_faceJoint 93 = .ok (.bipush 11, 2) := by decide +kernel
theorem dX0_faceJoint_95 : decode cX0_faceJoint 95 = .ok (.aload_n 1, 1) := by decide +kernel
theorem dX0_faceJoint_96 : decode cX0_faceJoint 96 = .ok (.getfield 50, 3) := by decide +kernel
theorem dX0_faceJoint_99 : decode cX0_faceJoint 99 = .ok (.iload_n 2, 1) := by decide +kernel
theorem dX0_faceJoint_100 : decode cX0_faceJoint 100 = .ok (.iaload, 1) := by decide +kernel
theorem dX0_faceJoint_101 : decode cX0_faceJoint 101 = .ok (.iastore, 1) := by decide +kernel
theorem dX0_faceJoint_102 : decode cX0_faceJoint 102 = .ok (.aload_n 0, 1) := by decide +kernel
theorem dX0_faceJoint_103 : decode cX0_faceJoint 103 = .ok (.getfield 15, 3) := by decide +kernel
theorem dX0_faceJoint_106 : decode cX0_faceJoint 106 = .ok (.bipush 12, 2) := by decide +kernel
theorem dX0_faceJoint_108 : decode cX0_faceJoint 108 = .ok (.aload_n 1, 1) := by decide +kernel
theorem dX0_faceJoint_109 : decode cX0_faceJoint 109 = .ok (.getfield 50, 3) := by decide +kernel
theorem dX0_faceJoint_112 : decode cX0_faceJoint 112 = .ok (.iload_n 2, 1) := by decide +kernel
theorem dX0_faceJoint_113 : decode cX0_faceJoint 113 = .ok (.iaload, 1) := by decide +kernel
theorem dX0_faceJoint_114 : decode cX0_faceJoint 114 = .ok (.iconst 1, 1) := by decide +kernel
theorem dX0_faceJoint_115 : decode cX0_faceJoint 115 = .ok (.if_icmp .ne 16, 3) := by decide +kernel
theorem dX0_faceJoint_118 : decode cX0_faceJoint 118 = .ok (.aload_n 1, 1) := by decide +kernel
theorem dX0_faceJoint_119 : decode cX0_faceJoint 119 = .ok (.getfield 53, 3) := by decide +kernel
theorem dX0_faceJoint_122 : decode cX0_faceJoint 122 = .ok (.iload_n 2, 1) := by decide +kernel
theorem dX0_faceJoint_123 : decode cX0_faceJoint 123 = .ok (.iaload, 1) := by decide +kernel
theorem dX0_faceJoint_124 : decode cX0_faceJoint 124 = .ok (.ifCond .le 7, 3) := by decide +kernel
theorem dX0_faceJoint_127 : decode cX0_faceJoint 127 = .ok (.iconst 1, 1) := by decide +kernel
theorem dX0_faceJoint_128 : decode cX0_faceJoint 128 = .ok (.goto 4, 3) := by decide +kernel
theorem dX0_faceJoint_131 : decode cX0_faceJoint 131 = .ok (.iconst 0, 1) := by decide +kernel
theorem dX0_faceJoint_132 : decode cX0_faceJoint 132 = .ok (.iastore, 1) := by decide +kernel
theorem dX0_faceJoint_133 : decode cX0_faceJoint 133 = .ok (.return_, 1) := by decide +kernel
theorem dX0_faceWind_0 : decode cX0_faceWind 0 = .ok (.aload_n 0, 1) := by decide +kernel
theorem dX0_faceWind_1 : decode cX0_faceWind 1 = .ok (.getfield 15, 3) := by decide +kernel
theorem dX0_faceWind_4 : decode cX0_faceWind 4 = .ok (.iconst 0, 1) := by decide +kernel
theorem dX0_faceWind_5 : decode cX0_faceWind 5 = .ok (.iload_n 1, 1) := by decide +kernel
theorem dX0_faceWind_6 : decode cX0_faceWind 6 = .ok (.iastore, 1) := by decide +kernel
theorem dX0_faceWind_7 : decode cX0_faceWind 7 = .ok (.aload_n 0, 1) := by decide +kernel
theorem dX0_faceWind_8 : decode cX0_faceWind 8 = .ok (.getfield 15, 3) := by decide +kernel
theorem dX0_faceWind_11 : decode cX0_faceWind 11 = .ok (.bipush 13, 2) := by decide +kernel
theorem dX0_faceWind_13 : decode cX0_faceWind 13 = .ok (.iload_n 2, 1) := by decide +kernel
theorem dX0_faceWind_14 : decode cX0_faceWind 14 = .ok (.ifCond .eq 7, 3) := by decide +kernel
theorem dX0_faceWind_17 : decode cX0_faceWind 17 = .ok (.iconst 1, 1) := by decide +kernel
theorem dX0_faceWind_18 : decode cX0_faceWind 18 = .ok (.goto 4, 3) := by decide +kernel
theorem dX0_faceWind_21 : decode cX0_faceWind 21 = .ok (.iconst 0, 1) := by decide +kernel
theorem dX0_faceWind_22 : decode cX0_faceWind 22 = .ok (.iastore, 1) := by decide +kernel
theorem dX0_faceWind_23 : decode cX0_faceWind 23 = .ok (.return_, 1) := by decide +kernel
theorem dX0_faceTower_0 : decode cX0_faceTower 0 = .ok (.aload_n 0, 1) := by decide +kernel
theorem dX0_faceTower_1 : decode cX0_faceTower 1 = .ok (.getfield 15, 3) := by decide +kernel
theorem dX0_faceTower_4 : decode cX0_faceTower 4 = .ok (.iconst 0, 1) := by decide +kernel
theorem dX0_faceTower_5 : decode cX0_faceTower 5 = .ok (.invokestatic 27, 3) := by decide +kernel
theorem dX0_faceTower_8 : decode cX0_faceTower 8 = .ok (.aload_n 0, 1) := by decide +kernel
theorem dX0_faceTower_9 : decode cX0_faceTower 9 = .ok (.getfield 15, 3) := by decide +kernel
theorem dX0_faceTower_12 : decode cX0_faceTower 12 = .ok (.bipush 7, 2) := by decide +kernel
theorem dX0_faceTower_14 : decode cX0_faceTower 14 = .ok (.aload_n 1, 1) := by decide +kernel
theorem dX0_faceTower_15 : decode cX0_faceTower 15 = .ok (.getfield 56, 3) := by decide +kernel
theorem dX0_faceTower_18 : decode cX0_faceTower 18 = .ok (.iload_n 2, 1) := by decide +kernel
theorem dX0_faceTower_19 : decode cX0_faceTower 19 = .ok (.iconst 0, 1) := by decide +kernel
theorem dX0_faceTower_20 : decode cX0_faceTower 20 = .ok (.invokevirtual 60, 3) := by decide +kernel
theorem dX0_faceTower_23 : decode cX0_faceTower 23 = .ok (.iastore, 1) := by decide +kernel
theorem dX0_faceTower_24 : decode cX0_faceTower 24 = .ok (.aload_n 0, 1) := by decide +kernel
theorem dX0_faceTower_25 : decode cX0_faceTower 25 = .ok (.getfield 15, 3) := by decide +kernel
theorem dX0_faceTower_28 : decode cX0_faceTower 28 = .ok (.bipush 8, 2) := by decide +kernel
theorem dX0_faceTower_30 : decode cX0_faceTower 30 = .ok (.aload_n 1, 1) := by decide +kernel
theorem dX0_faceTower_31 : decode cX0_faceTower 31 = .ok (.getfield 56, 3) := by decide +kernel
theorem dX0_faceTower_34 : decode cX0_faceTower 34 = .ok (.iload_n 2, 1) := by decide +kernel
theorem dX0_faceTower_35 : decode cX0_faceTower 35 = .ok (.iconst 1, 1) := by decide +kernel
theorem dX0_faceTower_36 : decode cX0_faceTower 36 = .ok (.invokevirtual 60, 3) := by decide +kernel
theorem dX0_faceTower_39 : decode cX0_faceTower 39 = .ok (.iastore, 1) := by decide +kernel
theorem dX0_faceTower_40 : decode cX0_faceTower 40 = .ok (.aload_n 0, 1) := by decide +kernel
theorem dX0_faceTower_41 : decode cX0_faceTower 41 = .ok (.getfield 15, 3) := by decide +kernel
theorem dX0_faceTower_44 : decode cX0_faceTower 44 = .ok (.bipush 9, 2) := by decide +kernel
theorem dX0_faceTower_46 : decode cX0_faceTower 46 = .ok (.aload_n 1, 1) := by decide +kernel
theorem dX0_faceTower_47 : decode cX0_faceTower 47 = .ok (.getfield 56, 3) := by decide +kernel
theorem dX0_faceTower_50 : decode cX0_faceTower 50 = .ok (.iload_n 2, 1) := by decide +kernel
theorem dX0_faceTower_51 : decode cX0_faceTower 51 = .ok (.iconst 2, 1) := by decide +kernel
theorem dX0_faceTower_52 : decode cX0_faceTower 52 = .ok (.invokevirtual 60, 3) := by decide +kernel
theorem dX0_faceTower_55 : decode cX0_faceTower 55 = .ok (.iastore, 1) := by decide +kernel
theorem dX0_faceTower_56 : decode cX0_faceTower 56 = .ok (.aload_n 0, 1) := by decide +kernel
theorem dX0_faceTower_57 : decode cX0_faceTower 57 = .ok (.getfield 15, 3) := by decide +kernel
theorem dX0_faceTower_60 : decode cX0_faceTower 60 = .ok (.bipush 6, 2) := by decide +kernel
theorem dX0_faceTower_62 : decode cX0_faceTower 62 = .ok (.aload_n 1, 1) := by decide +kernel
theorem dX0_faceTower_63 : decode cX0_faceTower 63 = .ok (.getfield 56, 3) := by decide +kernel
theorem dX0_faceTower_66 : decode cX0_faceTower 66 = .ok (.iload_n 2, 1) := by decide +kernel
theorem dX0_faceTower_67 : decode cX0_faceTower 67 = .ok (.iconst 3, 1) := by decide +kernel
theorem dX0_faceTower_68 : decode cX0_faceTower 68 = .ok (.invokevirtual 60, 3) := by decide +kernel
theorem dX0_faceTower_71 : decode cX0_faceTower 71 = .ok (.iastore, 1) := by decide +kernel
theorem dX0_faceTower_72 : decode cX0_faceTower 72 = .ok (.aload_n 0, 1) := by decide +kernel
theorem dX0_faceTower_73 : decode cX0_faceTower 73 = .ok (.getfield 15, 3) := by decide +kernel
theorem dX0_faceTower_76 : decode cX0_faceTower 76 = .ok (.bipush 11, 2) := by decide +kernel
theorem dX0_faceTower_78 : decode cX0_faceTower 78 = .ok (.aload_n 1, 1) := by decide +kernel
theorem dX0_faceTower_79 : decode cX0_faceTower 79 = .ok (.getfield 56, 3) := by decide +kernel
theorem dX0_faceTower_82 : decode cX0_faceTower 82 = .ok (.iload_n 2, 1) := by decide +kernel
theorem dX0_faceTower_83 : decode cX0_faceTower 83 = .ok (.iconst 4, 1) := by decide +kernel
theorem dX0_faceTower_84 : decode cX0_faceTower 84 = .ok (.invokevirtual 60, 3) := by decide +kernel
theorem dX0_faceTower_87 : decode cX0_faceTower 87 = .ok (.iastore, 1) := by decide +kernel
theorem dX0_faceTower_88 : decode cX0_faceTower 88 = .ok (.return_, 1) := by decide +kernel
theorem dX0_tells_0 : decode cX0_tells 0 = .ok (.iconst 4, 1) := by decide +kernel
theorem dX0_tells_1 : decode cX0_tells 1 = .ok (.istore_n 3, 1) := by decide +kernel
theorem dX0_tells_2 : decode cX0_tells 2 = .ok (.aload_n 1, 1) := by decide +kernel
theorem dX0_tells_3 : decode cX0_tells 3 = .ok (.getfield 68, 3) := by decide +kernel
theorem dX0_tells_6 : decode cX0_tells 6 = .ok (.arraylength, 1) := by decide +kernel
theorem dX0_tells_7 : decode cX0_tells 7 = .ok (.iload_n 3, 1) := by decide +kernel
theorem dX0_tells_8 : decode cX0_tells 8 = .ok (.isub, 1) := by decide +kernel
theorem dX0_tells_9 : decode cX0_tells 9 = .ok (.istore 4, 2) := by decide +kernel
theorem dX0_tells_11 : decode cX0_tells 11 = .ok (.iload 4, 2) := by decide +kernel
theorem dX0_tells_13 : decode cX0_tells 13 = .ok (.ifCond .lt 37, 3) := by decide +kernel
theorem dX0_tells_16 : decode cX0_tells 16 = .ok (.aload_n 1, 1) := by decide +kernel
theorem dX0_tells_17 : decode cX0_tells 17 = .ok (.getfield 68, 3) := by decide +kernel
theorem dX0_tells_20 : decode cX0_tells 20 = .ok (.iload 4, 2) := by decide +kernel
theorem dX0_tells_22 : decode cX0_tells 22 = .ok (.iconst 0, 1) := by decide +kernel
theorem dX0_tells_23 : decode cX0_tells 23 = .ok (.iadd, 1) := by decide +kernel
theorem dX0_tells_24 : decode cX0_tells 24 = .ok (.iaload, 1) := by decide +kernel
theorem dX0_tells_25 : decode cX0_tells 25 = .ok (.iload_n 2, 1) := by decide +kernel
theorem dX0_tells_26 : decode cX0_tells 26 = .ok (.if_icmp .ne 15, 3) := by decide +kernel
theorem dX0_tells_29 : decode cX0_tells 29 = .ok (.aload_n 0, 1) := by decide +kernel
theorem dX0_tells_30 : decode cX0_tells 30 = .ok (.aload_n 1, 1) := by decide +kernel
theorem dX0_tells_31 : decode cX0_tells 31 = .ok (.iload 4, 2) := by decide +kernel
theorem dX0_tells_33 : decode cX0_tells 33 = .ok (.invokevirtual 71, 3) := by decide +kernel
theorem dX0_tells_36 : decode cX0_tells 36 = .ok (.ifCond .eq 5, 3) := by decide +kernel
theorem dX0_tells_39 : decode cX0_tells 39 = .ok (.iconst 1, 1) := by decide +kernel
theorem dX0_tells_40 : decode cX0_tells 40 = .ok (.ireturn, 1) := by decide +kernel
theorem dX0_tells_41 : decode cX0_tells 41 = .ok (.iload 4, 2) := by decide +kernel
theorem dX0_tells_43 : decode cX0_tells 43 = .ok (.iload_n 3, 1) := by decide +kernel
theorem dX0_tells_44 : decode cX0_tells 44 = .ok (.isub, 1) := by decide +kernel
theorem dX0_tells_45 : decode cX0_tells 45 = .ok (.istore 4, 2) := by decide +kernel
theorem dX0_tells_47 : decode cX0_tells 47 = .ok (.goto (-36), 3) := by decide +kernel
theorem dX0_tells_50 : decode cX0_tells 50 = .ok (.iconst 0, 1) := by decide +kernel
theorem dX0_tells_51 : decode cX0_tells 51 = .ok (.ireturn, 1) := by decide +kernel
theorem dX0_isHolding_0 : decode cX0_isHolding 0 = .ok (.aload_n 1, 1) := by decide +kernel
theorem dX0_isHolding_1 : decode cX0_isHolding 1 = .ok (.getfield 68, 3) := by decide +kernel
theorem dX0_isHolding_4 : decode cX0_isHolding 4 = .ok (.iload_n 2, 1) := by decide +kernel
theorem dX0_isHolding_5 : decode cX0_isHolding 5 = .ok (.iconst 1, 1) := by decide +kernel
theorem dX0_isHolding_6 : decode cX0_isHolding 6 = .ok (.iadd, 1) := by decide +kernel
theorem dX0_isHolding_7 : decode cX0_isHolding 7 = .ok (.iaload, 1) := by decide +kernel
theorem dX0_isHolding_8 : decode cX0_isHolding 8 = .ok (.istore_n 3, 1) := by decide +kernel
theorem dX0_isHolding_9 : decode cX0_isHolding 9 = .ok (.aload_n 1, 1) := by decide +kernel
theorem dX0_isHolding_10 : decode cX0_isHolding 10 = .ok (.getfield 68, 3) := by decide +kernel
theorem dX0_isHolding_13 : decode cX0_isHolding 13 = .ok (.iload_n 2, 1) := by decide +kernel
theorem dX0_isHolding_14 : decode cX0_isHolding 14 = .ok (.iconst 2, 1) := by decide +kernel
theorem dX0_isHolding_15 : decode cX0_isHolding 15 = .ok (.iadd, 1) := by decide +kernel
theorem dX0_isHolding_16 : decode cX0_isHolding 16 = .ok (.iaload, 1) := by decide +kernel
theorem dX0_isHolding_17 : decode cX0_isHolding 17 = .ok (.istore 4, 2) := by decide +kernel
theorem dX0_isHolding_19 : decode cX0_isHolding 19 = .ok (.aload_n 1, 1) := by decide +kernel
theorem dX0_isHolding_20 : decode cX0_isHolding 20 = .ok (.getfield 68, 3) := by decide +kernel
theorem dX0_isHolding_23 : decode cX0_isHolding 23 = .ok (.iload_n 2, 1) := by decide +kernel
theorem dX0_isHolding_24 : decode cX0_isHolding 24 = .ok (.iconst 3, 1) := by decide +kernel
theorem dX0_isHolding_25 : decode cX0_isHolding 25 = .ok (.iadd, 1) := by decide +kernel
theorem dX0_isHolding_26 : decode cX0_isHolding 26 = .ok (.iaload, 1) := by decide +kernel
theorem dX0_isHolding_27 : decode cX0_isHolding 27 = .ok (.istore 5, 2) := by decide +kernel
theorem dX0_isHolding_29 : decode cX0_isHolding 29 = .ok (.iload 4, 2) := by decide +kernel
theorem dX0_isHolding_31 : decode cX0_isHolding 31 = .ok (.iload 5, 2) := by decide +kernel
theorem dX0_isHolding_33 : decode cX0_isHolding 33 = .ok (.if_icmp .eq 29, 3) := by decide +kernel
theorem dX0_isHolding_36 : decode cX0_isHolding 36 = .ok (.aload_n 0, 1) := by decide +kernel
theorem dX0_isHolding_37 : decode cX0_isHolding 37 = .ok (.aload_n 1, 1) := by decide +kernel
theorem dX0_isHolding_38 : decode cX0_isHolding 38 = .ok (.getfield 75, 3) := by decide +kernel
theorem dX0_isHolding_41 : decode cX0_isHolding 41 = .ok (.iload 4, 2) := by decide +kernel
theorem dX0_isHolding_43 : decode cX0_isHolding 43 = .ok (.iload 5, 2) := by decide +kernel
theorem dX0_isHolding_45 : decode cX0_isHolding 45 = .ok (.invokevirtual 78, 3) := by decide +kernel
theorem dX0_isHolding_48 : decode cX0_isHolding 48 = .ok (.ifCond .eq 18, 3) := by decide +kernel
theorem dX0_isHolding_51 : decode cX0_isHolding 51 = .ok (.aload_n 0, 1) := by decide +kernel
theorem dX0_isHolding_52 : decode cX0_isHolding 52 = .ok (.getfield 19, 3) := by decide +kernel
theorem dX0_isHolding_55 : decode cX0_isHolding 55 = .ok (.iconst 0, 1) := by decide +kernel
theorem dX0_isHolding_56 : decode cX0_isHolding 56 = .ok (.laload, 1) := by decide +kernel
theorem dX0_isHolding_57 : decode cX0_isHolding 57 = .ok (.lconst 0, 1) := by decide +kernel
theorem dX0_isHolding_58 : decode cX0_isHolding 58 = .ok (.lcmp, 1) := by decide +kernel
theorem dX0_isHolding_59 : decode cX0_isHolding 59 = .ok (.ifCond .eq 7, 3) := by decide +kernel
theorem dX0_isHolding_62 : decode cX0_isHolding 62 = .ok (.iconst 1, 1) := by decide +kernel
theorem dX0_isHolding_63 : decode cX0_isHolding 63 = .ok (.goto 4, 3) := by decide +kernel
theorem dX0_isHolding_66 : decode cX0_isHolding 66 = .ok (.iconst 0, 1) := by decide +kernel
theorem dX0_isHolding_67 : decode cX0_isHolding 67 = .ok (.istore 6, 2) := by decide +kernel
theorem dX0_isHolding_69 : decode cX0_isHolding 69 = .ok (.iload 6, 2) := by decide +kernel
theorem dX0_isHolding_71 : decode cX0_isHolding 71 = .ok (.ifCond .eq 17, 3) := by decide +kernel
theorem dX0_isHolding_74 : decode cX0_isHolding 74 = .ok (.aload_n 0, 1) := by decide +kernel
theorem dX0_isHolding_75 : decode cX0_isHolding 75 = .ok (.aload_n 1, 1) := by decide +kernel
theorem dX0_isHolding_76 : decode cX0_isHolding 76 = .ok (.getfield 75, 3) := by decide +kernel
theorem dX0_isHolding_79 : decode cX0_isHolding 79 = .ok (.iload_n 3, 1) := by decide +kernel
theorem dX0_isHolding_80 : decode cX0_isHolding 80 = .ok (.iload 4, 2) := by decide +kernel
theorem dX0_isHolding_82 : decode cX0_isHolding 82 = .ok (.invokevirtual 78, 3) := by decide +kernel
theorem dX0_isHolding_85 : decode cX0_isHolding 85 = .ok (.ifCond .ne 5, 3) := by decide +kernel
theorem dX0_isHolding_88 : decode cX0_isHolding 88 = .ok (.iconst 0, 1) := by decide +kernel
theorem dX0_isHolding_89 : decode cX0_isHolding 89 = .ok (.ireturn, 1) := by decide +kernel
theorem dX0_isHolding_90 : decode cX0_isHolding 90 = .ok (.aload_n 0, 1) := by decide +kernel
theorem dX0_isHolding_91 : decode cX0_isHolding 91 = .ok (.iload_n 3, 1) := by decide +kernel
theorem dX0_isHolding_92 : decode cX0_isHolding 92 = .ok (.iload 4, 2) := by decide +kernel
theorem dX0_isHolding_94 : decode cX0_isHolding 94 = .ok (.if_icmp .ne 7, 3) := by decide +kernel
theorem dX0_isHolding_97 : decode cX0_isHolding 97 = .ok (.lconst 0, 1) := by decide +kernel
theorem dX0_isHolding_98 : decode cX0_isHolding 98 = .ok (.goto 9, 3) := by decide +kernel
theorem dX0_isHolding_101 : decode cX0_isHolding 101 = .ok (.aload_n 0, 1) := by decide +kernel
theorem dX0_isHolding_102 : decode cX0_isHolding 102 = .ok (.getfield 19, 3) := by decide +kernel
theorem dX0_isHolding_105 : decode cX0_isHolding 105 = .ok (.iconst 0, 1) := by decide +kernel
theorem dX0_isHolding_106 : decode cX0_isHolding 106 = .ok (.laload, 1) := by decide +kernel
theorem dX0_isHolding_107 : decode cX0_isHolding 107 = .ok (.putfield 9, 3) := by decide +kernel
theorem dX0_isHolding_110 : decode cX0_isHolding 110 = .ok (.iconst 1, 1) := by decide +kernel
theorem dX0_isHolding_111 : decode cX0_isHolding 111 = .ok (.ireturn, 1) := by decide +kernel
theorem dX0_works_0 : decode cX0_works 0 = .ok (.aload_n 0, 1) := by decide +kernel
theorem dX0_works_1 : decode cX0_works 1 = .ok (.iconst 0, 1) := by decide +kernel
theorem dX0_works_2 : decode cX0_works 2 = .ok (.putfield 23, 3) := by decide +kernel
theorem dX0_works_5 : decode cX0_works 5 = .ok (.iload_n 3, 1) := by decide +kernel
theorem dX0_works_6 : decode cX0_works 6 = .ok (.aload_n 1, 1) := by decide +kernel
theorem dX0_works_7 : decode cX0_works 7 = .ok (.arraylength, 1) := by decide +kernel
theorem dX0_works_8 : decode cX0_works 8 = .ok (.invokestatic 82, 3) := by decide +kernel
theorem dX0_works_11 : decode cX0_works 11 = .ok (.istore 4, 2) := by decide +kernel
theorem dX0_works_13 : decode cX0_works 13 = .ok (.iload_n 2, 1) := by decide +kernel
theorem dX0_works_14 : decode cX0_works 14 = .ok (.iconst 0, 1) := by decide +kernel
theorem dX0_works_15 : decode cX0_works 15 = .ok (.invokestatic 87, 3) := by decide +kernel
theorem dX0_works_18 : decode cX0_works 18 = .ok (.istore 5, 2) := by decide +kernel
theorem dX0_works_20 : decode cX0_works 20 = .ok (.iload 5, 2) := by decide +kernel
theorem dX0_works_22 : decode cX0_works 22 = .ok (.iconst 1, 1) := by decide +kernel
theorem dX0_works_23 : decode cX0_works 23 = .ok (.iadd, 1) := by decide +kernel
theorem dX0_works_24 : decode cX0_works 24 = .ok (.iload 4, 2) := by decide +kernel
theorem dX0_works_26 : decode cX0_works 26 = .ok (.if_icmp .ge 150, 3) := by decide +kernel
theorem dX0_works_29 : decode cX0_works 29 = .ok (.aload_n 1, 1) := by decide +kernel
theorem dX0_works_30 : decode cX0_works 30 = .ok (.iload 5, 2) := by decide +kernel
theorem dX0_works_32 : decode cX0_works 32 = .ok (.iaload, 1) := by decide +kernel
theorem dX0_works_33 : decode cX0_works 33 = .ok (.istore 6, 2) := by decide +kernel
theorem dX0_works_35 : decode cX0_works 35 = .ok (.aload_n 1, 1) := by decide +kernel
theorem dX0_works_36 : decode cX0_works 36 = .ok (.iload 5, 2) := by decide +kernel
theorem dX0_works_38 : decode cX0_works 38 = .ok (.iconst 1, 1) := by decide +kernel
theorem dX0_works_39 : decode cX0_works 39 = .ok (.iadd, 1) := by decide +kernel
theorem dX0_works_40 : decode cX0_works 40 = .ok (.iaload, 1) := by decide +kernel
theorem dX0_works_41 : decode cX0_works 41 = .ok (.istore 7, 2) := by decide +kernel
theorem dX0_works_43 : decode cX0_works 43 = .ok (.iload 6, 2) := by decide +kernel
theorem dX0_works_45 : decode cX0_works 45 = .ok (.ifCond .ne 13, 3) := by decide +kernel
theorem dX0_works_48 : decode cX0_works 48 = .ok (.aload_n 0, 1) := by decide +kernel
theorem dX0_works_49 : decode cX0_works 49 = .ok (.iload 7, 2) := by decide +kernel
theorem dX0_works_51 : decode cX0_works 51 = .ok (.i2l, 1) := by decide +kernel
theorem dX0_works_52 : decode cX0_works 52 = .ok (.invokevirtual 90, 3) := by decide +kernel
theorem dX0_works_55 : decode cX0_works 55 = .ok (.goto 115, 3) := by decide +kernel
theorem dX0_works_58 : decode cX0_works 58 = .ok (.iload 6, 2) := by decide +kernel
theorem dX0_works_60 : decode cX0_works 60 = .ok (.iconst 1, 1) := by decide +kernel
theorem dX0_works_61 : decode cX0_works 61 = .ok (.if_icmp .ne 17, 3) := by decide +kernel
theorem dX0_works_64 : decode cX0_works 64 = .ok (.aload_n 0, 1) := by decide +kernel
theorem dX0_works_65 : decode cX0_works 65 = .ok (.aload_n 0, 1) := by decide +kernel
theorem dX0_works_66 : decode cX0_works 66 = .ok (.iload 7, 2) := by decide +kernel
theorem dX0_works_68 : decode cX0_works 68 = .ok (.invokevirtual 94, 3) := by decide +kernel
theorem dX0_works_71 : decode cX0_works 71 = .ok (.i2l, 1) := by decide +kernel
theorem dX0_works_72 : decode cX0_works 72 = .ok (.invokevirtual 90, 3) := by decide +kernel
theorem dX0_works_75 : decode cX0_works 75 = .ok (.goto 95, 3) := by decide +kernel
theorem dX0_works_78 : decode cX0_works 78 = .ok (.iload 6, 2) := by decide +kernel
theorem dX0_works_80 : decode cX0_works 80 = .ok (.iconst 2, 1) := by decide +kernel
theorem dX0_works_81 : decode cX0_works 81 = .ok (.if_icmp .ne 16, 3) := by decide +kernel
theorem dX0_works_84 : decode cX0_works 84 = .ok (.aload_n 0, 1) := by decide +kernel
theorem dX0_works_85 : decode cX0_works 85 = .ok (.lconst 1, 1) := by decide +kernel
theorem dX0_works_86 : decode cX0_works 86 = .ok (.aload_n 0, 1) := by decide +kernel
theorem dX0_works_87 : decode cX0_works 87 = .ok (.invokevirtual 97, 3) := by decide +kernel
theorem dX0_works_90 : decode cX0_works 90 = .ok (.lsub, 1) := by decide +kernel
theorem dX0_works_91 : decode cX0_works 91 = .ok (.invokevirtual 90, 3) := by decide +kernel
theorem dX0_works_94 : decode cX0_works 94 = .ok (.goto 76, 3) := by decide +kernel
theorem dX0_works_97 : decode cX0_works 97 = .ok (.iload 6, 2) := by decide +kernel
theorem dX0_works_99 : decode cX0_works 99 = .ok (.sipush 261, 3) := by decide +kernel
theorem dX0_works_102 : decode cX0_works 102 = .ok (.if_icmp .eq 11, 3) := by decide +kernel
theorem dX0_works_105 : decode cX0_works 105 = .ok (.iload 6, 2) := by decide +kernel
theorem dX0_works_107 : decode cX0_works 107 = .ok (.sipush 260, 3) := by decide +kernel
theorem dX0_works_110 : decode cX0_works 110 = .ok (.if_icmp .ne 49, 3) := by decide +kernel
theorem dX0_works_113 : decode cX0_works 113 = .ok (.aload_n 0, 1) := by decide +kernel
theorem dX0_works_114 : decode cX0_works 114 = .ok (.invokevirtual 97, 3) := by decide +kernel
theorem dX0_works_117 : decode cX0_works 117 = .ok (.lstore 8, 2) := by decide +kernel
theorem dX0_works_119 : decode cX0_works 119 = .ok (.lload 8, 2) := by decide +kernel
theorem dX0_works_121 : decode cX0_works 121 = .ok (.iload 6, 2) := by decide +kernel
theorem dX0_works_123 : decode cX0_works 123 = .ok (.sipush 260, 3) := by decide +kernel
theorem dX0_works_126 : decode cX0_works 126 = .ok (.if_icmp .ne 7, 3) := by decide +kernel
theorem dX0_works_129 : decode cX0_works 129 = .ok (.iconst 1, 1) := by decide +kernel
theorem dX0_works_130 : decode cX0_works 130 = .ok (.goto 4, 3) := by decide +kernel
theorem dX0_works_133 : decode cX0_works 133 = .ok (.iconst 0, 1) := by decide +kernel
theorem dX0_works_134 : decode cX0_works 134 = .ok (.i2l, 1) := by decide +kernel
theorem dX0_works_135 : decode cX0_works 135 = .ok (.lcmp, 1) := by decide +kernel
theorem dX0_works_136 : decode cX0_works 136 = .ok (.ifCond .ne 20, 3) := by decide +kernel
theorem dX0_works_139 : decode cX0_works 139 = .ok (.aload_n 0, 1) := by decide +kernel
theorem dX0_works_140 : decode cX0_works 140 = .ok (.lload 8, 2) := by decide +kernel
theorem dX0_works_142 : decode cX0_works 142 = .ok (.invokevirtual 90, 3) := by decide +kernel
theorem dX0_works_145 : decode cX0_works 145 = .ok (.iload 5, 2) := by decide +kernel
theorem dX0_works_147 : decode cX0_works 147 = .ok (.iload 7, 2) := by decide +kernel
theorem dX0_works_149 : decode cX0_works 149 = .ok (.iconst 2, 1) := by decide +kernel
theorem dX0_works_150 : decode cX0_works 150 = .ok (.isub, 1) := by decide +kernel
theorem dX0_works_151 : decode cX0_works 151 = .ok (.invokestatic 87, 3) := by decide +kernel
theorem dX0_works_154 : decode cX0_works 154 = .ok (.istore 5, 2) := by decide +kernel
theorem dX0_works_156 : decode cX0_works 156 = .ok (.goto 14, 3) := by decide +kernel
theorem dX0_works_159 : decode cX0_works 159 = .ok (.aload_n 0, 1) := by decide +kernel
theorem dX0_works_160 : decode cX0_works 160 = .ok (.iload 6, 2) := by decide +kernel
theorem dX0_works_162 : decode cX0_works 162 = .ok (.invokevirtual 103, 3) := by decide +kernel
theorem dX0_works_165 : decode cX0_works 165 = .ok (.ifCond .ne 5, 3) := by decide +kernel
theorem dX0_works_168 : decode cX0_works 168 = .ok (.iconst 0, 1) := by decide +kernel
theorem dX0_works_169 : decode cX0_works 169 = .ok (.ireturn, 1) := by decide +kernel
theorem dX0_works_170 : decode cX0_works 170 = .ok (.iinc 5 2, 3) := by decide +kernel
theorem dX0_works_173 : decode cX0_works 173 = .ok (.goto (-153), 3) := by decide +kernel
theorem dX0_works_176 : decode cX0_works 176 = .ok (.iconst 1, 1) := by decide +kernel
theorem dX0_works_177 : decode cX0_works 177 = .ok (.ireturn, 1) := by decide +kernel
theorem dX0_valueOf_0 : decode cX0_valueOf 0 = .ok (.iload_n 1, 1) := by decide +kernel
theorem dX0_valueOf_1 : decode cX0_valueOf 1 = .ok (.sipush 263, 3) := by decide +kernel
theorem dX0_valueOf_4 : decode cX0_valueOf 4 = .ok (.isub, 1) := by decide +kernel
theorem dX0_valueOf_5 : decode cX0_valueOf 5 = .ok (.istore_n 2, 1) := by decide +kernel
theorem dX0_valueOf_6 : decode cX0_valueOf 6 = .ok (.iload_n 2, 1) := by decide +kernel
theorem dX0_valueOf_7 : decode cX0_valueOf 7 = .ok (.ifCond .lt 18, 3) := by decide +kernel
theorem dX0_valueOf_10 : decode cX0_valueOf 10 = .ok (.iload_n 2, 1) := by decide +kernel
theorem dX0_valueOf_11 : decode cX0_valueOf 11 = .ok (.bipush 14, 2) := by decide +kernel
theorem dX0_valueOf_13 : decode cX0_valueOf 13 = .ok (.if_icmp .ge 12, 3) := by decide +kernel
theorem dX0_valueOf_16 : decode cX0_valueOf 16 = .ok (.aload_n 0, 1) := by decide +kernel
theorem dX0_valueOf_17 : decode cX0_valueOf 17 = .ok (.getfield 15, 3) := by decide +kernel
theorem dX0_valueOf_20 : decode cX0_valueOf 20 = .ok (.iload_n 2, 1) := by decide +kernel
theorem dX0_valueOf_21 : decode cX0_valueOf 21 = .ok (.iaload, 1) := by decide +kernel
theorem dX0_valueOf_22 : decode cX0_valueOf 22 = .ok (.goto 4, 3) := by decide +kernel
theorem dX0_valueOf_25 : decode cX0_valueOf 25 = .ok (.iconst 0, 1) := by decide +kernel
theorem dX0_valueOf_26 : decode cX0_valueOf 26 = .ok (.ireturn, 1) := by decide +kernel
theorem dX0_push_0 : decode cX0_push 0 = .ok (.aload_n 0, 1) := by decide +kernel
theorem dX0_push_1 : decode cX0_push 1 = .ok (.getfield 23, 3) := by decide +kernel
theorem dX0_push_4 : decode cX0_push 4 = .ok (.bipush 64, 2) := by decide +kernel
theorem dX0_push_6 : decode cX0_push 6 = .ok (.if_icmp .ge 23, 3) := by decide +kernel
theorem dX0_push_9 : decode cX0_push 9 = .ok (.aload_n 0, 1) := by decide +kernel
theorem dX0_push_10 : decode cX0_push 10 = .ok (.getfield 19, 3) := by decide +kernel
theorem dX0_push_13 : decode cX0_push 13 = .ok (.aload_n 0, 1) := by decide +kernel
theorem dX0_push_14 : decode cX0_push 14 = .ok (.getfield 23, 3) := by decide +kernel
theorem dX0_push_17 : decode cX0_push 17 = .ok (.lload_n 1, 1) := by decide +kernel
theorem dX0_push_18 : decode cX0_push 18 = .ok (.lastore, 1) := by decide +kernel
theorem dX0_push_19 : decode cX0_push 19 = .ok (.aload_n 0, 1) := by decide +kernel
theorem dX0_push_20 : decode cX0_push 20 = .ok (.dup, 1) := by decide +kernel
theorem dX0_push_21 : decode cX0_push 21 = .ok (.getfield 23, 3) := by decide +kernel
theorem dX0_push_24 : decode cX0_push 24 = .ok (.iconst 1, 1) := by decide +kernel
theorem dX0_push_25 : decode cX0_push 25 = .ok (.iadd, 1) := by decide +kernel
theorem dX0_push_26 : decode cX0_push 26 = .ok (.putfield 23, 3) := by decide +kernel
theorem dX0_push_29 : decode cX0_push 29 = .ok (.return_, 1) := by decide +kernel
theorem dX0_pop_0 : decode cX0_pop 0 = .ok (.aload_n 0, 1) := by decide +kernel
theorem dX0_pop_1 : decode cX0_pop 1 = .ok (.getfield 23, 3) := by decide +kernel
theorem dX0_pop_4 : decode cX0_pop 4 = .ok (.ifCond .ne 5, 3) := by decide +kernel
theorem dX0_pop_7 : decode cX0_pop 7 = .ok (.lconst 0, 1) := by decide +kernel
theorem dX0_pop_8 : decode cX0_pop 8 = .ok (.lreturn, 1) := by decide +kernel
theorem dX0_pop_9 : decode cX0_pop 9 = .ok (.aload_n 0, 1) := by decide +kernel
theorem dX0_pop_10 : decode cX0_pop 10 = .ok (.dup, 1) := by decide +kernel
theorem dX0_pop_11 : decode cX0_pop 11 = .ok (.getfield 23, 3) := by decide +kernel
theorem dX0_pop_14 : decode cX0_pop 14 = .ok (.iconst 1, 1) := by decide +kernel
theorem dX0_pop_15 : decode cX0_pop 15 = .ok (.isub, 1) := by decide +kernel
theorem dX0_pop_16 : decode cX0_pop 16 = .ok (.putfield 23, 3) := by decide +kernel
theorem dX0_pop_19 : decode cX0_pop 19 = .ok (.aload_n 0, 1) := by decide +kernel
theorem dX0_pop_20 : decode cX0_pop 20 = .ok (.getfield 19, 3) := by decide +kernel
theorem dX0_pop_23 : decode cX0_pop 23 = .ok (.aload_n 0, 1) := by decide +kernel
theorem dX0_pop_24 : decode cX0_pop 24 = .ok (.getfield 23, 3) := by decide +kernel
theorem dX0_pop_27 : decode cX0_pop 27 = .ok (.laload, 1) := by decide +kernel
theorem dX0_pop_28 : decode cX0_pop 28 = .ok (.lreturn, 1) := by decide +kernel
theorem dX0_joins_0 : decode cX0_joins 0 = .ok (.aload_n 0, 1) := by decide +kernel
theorem dX0_joins_1 : decode cX0_joins 1 = .ok (.invokevirtual 97, 3) := by decide +kernel
theorem dX0_joins_4 : decode cX0_joins 4 = .ok (.lstore_n 2, 1) := by decide +kernel
theorem dX0_joins_5 : decode cX0_joins 5 = .ok (.aload_n 0, 1) := by decide +kernel
theorem dX0_joins_6 : decode cX0_joins 6 = .ok (.invokevirtual 97, 3) := by decide +kernel
theorem dX0_joins_9 : decode cX0_joins 9 = .ok (.lstore 4, 2) := by decide +kernel
theorem dX0_joins_11 : decode cX0_joins 11 = .ok (.iload_n 1, 1) := by decide +kernel
theorem dX0_joins_12 : decode cX0_joins 12 = .ok (.bipush 47, 2) := by decide +kernel
theorem dX0_joins_14 : decode cX0_joins 14 = .ok (.if_icmp .ne 11, 3) := by decide +kernel
theorem dX0_joins_17 : decode cX0_joins 17 = .ok (.lload_n 2, 1) := by decide +kernel
theorem dX0_joins_18 : decode cX0_joins 18 = .ok (.lconst 0, 1) := by decide +kernel
theorem dX0_joins_19 : decode cX0_joins 19 = .ok (.lcmp, 1) := by decide +kernel
theorem dX0_joins_20 : decode cX0_joins 20 = .ok (.ifCond .ne 5, 3) := by decide +kernel
theorem dX0_joins_23 : decode cX0_joins 23 = .ok (.iconst 0, 1) := by decide +kernel
theorem dX0_joins_24 : decode cX0_joins 24 = .ok (.ireturn, 1) := by decide +kernel
theorem dX0_joins_25 : decode cX0_joins 25 = .ok (.iload_n 1, 1) := by decide +kernel
theorem dX0_joins_26 : decode cX0_joins 26 = .ok (.lookupswitch 138 #[(42, 76), (43, 58), (45, 67), (47, 85), (60, 104), (62, 121)], 58) := by decide +kernel
theorem dX0_joins_84 : decode cX0_joins 84 = .ok (.lload 4, 2) := by decide +kernel
theorem dX0_joins_86 : decode cX0_joins 86 = .ok (.lload_n 2, 1) := by decide +kernel
theorem dX0_joins_87 : decode cX0_joins 87 = .ok (.ladd, 1) := by decide +kernel
theorem dX0_joins_88 : decode cX0_joins 88 = .ok (.lstore 6, 2) := by decide +kernel
theorem dX0_joins_90 : decode cX0_joins 90 = .ok (.goto 88, 3) := by decide +kernel
theorem dX0_joins_93 : decode cX0_joins 93 = .ok (.lload 4, 2) := by decide +kernel
theorem dX0_joins_95 : decode cX0_joins 95 = .ok (.lload_n 2, 1) := by decide +kernel
theorem dX0_joins_96 : decode cX0_joins 96 = .ok (.lsub, 1) := by decide +kernel
theorem dX0_joins_97 : decode cX0_joins 97 = .ok (.lstore 6, 2) := by decide +kernel
theorem dX0_joins_99 : decode cX0_joins 99 = .ok (.goto 79, 3) := by decide +kernel
theorem dX0_joins_102 : decode cX0_joins 102 = .ok (.lload 4, 2) := by decide +kernel
theorem dX0_joins_104 : decode cX0_joins 104 = .ok (.lload_n 2, 1) := by decide +kernel
theorem dX0_joins_105 : decode cX0_joins 105 = .ok (.lmul, 1) := by decide +kernel
theorem dX0_joins_106 : decode cX0_joins 106 = .ok (.lstore 6, 2) := by decide +kernel
theorem dX0_joins_108 : decode cX0_joins 108 = .ok (.goto 70, 3) := by decide +kernel
theorem dX0_joins_111 : decode cX0_joins 111 = .ok (.lload_n 2, 1) := by decide +kernel
theorem dX0_joins_112 : decode cX0_joins 112 = .ok (.lconst 0, 1) := by decide +kernel
theorem dX0_joins_113 : decode cX0_joins 113 = .ok (.lcmp, 1) := by decide +kernel
theorem dX0_joins_114 : decode cX0_joins 114 = .ok (.ifCond .ne 7, 3) := by decide +kernel
theorem dX0_joins_117 : decode cX0_joins 117 = .ok (.lconst 0, 1) := by decide +kernel
theorem dX0_joins_118 : decode cX0_joins 118 = .ok (.goto 7, 3) := by decide +kernel
theorem dX0_joins_121 : decode cX0_joins 121 = .ok (.lload 4, 2) := by decide +kernel
theorem dX0_joins_123 : decode cX0_joins 123 = .ok (.lload_n 2, 1) := by decide +kernel
theorem dX0_joins_124 : decode cX0_joins 124 = .ok (.ldiv, 1) := by decide +kernel
theorem dX0_joins_125 : decode cX0_joins 125 = .ok (.lstore 6, 2) := by decide +kernel
theorem dX0_joins_127 : decode cX0_joins 127 = .ok (.goto 51, 3) := by decide +kernel
theorem dX0_joins_130 : decode cX0_joins 130 = .ok (.lload 4, 2) := by decide +kernel
theorem dX0_joins_132 : decode cX0_joins 132 = .ok (.lload_n 2, 1) := by decide +kernel
theorem dX0_joins_133 : decode cX0_joins 133 = .ok (.lcmp, 1) := by decide +kernel
theorem dX0_joins_134 : decode cX0_joins 134 = .ok (.ifCond .ge 7, 3) := by decide +kernel
theorem dX0_joins_137 : decode cX0_joins 137 = .ok (.lconst 1, 1) := by decide +kernel
theorem dX0_joins_138 : decode cX0_joins 138 = .ok (.goto 4, 3) := by decide +kernel
theorem dX0_joins_141 : decode cX0_joins 141 = .ok (.lconst 0, 1) := by decide +kernel
theorem dX0_joins_142 : decode cX0_joins 142 = .ok (.lstore 6, 2) := by decide +kernel
theorem dX0_joins_144 : decode cX0_joins 144 = .ok (.goto 34, 3) := by decide +kernel
theorem dX0_joins_147 : decode cX0_joins 147 = .ok (.lload 4, 2) := by decide +kernel
theorem dX0_joins_149 : decode cX0_joins 149 = .ok (.lload_n 2, 1) := by decide +kernel
theorem dX0_joins_150 : decode cX0_joins 150 = .ok (.lcmp, 1) := by decide +kernel
theorem dX0_joins_151 : decode cX0_joins 151 = .ok (.ifCond .le 7, 3) := by decide +kernel
theorem dX0_joins_154 : decode cX0_joins 154 = .ok (.lconst 1, 1) := by decide +kernel
theorem dX0_joins_155 : decode cX0_joins 155 = .ok (.goto 4, 3) := by decide +kernel
theorem dX0_joins_158 : decode cX0_joins 158 = .ok (.lconst 0, 1) := by decide +kernel
theorem dX0_joins_159 : decode cX0_joins 159 = .ok (.lstore 6, 2) := by decide +kernel
theorem dX0_joins_161 : decode cX0_joins 161 = .ok (.goto 17, 3) := by decide +kernel
theorem dX0_joins_164 : decode cX0_joins 164 = .ok (.lload 4, 2) := by decide +kernel
theorem dX0_joins_166 : decode cX0_joins 166 = .ok (.lload_n 2, 1) := by decide +kernel
theorem dX0_joins_167 : decode cX0_joins 167 = .ok (.lcmp, 1) := by decide +kernel
theorem dX0_joins_168 : decode cX0_joins 168 = .ok (.ifCond .ne 7, 3) := by decide +kernel
theorem dX0_joins_171 : decode cX0_joins 171 = .ok (.lconst 1, 1) := by decide +kernel
theorem dX0_joins_172 : decode cX0_joins 172 = .ok (.goto 4, 3) := by decide +kernel
theorem dX0_joins_175 : decode cX0_joins 175 = .ok (.lconst 0, 1) := by decide +kernel
theorem dX0_joins_176 : decode cX0_joins 176 = .ok (.lstore 6, 2) := by decide +kernel
theorem dX0_joins_178 : decode cX0_joins 178 = .ok (.aload_n 0, 1) := by decide +kernel
theorem dX0_joins_179 : decode cX0_joins 179 = .ok (.lload 6, 2) := by decide +kernel
theorem dX0_joins_181 : decode cX0_joins 181 = .ok (.invokevirtual 90, 3) := by decide +kernel
theorem dX0_joins_184 : decode cX0_joins 184 = .ok (.lload 6, 2) := by decide +kernel
theorem dX0_joins_186 : decode cX0_joins 186 = .ok (.ldc2_w 107, 3) := by decide +kernel
theorem dX0_joins_189 : decode cX0_joins 189 = .ok (.lcmp, 1) := by decide +kernel
theorem dX0_joins_190 : decode cX0_joins 190 = .ok (.ifCond .gt 16, 3) := by decide +kernel
theorem dX0_joins_193 : decode cX0_joins 193 = .ok (.lload 6, 2) := by decide +kernel
theorem dX0_joins_195 : decode cX0_joins 195 = .ok (.ldc2_w 109, 3) := by decide +kernel
theorem dX0_joins_198 : decode cX0_joins 198 = .ok (.lcmp, 1) := by decide +kernel
theorem dX0_joins_199 : decode cX0_joins 199 = .ok (.ifCond .lt 7, 3) := by decide +kernel
theorem dX0_joins_202 : decode cX0_joins 202 = .ok (.iconst 1, 1) := by decide +kernel
theorem dX0_joins_203 : decode cX0_joins 203 = .ok (.goto 4, 3) := by decide +kernel
theorem dX0_joins_206 : decode cX0_joins 206 = .ok (.iconst 0, 1) := by decide +kernel
theorem dX0_joins_207 : decode cX0_joins 207 = .ok (.ireturn, 1) := by decide +kernel
theorem dX1_init_0 : decode cX1_init 0 = .ok (.aload_n 0, 1) := by decide +kernel
theorem dX1_init_1 : decode cX1_init 1 = .ok (.invokespecial 3, 3) := by decide +kernel
theorem dX1_init_4 : decode cX1_init 4 = .ok (.aload_n 0, 1) := by decide +kernel
theorem dX1_init_5 : decode cX1_init 5 = .ok (.bipush 48, 2) := by decide +kernel
theorem dX1_init_7 : decode cX1_init 7 = .ok (.newarray .int, 2) := by decide +kernel
theorem dX1_init_9 : decode cX1_init 9 = .ok (.putfield 9, 3) := by decide +kernel
theorem dX1_init_12 : decode cX1_init 12 = .ok (.aload_n 0, 1) := by decide +kernel
theorem dX1_init_13 : decode cX1_init 13 = .ok (.bipush 48, 2) := by decide +kernel
theorem dX1_init_15 : decode cX1_init 15 = .ok (.newarray .int, 2) := by decide +kernel
theorem dX1_init_17 : decode cX1_init 17 = .ok (.putfield 15, 3) := by decide +kernel
theorem dX1_init_20 : decode cX1_init 20 = .ok (.aload_n 0, 1) := by decide +kernel
theorem dX1_init_21 : decode cX1_init 21 = .ok (.iconst 0, 1) := by decide +kernel
theorem dX1_init_22 : decode cX1_init 22 = .ok (.putfield 18, 3) := by decide +kernel
theorem dX1_init_25 : decode cX1_init 25 = .ok (.aload_n 0, 1) := by decide +kernel
theorem dX1_init_26 : decode cX1_init 26 = .ok (.iconst (-1), 1) := by decide +kernel
theorem dX1_init_27 : decode cX1_init 27 = .ok (.putfield 22, 3) := by decide +kernel
theorem dX1_init_30 : decode cX1_init 30 = .ok (.aload_n 0, 1) := by decide +kernel
theorem dX1_init_31 : decode cX1_init 31 = .ok (.bipush 6, 2) := by decide +kernel
theorem dX1_init_33 : decode cX1_init 33 = .ok (.newarray .int, 2) := by decide +kernel
theorem dX1_init_35 : decode cX1_init 35 = .ok (.putfield 25, 3) := by decide +kernel
theorem dX1_init_38 : decode cX1_init 38 = .ok (.aload_n 0, 1) := by decide +kernel
theorem dX1_init_39 : decode cX1_init 39 = .ok (.bipush 6, 2) := by decide +kernel
theorem dX1_init_41 : decode cX1_init 41 = .ok (.newarray .int, 2) := by decide +kernel
theorem dX1_init_43 : decode cX1_init 43 = .ok (.putfield 28, 3) := by decide +kernel
theorem dX1_init_46 : decode cX1_init 46 = .ok (.aload_n 0, 1) := by decide +kernel
theorem dX1_init_47 : decode cX1_init 47 = .ok (.iconst 0, 1) := by decide +kernel
theorem dX1_init_48 : decode cX1_init 48 = .ok (.putfield 31, 3) := by decide +kernel
theorem dX1_init_51 : decode cX1_init 51 = .ok (.aload_n 0, 1) := by decide +kernel
theorem dX1_init_52 : decode cX1_init 52 = .ok (.lconst 0, 1) := by decide +kernel
theorem dX1_init_53 : decode cX1_init 53 = .ok (.putfield 34, 3) := by decide +kernel
theorem dX1_init_56 : decode cX1_init 56 = .ok (.aload_n 0, 1) := by decide +kernel
theorem dX1_init_57 : decode cX1_init 57 = .ok (.lconst 0, 1) := by decide +kernel
theorem dX1_init_58 : decode cX1_init 58 = .ok (.putfield 38, 3) := by decide +kernel
theorem dX1_init_61 : decode cX1_init 61 = .ok (.aload_n 0, 1) := by decide +kernel
theorem dX1_init_62 : decode cX1_init 62 = .ok (.bipush 6, 2) := by decide +kernel
theorem dX1_init_64 : decode cX1_init 64 = .ok (.newarray .int, 2) := by decide +kernel
theorem dX1_init_66 : decode cX1_init 66 = .ok (.putfield 41, 3) := by decide +kernel
theorem dX1_init_69 : decode cX1_init 69 = .ok (.aload_n 0, 1) := by decide +kernel
theorem dX1_init_70 : decode cX1_init 70 = .ok (.bipush 6, 2) := by decide +kernel
theorem dX1_init_72 : decode cX1_init 72 = .ok (.newarray .int, 2) := by decide +kernel
theorem dX1_init_74 : decode cX1_init 74 = .ok (.putfield 44, 3) := by decide +kernel
theorem dX1_init_77 : decode cX1_init 77 = .ok (.aload_n 0, 1) := by decide +kernel
theorem dX1_init_78 : decode cX1_init 78 = .ok (.bipush 6, 2) := by decide +kernel
theorem dX1_init_80 : decode cX1_init 80 = .ok (.newarray .long, 2) := by decide +kernel
theorem dX1_init_82 : decode cX1_init 82 = .ok (.putfield 47, 3) := by decide +kernel
theorem dX1_init_85 : decode cX1_init 85 = .ok (.aload_n 0, 1) := by decide +kernel
theorem dX1_init_86 : decode cX1_init 86 = .ok (.bipush 6, 2) := by decide +kernel
theorem dX1_init_88 : decode cX1_init 88 = .ok (.newarray .int, 2) := by decide +kernel
theorem dX1_init_90 : decode cX1_init 90 = .ok (.putfield 51, 3) := by decide +kernel
theorem dX1_init_93 : decode cX1_init 93 = .ok (.aload_n 0, 1) := by decide +kernel
theorem dX1_init_94 : decode cX1_init 94 = .ok (.iconst 4, 1) := by decide +kernel
theorem dX1_init_95 : decode cX1_init 95 = .ok (.newarray .int, 2) := by decide +kernel
theorem dX1_init_97 : decode cX1_init 97 = .ok (.putfield 54, 3) := by decide +kernel
theorem dX1_init_100 : decode cX1_init 100 = .ok (.aload_n 0, 1) := by decide +kernel
theorem dX1_init_101 : decode cX1_init 101 = .ok (.iconst 4, 1) := by decide +kernel
theorem dX1_init_102 : decode cX1_init 102 = .ok (.newarray .long, 2) := by decide +kernel
theorem dX1_init_104 : decode cX1_init 104 = .ok (.putfield 57, 3) := by decide +kernel
theorem dX1_init_107 : decode cX1_init 107 = .ok (.aload_n 0, 1) := by decide +kernel
theorem dX1_init_108 : decode cX1_init 108 = .ok (.iconst 4, 1) := by decide +kernel
theorem dX1_init_109 : decode cX1_init 109 = .ok (.newarray .long, 2) := by decide +kernel
theorem dX1_init_111 : decode cX1_init 111 = .ok (.putfield 60, 3) := by decide +kernel
theorem dX1_init_114 : decode cX1_init 114 = .ok (.aload_n 0, 1) := by decide +kernel
theorem dX1_init_115 : decode cX1_init 115 = .ok (.iconst 4, 1) := by decide +kernel
theorem dX1_init_116 : decode cX1_init 116 = .ok (.newarray .long, 2) := by decide +kernel
theorem dX1_init_118 : decode cX1_init 118 = .ok (.putfield 63, 3) := by decide +kernel
theorem dX1_init_121 : decode cX1_init 121 = .ok (.aload_n 0, 1) := by decide +kernel
theorem dX1_init_122 : decode cX1_init 122 = .ok (.aload_n 1, 1) := by decide +kernel
theorem dX1_init_123 : decode cX1_init 123 = .ok (.putfield 66, 3) := by decide +kernel
theorem dX1_init_126 : decode cX1_init 126 = .ok (.return_, 1) := by decide +kernel
theorem dX1_ready_0 : decode cX1_ready 0 = .ok (.iconst 0, 1) := by decide +kernel
theorem dX1_ready_1 : decode cX1_ready 1 = .ok (.istore_n 1, 1) := by decide +kernel
theorem dX1_ready_2 : decode cX1_ready 2 = .ok (.iconst 0, 1) := by decide +kernel
theorem dX1_ready_3 : decode cX1_ready 3 = .ok (.istore_n 2, 1) := by decide +kernel
theorem dX1_ready_4 : decode cX1_ready 4 = .ok (.iconst 5, 1) := by decide +kernel
theorem dX1_ready_5 : decode cX1_ready 5 = .ok (.istore_n 3, 1) := by decide +kernel
theorem dX1_ready_6 : decode cX1_ready 6 = .ok (.iload_n 3, 1) := by decide +kernel
theorem dX1_ready_7 : decode cX1_ready 7 = .ok (.ifCond .lt 39, 3) := by decide +kernel
theorem dX1_ready_10 : decode cX1_ready 10 = .ok (.iload_n 1, 1) := by decide +kernel
theorem dX1_ready_11 : decode cX1_ready 11 = .ok (.aload_n 0, 1) := by decide +kernel
theorem dX1_ready_12 : decode cX1_ready 12 = .ok (.getfield 66, 3) := by decide +kernel
theorem dX1_ready_15 : decode cX1_ready 15 = .ok (.getfield 70, 3) := by decide +kernel
theorem dX1_ready_18 : decode cX1_ready 18 = .ok (.iload_n 3, 1) := by decide +kernel
theorem dX1_ready_19 : decode cX1_ready 19 = .ok (.iaload, 1) := by decide +kernel
theorem dX1_ready_20 : decode cX1_ready 20 = .ok (.iadd, 1) := by decide +kernel
theorem dX1_ready_21 : decode cX1_ready 21 = .ok (.istore_n 1, 1) := by decide +kernel
theorem dX1_ready_22 : decode cX1_ready 22 = .ok (.iload_n 2, 1) := by decide +kernel
theorem dX1_ready_23 : decode cX1_ready 23 = .ok (.iload_n 1, 1) := by decide +kernel
theorem dX1_ready_24 : decode cX1_ready 24 = .ok (.iadd, 1) := by decide +kernel
theorem dX1_ready_25 : decode cX1_ready 25 = .ok (.istore_n 2, 1) := by decide +kernel
theorem dX1_ready_26 : decode cX1_ready 26 = .ok (.aload_n 0, 1) := by decide +kernel
theorem dX1_ready_27 : decode cX1_ready 27 = .ok (.getfield 25, 3) := by decide +kernel
theorem dX1_ready_30 : decode cX1_ready 30 = .ok (.iload_n 3, 1) := by decide +kernel
theorem dX1_ready_31 : decode cX1_ready 31 = .ok (.iload_n 1, 1) := by decide +kernel
theorem dX1_ready_32 : decode cX1_ready 32 = .ok (.iastore, 1) := by decide +kernel
theorem dX1_ready_33 : decode cX1_ready 33 = .ok (.aload_n 0, 1) := by decide +kernel
theorem dX1_ready_34 : decode cX1_ready 34 = .ok (.getfield 28, 3) := by decide +kernel
theorem dX1_ready_37 : decode cX1_ready 37 = .ok (.iload_n 3, 1) := by decide +kernel
theorem dX1_ready_38 : decode cX1_ready 38 = .ok (.iload_n 2, 1) := by decide +kernel
theorem dX1_ready_39 : decode cX1_ready 39 = .ok (.iastore, 1) := by decide +kernel
theorem dX1_ready_40 : decode cX1_ready 40 = .ok (.iinc 3 (-1), 3) := by decide +kernel
theorem dX1_ready_43 : decode cX1_ready 43 = .ok (.goto (-37), 3) := by decide +kernel
theorem dX1_ready_46 : decode cX1_ready 46 = .ok (.iconst 0, 1) := by decide +kernel
theorem dX1_ready_47 : decode cX1_ready 47 = .ok (.istore_n 3, 1) := by decide +kernel
theorem dX1_ready_48 : decode cX1_ready 48 = .ok (.iload_n 3, 1) := by decide +kernel
theorem dX1_ready_49 : decode cX1_ready 49 = .ok (.bipush 48, 2) := by decide +kernel
theorem dX1_ready_51 : decode cX1_ready 51 = .ok (.if_icmp .ge 23, 3) := by decide +kernel
theorem dX1_ready_54 : decode cX1_ready 54 = .ok (.aload_n 0, 1) := by decide +kernel
theorem dX1_ready_55 : decode cX1_ready 55 = .ok (.getfield 9, 3) := by decide +kernel
theorem dX1_ready_58 : decode cX1_ready 58 = .ok (.iload_n 3, 1) := by decide +kernel
theorem dX1_ready_59 : decode cX1_ready 59 = .ok (.aload_n 0, 1) := by decide +kernel
theorem dX1_ready_60 : decode cX1_ready 60 = .ok (.getfield 66, 3) := by decide +kernel
theorem dX1_ready_63 : decode cX1_ready 63 = .ok (.iload_n 3, 1) := by decide +kernel
theorem dX1_ready_64 : decode cX1_ready 64 = .ok (.invokevirtual 73, 3) := by decide +kernel
theorem dX1_ready_67 : decode cX1_ready 67 = .ok (.iastore, 1) := by decide +kernel
theorem dX1_ready_68 : decode cX1_ready 68 = .ok (.iinc 3 1, 3) := by decide +kernel
theorem dX1_ready_71 : decode cX1_ready 71 = .ok (.goto (-23), 3) := by decide +kernel
theorem dX1_ready_74 : decode cX1_ready 74 = .ok (.aload_n 0, 1) := by decide +kernel
theorem dX1_ready_75 : decode cX1_ready 75 = .ok (.aload_n 0, 1) := by decide +kernel
theorem dX1_ready_76 : decode cX1_ready 76 = .ok (.getfield 66, 3) := by decide +kernel
theorem dX1_ready_79 : decode cX1_ready 79 = .ok (.getfield 77, 3) := by decide +kernel
theorem dX1_ready_82 : decode cX1_ready 82 = .ok (.iconst 3, 1) := by decide +kernel
theorem dX1_ready_83 : decode cX1_ready 83 = .ok (.iaload, 1) := by decide +kernel
theorem dX1_ready_84 : decode cX1_ready 84 = .ok (.invokevirtual 80, 3) := by decide +kernel
theorem dX1_ready_87 : decode cX1_ready 87 = .ok (.return_, 1) := by decide +kernel
theorem dX1_standLegAt_0 : decode cX1_standLegAt 0 = .ok (.aload_n 0, 1) := by decide +kernel
theorem dX1_standLegAt_1 : decode cX1_standLegAt 1 = .ok (.aload_n 0, 1) := by decide +kernel
theorem dX1_standLegAt_2 : decode cX1_standLegAt 2 = .ok (.getfield 66, 3) := by decide +kernel
theorem dX1_standLegAt_5 : decode cX1_standLegAt 5 = .ok (.getfield 77, 3) := by decide +kernel
theorem dX1_standLegAt_8 : decode cX1_standLegAt 8 = .ok (.iconst 2, 1) := by decide +kernel
theorem dX1_standLegAt_9 : decode cX1_standLegAt 9 = .ok (.iaload, 1) := by decide +kernel
theorem dX1_standLegAt_10 : decode cX1_standLegAt 10 = .ok (.getstatic 84, 3) := by decide +kernel
theorem dX1_standLegAt_13 : decode cX1_standLegAt 13 = .ok (.iconst 3, 1) := by decide +kernel
theorem dX1_standLegAt_14 : decode cX1_standLegAt 14 = .ok (.iaload, 1) := by decide +kernel
theorem dX1_standLegAt_15 : decode cX1_standLegAt 15 = .ok (.iload_n 1, 1) := by decide +kernel
theorem dX1_standLegAt_16 : decode cX1_standLegAt 16 = .ok (.isub, 1) := by decide +kernel
theorem dX1_standLegAt_17 : decode cX1_standLegAt 17 = .ok (.imul, 1) := by decide +kernel
theorem dX1_standLegAt_18 : decode cX1_standLegAt 18 = .ok (.putfield 31, 3) := by decide +kernel
theorem dX1_standLegAt_21 : decode cX1_standLegAt 21 = .ok (.return_, 1) := by decide +kernel
theorem dX1_blow_0 : decode cX1_blow 0 = .ok (.aload_n 0, 1) := by decide +kernel
theorem dX1_blow_1 : decode cX1_blow 1 = .ok (.getfield 66, 3) := by decide +kernel
theorem dX1_blow_4 : decode cX1_blow 4 = .ok (.getfield 87, 3) := by decide +kernel
theorem dX1_blow_7 : decode cX1_blow 7 = .ok (.iload_n 1, 1) := by decide +kernel
theorem dX1_blow_8 : decode cX1_blow 8 = .ok (.iconst 0, 1) := by decide +kernel
theorem dX1_blow_9 : decode cX1_blow 9 = .ok (.invokevirtual 91, 3) := by decide +kernel
theorem dX1_blow_12 : decode cX1_blow 12 = .ok (.bipush 7, 2) := by decide +kernel
theorem dX1_blow_14 : decode cX1_blow 14 = .ok (.iand, 1) := by decide +kernel
theorem dX1_blow_15 : decode cX1_blow 15 = .ok (.istore_n 3, 1) := by decide +kernel
theorem dX1_blow_16 : decode cX1_blow 16 = .ok (.iload_n 2, 1) := by decide +kernel
theorem dX1_blow_17 : decode cX1_blow 17 = .ok (.iconst 1, 1) := by decide +kernel
theorem dX1_blow_18 : decode cX1_blow 18 = .ok (.if_icmp .ne 18, 3) := by decide +kernel
theorem dX1_blow_21 : decode cX1_blow 21 = .ok (.bipush 100, 2) := by decide +kernel
theorem dX1_blow_23 : decode cX1_blow 23 = .ok (.aload_n 0, 1) := by decide +kernel
theorem dX1_blow_24 : decode cX1_blow 24 = .ok (.getfield 66, 3) := by decide +kernel
theorem dX1_blow_27 : decode cX1_blow 27 = .ok (.getfield 77, 3) := by decide +kernel
theorem dX1_blow_30 : decode cX1_blow 30 = .ok (.iconst 4, 1) := by decide +kernel
theorem dX1_blow_31 : decode cX1_blow 31 = .ok (.iaload, 1) := by decide +kernel
theorem dX1_blow_32 : decode cX1_blow 32 = .ok (.isub, 1) := by decide +kernel
theorem dX1_blow_33 : decode cX1_blow 33 = .ok (.goto 5, 3) := by decide +kernel
theorem dX1_blow_36 : decode cX1_blow 36 = .ok (.bipush 100, 2) := by decide +kernel
theorem dX1_blow_38 : decode cX1_blow 38 = .ok (.istore 4, 2) := by decide +kernel
theorem dX1_blow_40 : decode cX1_blow 40 = .ok (.aload_n 0, 1) := by decide +kernel
theorem dX1_blow_41 : decode cX1_blow 41 = .ok (.getfield 66, 3) := by decide +kernel
theorem dX1_blow_44 : decode cX1_blow 44 = .ok (.getfield 87, 3) := by decide +kernel
theorem dX1_blow_47 : decode cX1_blow 47 = .ok (.iload_n 1, 1) := by decide +kernel
theorem dX1_blow_48 : decode cX1_blow 48 = .ok (.iconst 1, 1) := by decide +kernel
theorem dX1_blow_49 : decode cX1_blow 49 = .ok (.invokevirtual 91, 3) := by decide +kernel
theorem dX1_blow_52 : decode cX1_blow 52 = .ok (.i2l, 1) := by decide +kernel
theorem dX1_blow_53 : decode cX1_blow 53 = .ok (.iload 4, 2) := by decide +kernel
theorem dX1_blow_55 : decode cX1_blow 55 = .ok (.i2l, 1) := by decide +kernel
theorem dX1_blow_56 : decode cX1_blow 56 = .ok (.lmul, 1) := by decide +kernel
theorem dX1_blow_57 : decode cX1_blow 57 = .ok (.lstore 5, 2) := by decide +kernel
theorem dX1_blow_59 : decode cX1_blow 59 = .ok (.aload_n 0, 1) := by decide +kernel
theorem dX1_blow_60 : decode cX1_blow 60 = .ok (.lload 5, 2) := by decide +kernel
theorem dX1_blow_62 : decode cX1_blow 62 = .ok (.getstatic 97, 3) := by decide +kernel
theorem dX1_blow_65 : decode cX1_blow 65 = .ok (.iload_n 3, 1) := by decide +kernel
theorem dX1_blow_66 : decode cX1_blow 66 = .ok (.iaload, 1) := by decide +kernel
theorem dX1_blow_67 : decode cX1_blow 67 = .ok (.i2l, 1) := by decide +kernel
theorem dX1_blow_68 : decode cX1_blow 68 = .ok (.lmul, 1) := by decide +kernel
theorem dX1_blow_69 : decode cX1_blow 69 = .ok (.putfield 34, 3) := by decide +kernel
theorem dX1_blow_72 : decode cX1_blow 72 = .ok (.aload_n 0, 1) := by decide +kernel
theorem dX1_blow_73 : decode cX1_blow 73 = .ok (.lload 5, 2) := by decide +kernel
theorem dX1_blow_75 : decode cX1_blow 75 = .ok (.getstatic 100, 3) := by decide +kernel
theorem dX1_blow_78 : decode cX1_blow 78 = .ok (.iload_n 3, 1) := by decide +kernel
theorem dX1_blow_79 : decode cX1_blow 79 = .ok (.iaload, 1) := by decide +kernel
theorem dX1_blow_80 : decode cX1_blow 80 = .ok (.i2l, 1) := by decide +kernel
theorem dX1_blow_81 : decode cX1_blow 81 = .ok (.lmul, 1) := by decide +kernel
theorem dX1_blow_82 : decode cX1_blow 82 = .ok (.putfield 38, 3) := by decide +kernel
theorem dX1_blow_85 : decode cX1_blow 85 = .ok (.return_, 1) := by decide +kernel
theorem dX1_stands_0 : decode cX1_stands 0 = .ok (.aload_n 0, 1) := by decide +kernel
theorem dX1_stands_1 : decode cX1_stands 1 = .ok (.iload_n 1, 1) := by decide +kernel
theorem dX1_stands_2 : decode cX1_stands 2 = .ok (.iload_n 2, 1) := by decide +kernel
theorem dX1_stands_3 : decode cX1_stands 3 = .ok (.invokevirtual 103, 3) := by decide +kernel
theorem dX1_stands_6 : decode cX1_stands 6 = .ok (.aload_n 0, 1) := by decide +kernel
theorem dX1_stands_7 : decode cX1_stands 7 = .ok (.getfield 54, 3) := by decide +kernel
theorem dX1_stands_10 : decode cX1_stands 10 = .ok (.iconst 0, 1) := by decide +kernel
theorem dX1_stands_11 : decode cX1_stands 11 = .ok (.iaload, 1) := by decide +kernel
theorem dX1_stands_12 : decode cX1_stands 12 = .ok (.i2l, 1) := by decide +kernel
theorem dX1_stands_13 : decode cX1_stands 13 = .ok (.lstore_n 3, 1) := by decide +kernel
theorem dX1_stands_14 : decode cX1_stands 14 = .ok (.aload_n 0, 1) := by decide +kernel
theorem dX1_stands_15 : decode cX1_stands 15 = .ok (.getfield 54, 3) := by decide +kernel
theorem dX1_stands_18 : decode cX1_stands 18 = .ok (.iconst 1, 1) := by decide +kernel
theorem dX1_stands_19 : decode cX1_stands 19 = .ok (.iaload, 1) := by decide +kernel
theorem dX1_stands_20 : decode cX1_stands 20 = .ok (.i2l, 1) := by decide +kernel
theorem dX1_stands_21 : decode cX1_stands 21 = .ok (.lstore 5, 2) := by decide +kernel
theorem dX1_stands_23 : decode cX1_stands 23 = .ok (.aload_n 0, 1) := by decide +kernel
theorem dX1_stands_24 : decode cX1_stands 24 = .ok (.getfield 54, 3) := by decide +kernel
theorem dX1_stands_27 : decode cX1_stands 27 = .ok (.iconst 2, 1) := by decide +kernel
theorem dX1_stands_28 : decode cX1_stands 28 = .ok (.iaload, 1) := by decide +kernel
theorem dX1_stands_29 : decode cX1_stands 29 = .ok (.i2l, 1) := by decide +kernel
theorem dX1_stands_30 : decode cX1_stands 30 = .ok (.lstore 7, 2) := by decide +kernel
theorem dX1_stands_32 : decode cX1_stands 32 = .ok (.aload_n 0, 1) := by decide +kernel
theorem dX1_stands_33 : decode cX1_stands 33 = .ok (.getfield 54, 3) := by decide +kernel
theorem dX1_stands_36 : decode cX1_stands 36 = .ok (.iconst 3, 1) := by decide +kernel
theorem dX1_stands_37 : decode cX1_stands 37 = .ok (.iaload, 1) := by decide +kernel
theorem dX1_stands_38 : decode cX1_stands 38 = .ok (.i2l, 1) := by decide +kernel
theorem dX1_stands_39 : decode cX1_stands 39 = .ok (.lstore 9, 2) := by decide +kernel
theorem dX1_stands_41 : decode cX1_stands 41 = .ok (.lload_n 3, 1) := by decide +kernel
theorem dX1_stands_42 : decode cX1_stands 42 = .ok (.lload 7, 2) := by decide +kernel
theorem dX1_stands_44 : decode cX1_stands 44 = .ok (.lmul, 1) := by decide +kernel
theorem dX1_stands_45 : decode cX1_stands 45 = .ok (.lload 5, 2) := by decide +kernel
theorem dX1_stands_47 : decode cX1_stands 47 = .ok (.lload 9, 2) := by decide +kernel
theorem dX1_stands_49 : decode cX1_stands 49 = .ok (.ladd, 1) := by decide +kernel
theorem dX1_stands_50 : decode cX1_stands 50 = .ok (.lmul, 1) := by decide +kernel
theorem dX1_stands_51 : decode cX1_stands 51 = .ok (.lload 5, 2) := by decide +kernel
theorem dX1_stands_53 : decode cX1_stands 53 = .ok (.lload 9, 2) := by decide +kernel
theorem dX1_stands_55 : decode cX1_stands 55 = .ok (.lmul, 1) := by decide +kernel
theorem dX1_stands_56 : decode cX1_stands 56 = .ok (.lload_n 3, 1) := by decide +kernel
theorem dX1_stands_57 : decode cX1_stands 57 = .ok (.lload 7, 2) := by decide +kernel
theorem dX1_stands_59 : decode cX1_stands 59 = .ok (.ladd, 1) := by decide +kernel
theorem dX1_stands_60 : decode cX1_stands 60 = .ok (.lmul, 1) := by decide +kernel
theorem dX1_stands_61 : decode cX1_stands 61 = .ok (.ladd, 1) := by decide +kernel
theorem dX1_stands_62 : decode cX1_stands 62 = .ok (.lstore 11, 2) := by decide +kernel
theorem dX1_stands_64 : decode cX1_stands 64 = .ok (.lload 11, 2) := by decide +kernel
theorem dX1_stands_66 : decode cX1_stands 66 = .ok (.lconst 0, 1) := by decide +kernel
theorem dX1_stands_67 : decode cX1_stands 67 = .ok (.lcmp, 1) := by decide +kernel
theorem dX1_stands_68 : decode cX1_stands 68 = .ok (.ifCond .ne 5, 3) := by decide +kernel
theorem dX1_stands_71 : decode cX1_stands 71 = .ok (.iconst 0, 1) := by decide +kernel
theorem dX1_stands_72 : decode cX1_stands 72 = .ok (.ireturn, 1) := by decide +kernel
theorem dX1_stands_73 : decode cX1_stands 73 = .ok (.aload_n 0, 1) := by decide +kernel
theorem dX1_stands_74 : decode cX1_stands 74 = .ok (.getfield 34, 3) := by decide +kernel
theorem dX1_stands_77 : decode cX1_stands 77 = .ok (.aload_n 0, 1) := by decide +kernel
theorem dX1_stands_78 : decode cX1_stands 78 = .ok (.getfield 25, 3) := by decide +kernel
theorem dX1_stands_81 : decode cX1_stands 81 = .ok (.iload_n 1, 1) := by decide +kernel
theorem dX1_stands_82 : decode cX1_stands 82 = .ok (.iaload, 1) := by decide +kernel
theorem dX1_stands_83 : decode cX1_stands 83 = .ok (.i2l, 1) := by decide +kernel
theorem dX1_stands_84 : decode cX1_stands 84 = .ok (.lmul, 1) := by decide +kernel
theorem dX1_stands_85 : decode cX1_stands 85 = .ok (.lstore 13, 2) := by decide +kernel
theorem dX1_stands_87 : decode cX1_stands 87 = .ok (.aload_n 0, 1) := by decide +kernel
theorem dX1_stands_88 : decode cX1_stands 88 = .ok (.getfield 38, 3) := by decide +kernel
theorem dX1_stands_91 : decode cX1_stands 91 = .ok (.aload_n 0, 1) := by decide +kernel
theorem dX1_stands_92 : decode cX1_stands 92 = .ok (.getfield 25, 3) := by decide +kernel
theorem dX1_stands_95 : decode cX1_stands 95 = .ok (.iload_n 1, 1) := by decide +kernel
theorem dX1_stands_96 : decode cX1_stands 96 = .ok (.iaload, 1) := by decide +kernel
theorem dX1_stands_97 : decode cX1_stands 97 = .ok (.i2l, 1) := by decide +kernel
theorem dX1_stands_98 : decode cX1_stands 98 = .ok (.lmul, 1) := by decide +kernel
theorem dX1_stands_99 : decode cX1_stands 99 = .ok (.lstore 15, 2) := by decide +kernel
theorem dX1_stands_101 : decode cX1_stands 101 = .ok (.aload_n 0, 1) := by decide +kernel
theorem dX1_stands_102 : decode cX1_stands 102 = .ok (.getfield 57, 3) := by decide +kernel
theorem dX1_stands_105 : decode cX1_stands 105 = .ok (.iconst 0, 1) := by decide +kernel
theorem dX1_stands_106 : decode cX1_stands 106 = .ok (.lload 13, 2) := by decide +kernel
theorem dX1_stands_108 : decode cX1_stands 108 = .ok (.ldc2_w 107, 3) := by decide +kernel
theorem dX1_stands_111 : decode cX1_stands 111 = .ok (.lload 5, 2) := by decide +kernel
theorem dX1_stands_113 : decode cX1_stands 113 = .ok (.lmul, 1) := by decide +kernel
theorem dX1_stands_114 : decode cX1_stands 114 = .ok (.lload 9, 2) := by decide +kernel
theorem dX1_stands_116 : decode cX1_stands 116 = .ok (.lmul, 1) := by decide +kernel
theorem dX1_stands_117 : decode cX1_stands 117 = .ok (.lload 7, 2) := by decide +kernel
theorem dX1_stands_119 : decode cX1_stands 119 = .ok (.lload 5, 2) := by decide +kernel
theorem dX1_stands_121 : decode cX1_stands 121 = .ok (.lload 9, 2) := by decide +kernel
theorem dX1_stands_123 : decode cX1_stands 123 = .ok (.ladd, 1) := by decide +kernel
theorem dX1_stands_124 : decode cX1_stands 124 = .ok (.lmul, 1) := by decide +kernel
theorem dX1_stands_125 : decode cX1_stands 125 = .ok (.ladd, 1) := by decide +kernel
theorem dX1_stands_126 : decode cX1_stands 126 = .ok (.lmul, 1) := by decide +kernel
theorem dX1_stands_127 : decode cX1_stands 127 = .ok (.lload 15, 2) := by decide +kernel
theorem dX1_stands_129 : decode cX1_stands 129 = .ok (.lload 7, 2) := by decide +kernel
theorem dX1_stands_131 : decode cX1_stands 131 = .ok (.lmul, 1) := by decide +kernel
theorem dX1_stands_132 : decode cX1_stands 132 = .ok (.lload 5, 2) := by decide +kernel
theorem dX1_stands_134 : decode cX1_stands 134 = .ok (.lload 9, 2) := by decide +kernel
theorem dX1_stands_136 : decode cX1_stands 136 = .ok (.lsub, 1) := by decide +kernel
theorem dX1_stands_137 : decode cX1_stands 137 = .ok (.lmul, 1) := by decide +kernel
theorem dX1_stands_138 : decode cX1_stands 138 = .ok (.ladd, 1) := by decide +kernel
theorem dX1_stands_139 : decode cX1_stands 139 = .ok (.lastore, 1) := by decide +kernel
theorem dX1_stands_140 : decode cX1_stands 140 = .ok (.aload_n 0, 1) := by decide +kernel
theorem dX1_stands_141 : decode cX1_stands 141 = .ok (.getfield 57, 3) := by decide +kernel
theorem dX1_stands_144 : decode cX1_stands 144 = .ok (.iconst 2, 1) := by decide +kernel
theorem dX1_stands_145 : decode cX1_stands 145 = .ok (.lload 13, 2) := by decide +kernel
theorem dX1_stands_147 : decode cX1_stands 147 = .ok (.ldc2_w 107, 3) := by decide +kernel
theorem dX1_stands_150 : decode cX1_stands 150 = .ok (.lload 5, 2) := by decide +kernel
theorem dX1_stands_152 : decode cX1_stands 152 = .ok (.lmul, 1) := by decide +kernel
theorem dX1_stands_153 : decode cX1_stands 153 = .ok (.lload 9, 2) := by decide +kernel
theorem dX1_stands_155 : decode cX1_stands 155 = .ok (.lmul, 1) := by decide +kernel
theorem dX1_stands_156 : decode cX1_stands 156 = .ok (.lload_n 3, 1) := by decide +kernel
theorem dX1_stands_157 : decode cX1_stands 157 = .ok (.lload 5, 2) := by decide +kernel
theorem dX1_stands_159 : decode cX1_stands 159 = .ok (.lload 9, 2) := by decide +kernel
theorem dX1_stands_161 : decode cX1_stands 161 = .ok (.ladd, 1) := by decide +kernel
theorem dX1_stands_162 : decode cX1_stands 162 = .ok (.lmul, 1) := by decide +kernel
theorem dX1_stands_163 : decode cX1_stands 163 = .ok (.ladd, 1) := by decide +kernel
theorem dX1_stands_164 : decode cX1_stands 164 = .ok (.lmul, 1) := by decide +kernel
theorem dX1_stands_165 : decode cX1_stands 165 = .ok (.lload 15, 2) := by decide +kernel
theorem dX1_stands_167 : decode cX1_stands 167 = .ok (.lload_n 3, 1) := by decide +kernel
theorem dX1_stands_168 : decode cX1_stands 168 = .ok (.lmul, 1) := by decide +kernel
theorem dX1_stands_169 : decode cX1_stands 169 = .ok (.lload 5, 2) := by decide +kernel
theorem dX1_stands_171 : decode cX1_stands 171 = .ok (.lload 9, 2) := by decide +kernel
theorem dX1_stands_173 : decode cX1_stands 173 = .ok (.lsub, 1) := by decide +kernel
theorem dX1_stands_174 : decode cX1_stands 174 = .ok (.lmul, 1) := by decide +kernel
theorem dX1_stands_175 : decode cX1_stands 175 = .ok (.lsub, 1) := by decide +kernel
theorem dX1_stands_176 : decode cX1_stands 176 = .ok (.lastore, 1) := by decide +kernel
theorem dX1_stands_177 : decode cX1_stands 177 = .ok (.aload_n 0, 1) := by decide +kernel
theorem dX1_stands_178 : decode cX1_stands 178 = .ok (.getfield 57, 3) := by decide +kernel
theorem dX1_stands_181 : decode cX1_stands 181 = .ok (.iconst 1, 1) := by decide +kernel
theorem dX1_stands_182 : decode cX1_stands 182 = .ok (.lload 15, 2) := by decide +kernel
theorem dX1_stands_184 : decode cX1_stands 184 = .ok (.ldc2_w 107, 3) := by decide +kernel
theorem dX1_stands_187 : decode cX1_stands 187 = .ok (.lload_n 3, 1) := by decide +kernel
theorem dX1_stands_188 : decode cX1_stands 188 = .ok (.lmul, 1) := by decide +kernel
theorem dX1_stands_189 : decode cX1_stands 189 = .ok (.lload 7, 2) := by decide +kernel
theorem dX1_stands_191 : decode cX1_stands 191 = .ok (.lmul, 1) := by decide +kernel
theorem dX1_stands_192 : decode cX1_stands 192 = .ok (.lload 9, 2) := by decide +kernel
theorem dX1_stands_194 : decode cX1_stands 194 = .ok (.lload_n 3, 1) := by decide +kernel
theorem dX1_stands_195 : decode cX1_stands 195 = .ok (.lload 7, 2) := by decide +kernel
theorem dX1_stands_197 : decode cX1_stands 197 = .ok (.ladd, 1) := by decide +kernel
theorem dX1_stands_198 : decode cX1_stands 198 = .ok (.lmul, 1) := by decide +kernel
theorem dX1_stands_199 : decode cX1_stands 199 = .ok (.ladd, 1) := by decide +kernel
theorem dX1_stands_200 : decode cX1_stands 200 = .ok (.lmul, 1) := by decide +kernel
theorem dX1_stands_201 : decode cX1_stands 201 = .ok (.lload 13, 2) := by decide +kernel
theorem dX1_stands_203 : decode cX1_stands 203 = .ok (.lload 9, 2) := by decide +kernel
theorem dX1_stands_205 : decode cX1_stands 205 = .ok (.lmul, 1) := by decide +kernel
theorem dX1_stands_206 : decode cX1_stands 206 = .ok (.lload 7, 2) := by decide +kernel
theorem dX1_stands_208 : decode cX1_stands 208 = .ok (.lload_n 3, 1) := by decide +kernel
theorem dX1_stands_209 : decode cX1_stands 209 = .ok (.lsub, 1) := by decide +kernel
theorem dX1_stands_210 : decode cX1_stands 210 = .ok (.lmul, 1) := by decide +kernel
theorem dX1_stands_211 : decode cX1_stands 211 = .ok (.lsub, 1) := by decide +kernel
theorem dX1_stands_212 : decode cX1_stands 212 = .ok (.lastore, 1) := by decide +kernel
theorem dX1_stands_213 : decode cX1_stands 213 = .ok (.aload_n 0, 1) := by decide +kernel
theorem dX1_stands_214 : decode cX1_stands 214 = .ok (.getfield 57, 3) := by decide +kernel
theorem dX1_stands_217 : decode cX1_stands 217 = .ok (.iconst 3, 1) := by decide +kernel
theorem dX1_stands_218 : decode cX1_stands 218 = .ok (.lload 15, 2) := by decide +kernel
theorem dX1_stands_220 : decode cX1_stands 220 = .ok (.ldc2_w 107, 3) := by decide +kernel
theorem dX1_stands_223 : decode cX1_stands 223 = .ok (.lload_n 3, 1) := by decide +kernel
theorem dX1_stands_224 : decode cX1_stands 224 = .ok (.lmul, 1) := by decide +kernel
theorem dX1_stands_225 : decode cX1_stands 225 = .ok (.lload 7, 2) := by decide +kernel
theorem dX1_stands_227 : decode cX1_stands 227 = .ok (.lmul, 1) := by decide +kernel
theorem dX1_stands_228 : decode cX1_stands 228 = .ok (.lload 5, 2) := by decide +kernel
theorem dX1_stands_230 : decode cX1_stands 230 = .ok (.lload_n 3, 1) := by decide +kernel
theorem dX1_stands_231 : decode cX1_stands 231 = .ok (.lload 7, 2) := by decide +kernel
theorem dX1_stands_233 : decode cX1_stands 233 = .ok (.ladd, 1) := by decide +kernel
theorem dX1_stands_234 : decode cX1_stands 234 = .ok (.lmul, 1) := by decide +kernel
theorem dX1_stands_235 : decode cX1_stands 235 = .ok (.ladd, 1) := by decide +kernel
theorem dX1_stands_236 : decode cX1_stands 236 = .ok (.lmul, 1) := by decide +kernel
theorem dX1_stands_237 : decode cX1_stands 237 = .ok (.lload 13, 2) := by decide +kernel
theorem dX1_stands_239 : decode cX1_stands 239 = .ok (.lload 5, 2) := by decide +kernel
theorem dX1_stands_241 : decode cX1_stands 241 = .ok (.lmul, 1) := by decide +kernel
theorem dX1_stands_242 : decode cX1_stands 242 = .ok (.lload 7, 2) := by decide +kernel
theorem dX1_stands_244 : decode cX1_stands 244 = .ok (.lload_n 3, 1) := by decide +kernel
theorem dX1_stands_245 : decode cX1_stands 245 = .ok (.lsub, 1) := by decide +kernel
theorem dX1_stands_246 : decode cX1_stands 246 = .ok (.lmul, 1) := by decide +kernel
theorem dX1_stands_247 : decode cX1_stands 247 = .ok (.ladd, 1) := by decide +kernel
theorem dX1_stands_248 : decode cX1_stands 248 = .ok (.lastore, 1) := by decide +kernel
theorem dX1_stands_249 : decode cX1_stands 249 = .ok (.aload_n 0, 1) := by decide +kernel
theorem dX1_stands_250 : decode cX1_stands 250 = .ok (.getfield 28, 3) := by decide +kernel
theorem dX1_stands_253 : decode cX1_stands 253 = .ok (.iload_n 1, 1) := by decide +kernel
theorem dX1_stands_254 : decode cX1_stands 254 = .ok (.iaload, 1) := by decide +kernel
theorem dX1_stands_255 : decode cX1_stands 255 = .ok (.i2l, 1) := by decide +kernel
theorem dX1_stands_256 : decode cX1_stands 256 = .ok (.aload_n 0, 1) := by decide +kernel
theorem dX1_stands_257 : decode cX1_stands 257 = .ok (.getfield 31, 3) := by decide +kernel
theorem dX1_stands_260 : decode cX1_stands 260 = .ok (.i2l, 1) := by decide +kernel
theorem dX1_stands_261 : decode cX1_stands 261 = .ok (.lmul, 1) := by decide +kernel
theorem dX1_stands_262 : decode cX1_stands 262 = .ok (.lstore 17, 2) := by decide +kernel
theorem dX1_stands_264 : decode cX1_stands 264 = .ok (.aload_n 0, 1) := by decide +kernel
theorem dX1_stands_265 : decode cX1_stands 265 = .ok (.getfield 60, 3) := by decide +kernel
theorem dX1_stands_268 : decode cX1_stands 268 = .ok (.iconst 0, 1) := by decide +kernel
theorem dX1_stands_269 : decode cX1_stands 269 = .ok (.aload_n 0, 1) := by decide +kernel
theorem dX1_stands_270 : decode cX1_stands 270 = .ok (.getfield 38, 3) := by decide +kernel
theorem dX1_stands_273 : decode cX1_stands 273 = .ok (.lload 17, 2) := by decide +kernel
theorem dX1_stands_275 : decode cX1_stands 275 = .ok (.lmul, 1) := by decide +kernel
theorem dX1_stands_276 : decode cX1_stands 276 = .ok (.lastore, 1) := by decide +kernel
theorem dX1_stands_277 : decode cX1_stands 277 = .ok (.aload_n 0, 1) := by decide +kernel
theorem dX1_stands_278 : decode cX1_stands 278 = .ok (.getfield 60, 3) := by decide +kernel
theorem dX1_stands_281 : decode cX1_stands 281 = .ok (.iconst 2, 1) := by decide +kernel
theorem dX1_stands_282 : decode cX1_stands 282 = .ok (.aload_n 0, 1) := by decide +kernel
theorem dX1_stands_283 : decode cX1_stands 283 = .ok (.getfield 60, 3) := by decide +kernel
theorem dX1_stands_286 : decode cX1_stands 286 = .ok (.iconst 0, 1) := by decide +kernel
theorem dX1_stands_287 : decode cX1_stands 287 = .ok (.laload, 1) := by decide +kernel
theorem dX1_stands_288 : decode cX1_stands 288 = .ok (.lneg, 1) := by decide +kernel
theorem dX1_stands_289 : decode cX1_stands 289 = .ok (.lastore, 1) := by decide +kernel
theorem dX1_stands_290 : decode cX1_stands 290 = .ok (.aload_n 0, 1) := by decide +kernel
theorem dX1_stands_291 : decode cX1_stands 291 = .ok (.getfield 60, 3) := by decide +kernel
theorem dX1_stands_294 : decode cX1_stands 294 = .ok (.iconst 1, 1) := by decide +kernel
theorem dX1_stands_295 : decode cX1_stands 295 = .ok (.aload_n 0, 1) := by decide +kernel
theorem dX1_stands_296 : decode cX1_stands 296 = .ok (.getfield 34, 3) := by decide +kernel
theorem dX1_stands_299 : decode cX1_stands 299 = .ok (.lload 17, 2) := by decide +kernel
theorem dX1_stands_301 : decode cX1_stands 301 = .ok (.lmul, 1) := by decide +kernel
theorem dX1_stands_302 : decode cX1_stands 302 = .ok (.lastore, 1) := by decide +kernel
theorem dX1_stands_303 : decode cX1_stands 303 = .ok (.aload_n 0, 1) := by decide +kernel
theorem dX1_stands_304 : decode cX1_stands 304 = .ok (.getfield 60, 3) := by decide +kernel
theorem dX1_stands_307 : decode cX1_stands 307 = .ok (.iconst 3, 1) := by decide +kernel
theorem dX1_stands_308 : decode cX1_stands 308 = .ok (.aload_n 0, 1) := by decide +kernel
theorem dX1_stands_309 : decode cX1_stands 309 = .ok (.getfield 60, 3) := by decide +kernel
theorem dX1_stands_312 : decode cX1_stands 312 = .ok (.iconst 1, 1) := by decide +kernel
theorem dX1_stands_313 : decode cX1_stands 313 = .ok (.laload, 1) := by decide +kernel
theorem dX1_stands_314 : decode cX1_stands 314 = .ok (.lneg, 1) := by decide +kernel
theorem dX1_stands_315 : decode cX1_stands 315 = .ok (.lastore, 1) := by decide +kernel
theorem dX1_stands_316 : decode cX1_stands 316 = .ok (.aload_n 0, 1) := by decide +kernel
theorem dX1_stands_317 : decode cX1_stands 317 = .ok (.ldc2_w 107, 3) := by decide +kernel
theorem dX1_stands_320 : decode cX1_stands 320 = .ok (.lload 11, 2) := by decide +kernel
theorem dX1_stands_322 : decode cX1_stands 322 = .ok (.lmul, 1) := by decide +kernel
theorem dX1_stands_323 : decode cX1_stands 323 = .ok (.invokevirtual 109, 3) := by decide +kernel
theorem dX1_stands_326 : decode cX1_stands 326 = .ok (.ireturn, 1) := by decide +kernel
theorem dX1_addStiffs_0 : decode cX1_addStiffs 0 = .ok (.iconst 0, 1) := by decide +kernel
theorem dX1_addStiffs_1 : decode cX1_addStiffs 1 = .ok (.istore_n 3, 1) := by decide +kernel
theorem dX1_addStiffs_2 : decode cX1_addStiffs 2 = .ok (.iload_n 3, 1) := by decide +kernel
theorem dX1_addStiffs_3 : decode cX1_addStiffs 3 = .ok (.iconst 4, 1) := by decide +kernel
theorem dX1_addStiffs_4 : decode cX1_addStiffs 4 = .ok (.if_icmp .ge 86, 3) := by decide +kernel
theorem dX1_addStiffs_7 : decode cX1_addStiffs 7 = .ok (.iload_n 1, 1) := by decide +kernel
theorem dX1_addStiffs_8 : decode cX1_addStiffs 8 = .ok (.bipush 8, 2) := by decide +kernel
theorem dX1_addStiffs_10 : decode cX1_addStiffs 10 = .ok (.imul, 1) := by decide +kernel
theorem dX1_addStiffs_11 : decode cX1_addStiffs 11 = .ok (.iconst 2, 1) := by decide +kernel
theorem dX1_addStiffs_12 : decode cX1_addStiffs 12 = .ok (.iload_n 3, 1) := by decide +kernel
theorem dX1_addStiffs_13 : decode cX1_addStiffs 13 = .ok (.imul, 1) := by decide +kernel
theorem dX1_addStiffs_14 : decode cX1_addStiffs 14 = .ok (.iadd, 1) := by decide +kernel
theorem dX1_addStiffs_15 : decode cX1_addStiffs 15 = .ok (.istore 4, 2) := by decide +kernel
theorem dX1_addStiffs_17 : decode cX1_addStiffs 17 = .ok (.iload_n 2, 1) := by decide +kernel
theorem dX1_addStiffs_18 : decode cX1_addStiffs 18 = .ok (.iconst 2, 1) := by decide +kernel
theorem dX1_addStiffs_19 : decode cX1_addStiffs 19 = .ok (.iload_n 3, 1) := by decide +kernel
theorem dX1_addStiffs_20 : decode cX1_addStiffs 20 = .ok (.imul, 1) := by decide +kernel
theorem dX1_addStiffs_21 : decode cX1_addStiffs 21 = .ok (.iushr, 1) := by decide +kernel
theorem dX1_addStiffs_22 : decode cX1_addStiffs 22 = .ok (.iconst 1, 1) := by decide +kernel
theorem dX1_addStiffs_23 : decode cX1_addStiffs 23 = .ok (.iand, 1) := by decide +kernel
theorem dX1_addStiffs_24 : decode cX1_addStiffs 24 = .ok (.ifCond .ne 16, 3) := by decide +kernel
theorem dX1_addStiffs_27 : decode cX1_addStiffs 27 = .ok (.aload_n 0, 1) := by decide +kernel
theorem dX1_addStiffs_28 : decode cX1_addStiffs 28 = .ok (.getfield 66, 3) := by decide +kernel
theorem dX1_addStiffs_31 : decode cX1_addStiffs 31 = .ok (.getfield 113, 3) := by decide +kernel
theorem dX1_addStiffs_34 : decode cX1_addStiffs 34 = .ok (.iload 4, 2) := by decide +kernel
theorem dX1_addStiffs_36 : decode cX1_addStiffs 36 = .ok (.iaload, 1) := by decide +kernel
theorem dX1_addStiffs_37 : decode cX1_addStiffs 37 = .ok (.goto 4, 3) := by decide +kernel
theorem dX1_addStiffs_40 : decode cX1_addStiffs 40 = .ok (.iconst 0, 1) := by decide +kernel
theorem dX1_addStiffs_41 : decode cX1_addStiffs 41 = .ok (.istore 5, 2) := by decide +kernel
theorem dX1_addStiffs_43 : decode cX1_addStiffs 43 = .ok (.iload_n 2, 1) := by decide +kernel
theorem dX1_addStiffs_44 : decode cX1_addStiffs 44 = .ok (.iconst 2, 1) := by decide +kernel
theorem dX1_addStiffs_45 : decode cX1_addStiffs 45 = .ok (.iload_n 3, 1) := by decide +kernel
theorem dX1_addStiffs_46 : decode cX1_addStiffs 46 = .ok (.imul, 1) := by decide +kernel
theorem dX1_addStiffs_47 : decode cX1_addStiffs 47 = .ok (.iconst 1, 1) := by decide +kernel
theorem dX1_addStiffs_48 : decode cX1_addStiffs 48 = .ok (.iadd, 1) := by decide +kernel
theorem dX1_addStiffs_49 : decode cX1_addStiffs 49 = .ok (.iushr, 1) := by decide +kernel
theorem dX1_addStiffs_50 : decode cX1_addStiffs 50 = .ok (.iconst 1, 1) := by decide +kernel
theorem dX1_addStiffs_51 : decode cX1_addStiffs 51 = .ok (.iand, 1) := by decide +kernel
theorem dX1_addStiffs_52 : decode cX1_addStiffs 52 = .ok (.ifCond .ne 18, 3) := by decide +kernel
theorem dX1_addStiffs_55 : decode cX1_addStiffs 55 = .ok (.aload_n 0, 1) := by decide +kernel
theorem dX1_addStiffs_56 : decode cX1_addStiffs 56 = .ok (.getfield 66, 3) := by decide +kernel
theorem dX1_addStiffs_59 : decode cX1_addStiffs 59 = .ok (.getfield 113, 3) := by decide +kernel
theorem dX1_addStiffs_62 : decode cX1_addStiffs 62 = .ok (.iload 4, 2) := by decide +kernel
theorem dX1_addStiffs_64 : decode cX1_addStiffs 64 = .ok (.iconst 1, 1) := by decide +kernel
theorem dX1_addStiffs_65 : decode cX1_addStiffs 65 = .ok (.iadd, 1) := by decide +kernel
theorem dX1_addStiffs_66 : decode cX1_addStiffs 66 = .ok (.iaload, 1) := by decide +kernel
theorem dX1_addStiffs_67 : decode cX1_addStiffs 67 = .ok (.goto 4, 3) := by decide +kernel
theorem dX1_addStiffs_70 : decode cX1_addStiffs 70 = .ok (.iconst 0, 1) := by decide +kernel
theorem dX1_addStiffs_71 : decode cX1_addStiffs 71 = .ok (.istore 6, 2) := by decide +kernel
theorem dX1_addStiffs_73 : decode cX1_addStiffs 73 = .ok (.aload_n 0, 1) := by decide +kernel
theorem dX1_addStiffs_74 : decode cX1_addStiffs 74 = .ok (.getfield 54, 3) := by decide +kernel
theorem dX1_addStiffs_77 : decode cX1_addStiffs 77 = .ok (.iload_n 3, 1) := by decide +kernel
theorem dX1_addStiffs_78 : decode cX1_addStiffs 78 = .ok (.iload 5, 2) := by decide +kernel
theorem dX1_addStiffs_80 : decode cX1_addStiffs 80 = .ok (.iload 6, 2) := by decide +kernel
theorem dX1_addStiffs_82 : decode cX1_addStiffs 82 = .ok (.iadd, 1) := by decide +kernel
theorem dX1_addStiffs_83 : decode cX1_addStiffs 83 = .ok (.iastore, 1) := by decide +kernel
theorem dX1_addStiffs_84 : decode cX1_addStiffs 84 = .ok (.iinc 3 1, 3) := by decide +kernel
theorem dX1_addStiffs_87 : decode cX1_addStiffs 87 = .ok (.goto (-85), 3) := by decide +kernel
theorem dX1_addStiffs_90 : decode cX1_addStiffs 90 = .ok (.return_, 1) := by decide +kernel
theorem dX1_hasCommonDivisors_0 : decode cX1_hasCommonDivisors 0 = .ok (.iconst 0, 1) := by decide +kernel
theorem dX1_hasCommonDivisors_1 : decode cX1_hasCommonDivisors 1 = .ok (.istore_n 3, 1) := by decide +kernel
theorem dX1_hasCommonDivisors_2 : decode cX1_hasCommonDivisors 2 = .ok (.iload_n 3, 1) := by decide +kernel
theorem dX1_hasCommonDivisors_3 : decode cX1_hasCommonDivisors 3 = .ok (.iconst 4, 1) := by decide +kernel
theorem dX1_hasCommonDivisors_4 : decode cX1_hasCommonDivisors 4 = .ok (.if_icmp .ge 75, 3) := by decide +kernel
theorem dX1_hasCommonDivisors_7 : decode cX1_hasCommonDivisors 7 = .ok (.aload_n 0, 1) := by decide +kernel
theorem dX1_hasCommonDivisors_8 : decode cX1_hasCommonDivisors 8 = .ok (.getfield 54, 3) := by decide +kernel
theorem dX1_hasCommonDivisors_11 : decode cX1_hasCommonDivisors 11 = .ok (.iload_n 3, 1) := by decide +kernel
theorem dX1_hasCommonDivisors_12 : decode cX1_hasCommonDivisors 12 = .ok (.iaload, 1) := by decide +kernel
theorem dX1_hasCommonDivisors_13 : decode cX1_hasCommonDivisors 13 = .ok (.ifCond .ne 16, 3) := by decide +kernel
theorem dX1_hasCommonDivisors_16 : decode cX1_hasCommonDivisors 16 = .ok (.aload_n 0, 1) := by decide +kernel
theorem dX1_hasCommonDivisors_17 : decode cX1_hasCommonDivisors 17 = .ok (.getfield 60, 3) := by decide +kernel
theorem dX1_hasCommonDivisors_20 : decode cX1_hasCommonDivisors 20 = .ok (.iload_n 3, 1) := by decide +kernel
theorem dX1_hasCommonDivisors_21 : decode cX1_hasCommonDivisors 21 = .ok (.laload, 1) := by decide +kernel
theorem dX1_hasCommonDivisors_22 : decode cX1_hasCommonDivisors 22 = .ok (.lconst 0, 1) := by decide +kernel
theorem dX1_hasCommonDivisors_23 : decode cX1_hasCommonDivisors 23 = .ok (.lcmp, 1) := by decide +kernel
theorem dX1_hasCommonDivisors_24 : decode cX1_hasCommonDivisors 24 = .ok (.ifCond .eq 5, 3) := by decide +kernel
theorem dX1_hasCommonDivisors_27 : decode cX1_hasCommonDivisors 27 = .ok (.iconst 0, 1) := by decide +kernel
theorem dX1_hasCommonDivisors_28 : decode cX1_hasCommonDivisors 28 = .ok (.ireturn, 1) := by decide +kernel
theorem dX1_hasCommonDivisors_29 : decode cX1_hasCommonDivisors 29 = .ok (.ldc2_w 116, 3) := by decide +kernel
theorem dX1_hasCommonDivisors_32 : decode cX1_hasCommonDivisors 32 = .ok (.aload_n 0, 1) := by decide +kernel
theorem dX1_hasCommonDivisors_33 : decode cX1_hasCommonDivisors 33 = .ok (.getfield 54, 3) := by decide +kernel
theorem dX1_hasCommonDivisors_36 : decode cX1_hasCommonDivisors 36 = .ok (.iload_n 3, 1) := by decide +kernel
theorem dX1_hasCommonDivisors_37 : decode cX1_hasCommonDivisors 37 = .ok (.iaload, 1) := by decide +kernel
theorem dX1_hasCommonDivisors_38 : decode cX1_hasCommonDivisors 38 = .ok (.i2l, 1) := by decide +kernel
theorem dX1_hasCommonDivisors_39 : decode cX1_hasCommonDivisors 39 = .ok (.lmul, 1) := by decide +kernel
theorem dX1_hasCommonDivisors_40 : decode cX1_hasCommonDivisors 40 = .ok (.lstore 4, 2) := by decide +kernel
theorem dX1_hasCommonDivisors_42 : decode cX1_hasCommonDivisors 42 = .ok (.aload_n 0, 1) := by decide +kernel
theorem dX1_hasCommonDivisors_43 : decode cX1_hasCommonDivisors 43 = .ok (.getfield 57, 3) := by decide +kernel
theorem dX1_hasCommonDivisors_46 : decode cX1_hasCommonDivisors 46 = .ok (.iload_n 3, 1) := by decide +kernel
theorem dX1_hasCommonDivisors_47 : decode cX1_hasCommonDivisors 47 = .ok (.dup2, 1) := by decide +kernel
theorem dX1_hasCommonDivisors_48 : decode cX1_hasCommonDivisors 48 = .ok (.laload, 1) := by decide +kernel
theorem dX1_hasCommonDivisors_49 : decode cX1_hasCommonDivisors 49 = .ok (.lload 4, 2) := by decide +kernel
theorem dX1_hasCommonDivisors_51 : decode cX1_hasCommonDivisors 51 = .ok (.lmul, 1) := by decide +kernel
theorem dX1_hasCommonDivisors_52 : decode cX1_hasCommonDivisors 52 = .ok (.lastore, 1) := by decide +kernel
theorem dX1_hasCommonDivisors_53 : decode cX1_hasCommonDivisors 53 = .ok (.aload_n 0, 1) := by decide +kernel
theorem dX1_hasCommonDivisors_54 : decode cX1_hasCommonDivisors 54 = .ok (.getfield 60, 3) := by decide +kernel
theorem dX1_hasCommonDivisors_57 : decode cX1_hasCommonDivisors 57 = .ok (.iload_n 3, 1) := by decide +kernel
theorem dX1_hasCommonDivisors_58 : decode cX1_hasCommonDivisors 58 = .ok (.dup2, 1) := by decide +kernel
theorem dX1_hasCommonDivisors_59 : decode cX1_hasCommonDivisors 59 = .ok (.laload, 1) := by decide +kernel
theorem dX1_hasCommonDivisors_60 : decode cX1_hasCommonDivisors 60 = .ok (.lload_n 1, 1) := by decide +kernel
theorem dX1_hasCommonDivisors_61 : decode cX1_hasCommonDivisors 61 = .ok (.lmul, 1) := by decide +kernel
theorem dX1_hasCommonDivisors_62 : decode cX1_hasCommonDivisors 62 = .ok (.lastore, 1) := by decide +kernel
theorem dX1_hasCommonDivisors_63 : decode cX1_hasCommonDivisors 63 = .ok (.aload_n 0, 1) := by decide +kernel
theorem dX1_hasCommonDivisors_64 : decode cX1_hasCommonDivisors 64 = .ok (.getfield 63, 3) := by decide +kernel
theorem dX1_hasCommonDivisors_67 : decode cX1_hasCommonDivisors 67 = .ok (.iload_n 3, 1) := by decide +kernel
theorem dX1_hasCommonDivisors_68 : decode cX1_hasCommonDivisors 68 = .ok (.lload 4, 2) := by decide +kernel
theorem dX1_hasCommonDivisors_70 : decode cX1_hasCommonDivisors 70 = .ok (.lload_n 1, 1) := by decide +kernel
theorem dX1_hasCommonDivisors_71 : decode cX1_hasCommonDivisors 71 = .ok (.lmul, 1) := by decide +kernel
theorem dX1_hasCommonDivisors_72 : decode cX1_hasCommonDivisors 72 = .ok (.lastore, 1) := by decide +kernel
theorem dX1_hasCommonDivisors_73 : decode cX1_hasCommonDivisors 73 = .ok (.iinc 3 1, 3) := by decide +kernel
theorem dX1_hasCommonDivisors_76 : decode cX1_hasCommonDivisors 76 = .ok (.goto (-74), 3) := by decide +kernel
theorem dX1_hasCommonDivisors_79 : decode cX1_hasCommonDivisors 79 = .ok (.iconst 1, 1) := by decide +kernel
theorem dX1_hasCommonDivisors_80 : decode cX1_hasCommonDivisors 80 = .ok (.ireturn, 1) := by decide +kernel
theorem dX1_pullOf_0 : decode cX1_pullOf 0 = .ok (.iload_n 1, 1) := by decide +kernel
theorem dX1_pullOf_1 : decode cX1_pullOf 1 = .ok (.invokestatic 118, 3) := by decide +kernel
theorem dX1_pullOf_4 : decode cX1_pullOf 4 = .ok (.istore_n 2, 1) := by decide +kernel
theorem dX1_pullOf_5 : decode cX1_pullOf 5 = .ok (.iload_n 1, 1) := by decide +kernel
theorem dX1_pullOf_6 : decode cX1_pullOf 6 = .ok (.iconst 2, 1) := by decide +kernel
theorem dX1_pullOf_7 : decode cX1_pullOf 7 = .ok (.irem, 1) := by decide +kernel
theorem dX1_pullOf_8 : decode cX1_pullOf 8 = .ok (.ifCond .ne 12, 3) := by decide +kernel
theorem dX1_pullOf_11 : decode cX1_pullOf 11 = .ok (.aload_n 0, 1) := by decide +kernel
theorem dX1_pullOf_12 : decode cX1_pullOf 12 = .ok (.getfield 57, 3) := by decide +kernel
theorem dX1_pullOf_15 : decode cX1_pullOf 15 = .ok (.iload_n 2, 1) := by decide +kernel
theorem dX1_pullOf_16 : decode cX1_pullOf 16 = .ok (.laload, 1) := by decide +kernel
theorem dX1_pullOf_17 : decode cX1_pullOf 17 = .ok (.goto 10, 3) := by decide +kernel
theorem dX1_pullOf_20 : decode cX1_pullOf 20 = .ok (.aload_n 0, 1) := by decide +kernel
theorem dX1_pullOf_21 : decode cX1_pullOf 21 = .ok (.getfield 57, 3) := by decide +kernel
theorem dX1_pullOf_24 : decode cX1_pullOf 24 = .ok (.iload_n 2, 1) := by decide +kernel
theorem dX1_pullOf_25 : decode cX1_pullOf 25 = .ok (.laload, 1) := by decide +kernel
theorem dX1_pullOf_26 : decode cX1_pullOf 26 = .ok (.lneg, 1) := by decide +kernel
theorem dX1_pullOf_27 : decode cX1_pullOf 27 = .ok (.lstore_n 3, 1) := by decide +kernel
theorem dX1_pullOf_28 : decode cX1_pullOf 28 = .ok (.aload_n 0, 1) := by decide +kernel
theorem dX1_pullOf_29 : decode cX1_pullOf 29 = .ok (.getfield 66, 3) := by decide +kernel
theorem dX1_pullOf_32 : decode cX1_pullOf 32 = .ok (.getfield 113, 3) := by decide +kernel
theorem dX1_pullOf_35 : decode cX1_pullOf 35 = .ok (.iload_n 1, 1) := by decide +kernel
theorem dX1_pullOf_36 : decode cX1_pullOf 36 = .ok (.iaload, 1) := by decide +kernel
theorem dX1_pullOf_37 : decode cX1_pullOf 37 = .ok (.i2l, 1) := by decide +kernel
theorem dX1_pullOf_38 : decode cX1_pullOf 38 = .ok (.lload_n 3, 1) := by decide +kernel
theorem dX1_pullOf_39 : decode cX1_pullOf 39 = .ok (.aload_n 0, 1) := by decide +kernel
theorem dX1_pullOf_40 : decode cX1_pullOf 40 = .ok (.getfield 60, 3) := by decide +kernel
theorem dX1_pullOf_43 : decode cX1_pullOf 43 = .ok (.iload_n 2, 1) := by decide +kernel
theorem dX1_pullOf_44 : decode cX1_pullOf 44 = .ok (.laload, 1) := by decide +kernel
theorem dX1_pullOf_45 : decode cX1_pullOf 45 = .ok (.ladd, 1) := by decide +kernel
theorem dX1_pullOf_46 : decode cX1_pullOf 46 = .ok (.lmul, 1) := by decide +kernel
theorem dX1_pullOf_47 : decode cX1_pullOf 47 = .ok (.lreturn, 1) := by decide +kernel
theorem dX1_faceOf_0 : decode cX1_faceOf 0 = .ok (.iload_n 0, 1) := by decide +kernel
theorem dX1_faceOf_1 : decode cX1_faceOf 1 = .ok (.iconst 2, 1) := by decide +kernel
theorem dX1_faceOf_2 : decode cX1_faceOf 2 = .ok (.idiv, 1) := by decide +kernel
theorem dX1_faceOf_3 : decode cX1_faceOf 3 = .ok (.iconst 4, 1) := by decide +kernel
theorem dX1_faceOf_4 : decode cX1_faceOf 4 = .ok (.irem, 1) := by decide +kernel
theorem dX1_faceOf_5 : decode cX1_faceOf 5 = .ok (.ireturn, 1) := by decide +kernel
theorem dX1_thousandths_0 : decode cX1_thousandths 0 = .ok (.aload_n 0, 1) := by decide +kernel
theorem dX1_thousandths_1 : decode cX1_thousandths 1 = .ok (.getfield 63, 3) := by decide +kernel
theorem dX1_thousandths_4 : decode cX1_thousandths 4 = .ok (.iload_n 1, 1) := by decide +kernel
theorem dX1_thousandths_5 : decode cX1_thousandths 5 = .ok (.invokestatic 118, 3) := by decide +kernel
theorem dX1_thousandths_8 : decode cX1_thousandths 8 = .ok (.laload, 1) := by decide +kernel
theorem dX1_thousandths_9 : decode cX1_thousandths 9 = .ok (.lstore_n 2, 1) := by decide +kernel
theorem dX1_thousandths_10 : decode cX1_thousandths 10 = .ok (.ldc2_w 116, 3) := by decide +kernel
theorem dX1_thousandths_13 : decode cX1_thousandths 13 = .ok (.aload_n 0, 1) := by decide +kernel
theorem dX1_thousandths_14 : decode cX1_thousandths 14 = .ok (.getfield 66, 3) := by decide +kernel
theorem dX1_thousandths_17 : decode cX1_thousandths 17 = .ok (.getfield 121, 3) := by decide +kernel
theorem dX1_thousandths_20 : decode cX1_thousandths 20 = .ok (.iload_n 1, 1) := by decide +kernel
theorem dX1_thousandths_21 : decode cX1_thousandths 21 = .ok (.bipush 8, 2) := by decide +kernel
theorem dX1_thousandths_23 : decode cX1_thousandths 23 = .ok (.idiv, 1) := by decide +kernel
theorem dX1_thousandths_24 : decode cX1_thousandths 24 = .ok (.iaload, 1) := by decide +kernel
theorem dX1_thousandths_25 : decode cX1_thousandths 25 = .ok (.i2l, 1) := by decide +kernel
theorem dX1_thousandths_26 : decode cX1_thousandths 26 = .ok (.lmul, 1) := by decide +kernel
theorem dX1_thousandths_27 : decode cX1_thousandths 27 = .ok (.lstore 4, 2) := by decide +kernel
theorem dX1_thousandths_29 : decode cX1_thousandths 29 = .ok (.lload_n 2, 1) := by decide +kernel
theorem dX1_thousandths_30 : decode cX1_thousandths 30 = .ok (.lconst 0, 1) := by decide +kernel
theorem dX1_thousandths_31 : decode cX1_thousandths 31 = .ok (.lcmp, 1) := by decide +kernel
theorem dX1_thousandths_32 : decode cX1_thousandths 32 = .ok (.ifCond .ne 9, 3) := by decide +kernel
theorem dX1_thousandths_35 : decode cX1_thousandths 35 = .ok (.ldc2_w 124, 3) := by decide +kernel
theorem dX1_thousandths_38 : decode cX1_thousandths 38 = .ok (.goto 15, 3) := by decide +kernel
theorem dX1_thousandths_41 : decode cX1_thousandths 41 = .ok (.aload_n 0, 1) := by decide +kernel
theorem dX1_thousandths_42 : decode cX1_thousandths 42 = .ok (.iload_n 1, 1) := by decide +kernel
theorem dX1_thousandths_43 : decode cX1_thousandths 43 = .ok (.invokevirtual 126, 3) := by decide +kernel
theorem dX1_thousandths_46 : decode cX1_thousandths 46 = .ok (.lload 4, 2) := by decide +kernel
theorem dX1_thousandths_48 : decode cX1_thousandths 48 = .ok (.lload_n 2, 1) := by decide +kernel
theorem dX1_thousandths_49 : decode cX1_thousandths 49 = .ok (.lmul, 1) := by decide +kernel
theorem dX1_thousandths_50 : decode cX1_thousandths 50 = .ok (.lsub, 1) := by decide +kernel
theorem dX1_thousandths_51 : decode cX1_thousandths 51 = .ok (.lload_n 2, 1) := by decide +kernel
theorem dX1_thousandths_52 : decode cX1_thousandths 52 = .ok (.ldiv, 1) := by decide +kernel
theorem dX1_thousandths_53 : decode cX1_thousandths 53 = .ok (.lreturn, 1) := by decide +kernel
theorem dX1_loadOf_0 : decode cX1_loadOf 0 = .ok (.aload_n 0, 1) := by decide +kernel
theorem dX1_loadOf_1 : decode cX1_loadOf 1 = .ok (.getfield 63, 3) := by decide +kernel
theorem dX1_loadOf_4 : decode cX1_loadOf 4 = .ok (.iload_n 1, 1) := by decide +kernel
theorem dX1_loadOf_5 : decode cX1_loadOf 5 = .ok (.invokestatic 118, 3) := by decide +kernel
theorem dX1_loadOf_8 : decode cX1_loadOf 8 = .ok (.laload, 1) := by decide +kernel
theorem dX1_loadOf_9 : decode cX1_loadOf 9 = .ok (.lstore_n 2, 1) := by decide +kernel
theorem dX1_loadOf_10 : decode cX1_loadOf 10 = .ok (.lload_n 2, 1) := by decide +kernel
theorem dX1_loadOf_11 : decode cX1_loadOf 11 = .ok (.lconst 0, 1) := by decide +kernel
theorem dX1_loadOf_12 : decode cX1_loadOf 12 = .ok (.lcmp, 1) := by decide +kernel
theorem dX1_loadOf_13 : decode cX1_loadOf 13 = .ok (.ifCond .ne 7, 3) := by decide +kernel
theorem dX1_loadOf_16 : decode cX1_loadOf 16 = .ok (.iconst 0, 1) := by decide +kernel
theorem dX1_loadOf_17 : decode cX1_loadOf 17 = .ok (.goto 15, 3) := by decide +kernel
theorem dX1_loadOf_20 : decode cX1_loadOf 20 = .ok (.aload_n 0, 1) := by decide +kernel
theorem dX1_loadOf_21 : decode cX1_loadOf 21 = .ok (.iload_n 1, 1) := by decide +kernel
theorem dX1_loadOf_22 : decode cX1_loadOf 22 = .ok (.invokevirtual 126, 3) := by decide +kernel
theorem dX1_loadOf_25 : decode cX1_loadOf 25 = .ok (.lload_n 2, 1) := by decide +kernel
theorem dX1_loadOf_26 : decode cX1_loadOf 26 = .ok (.ldc2_w 116, 3) := by decide +kernel
theorem dX1_loadOf_29 : decode cX1_loadOf 29 = .ok (.lmul, 1) := by decide +kernel
theorem dX1_loadOf_30 : decode cX1_loadOf 30 = .ok (.ldiv, 1) := by decide +kernel
theorem dX1_loadOf_31 : decode cX1_loadOf 31 = .ok (.l2i, 1) := by decide +kernel
theorem dX1_loadOf_32 : decode cX1_loadOf 32 = .ok (.ireturn, 1) := by decide +kernel
theorem dX1_look_0 : decode cX1_look 0 = .ok (.aload_n 0, 1) := by decide +kernel
theorem dX1_look_1 : decode cX1_look 1 = .ok (.getfield 44, 3) := by decide +kernel
theorem dX1_look_4 : decode cX1_look 4 = .ok (.iload_n 1, 1) := by decide +kernel
theorem dX1_look_5 : decode cX1_look 5 = .ok (.iconst (-1), 1) := by decide +kernel
theorem dX1_look_6 : decode cX1_look 6 = .ok (.iastore, 1) := by decide +kernel
theorem dX1_look_7 : decode cX1_look 7 = .ok (.aload_n 0, 1) := by decide +kernel
theorem dX1_look_8 : decode cX1_look 8 = .ok (.getfield 47, 3) := by decide +kernel
theorem dX1_look_11 : decode cX1_look 11 = .ok (.iload_n 1, 1) := by decide +kernel
theorem dX1_look_12 : decode cX1_look 12 = .ok (.ldc2_w 130, 3) := by decide +kernel
theorem dX1_look_15 : decode cX1_look 15 = .ok (.lastore, 1) := by decide +kernel
theorem dX1_look_16 : decode cX1_look 16 = .ok (.aload_n 0, 1) := by decide +kernel
theorem dX1_look_17 : decode cX1_look 17 = .ok (.iload_n 1, 1) := by decide +kernel
theorem dX1_look_18 : decode cX1_look 18 = .ok (.aload_n 0, 1) := by decide +kernel
theorem dX1_look_19 : decode cX1_look 19 = .ok (.getfield 41, 3) := by decide +kernel
theorem dX1_look_22 : decode cX1_look 22 = .ok (.iload_n 1, 1) := by decide +kernel
theorem dX1_look_23 : decode cX1_look 23 = .ok (.iaload, 1) := by decide +kernel
theorem dX1_look_24 : decode cX1_look 24 = .ok (.invokevirtual 132, 3) := by decide +kernel
theorem dX1_look_27 : decode cX1_look 27 = .ok (.ifCond .ne 9, 3) := by decide +kernel
theorem dX1_look_30 : decode cX1_look 30 = .ok (.aload_n 0, 1) := by decide +kernel
theorem dX1_look_31 : decode cX1_look 31 = .ok (.iload_n 1, 1) := by decide +kernel
theorem dX1_look_32 : decode cX1_look 32 = .ok (.putfield 22, 3) := by decide +kernel
theorem dX1_look_35 : decode cX1_look 35 = .ok (.return_, 1) := by decide +kernel
theorem dX1_look_36 : decode cX1_look 36 = .ok (.iload_n 1, 1) := by decide +kernel
theorem dX1_look_37 : decode cX1_look 37 = .ok (.bipush 8, 2) := by decide +kernel
theorem dX1_look_39 : decode cX1_look 39 = .ok (.imul, 1) := by decide +kernel
theorem dX1_look_40 : decode cX1_look 40 = .ok (.istore_n 2, 1) := by decide +kernel
theorem dX1_look_41 : decode cX1_look 41 = .ok (.iconst 0, 1) := by decide +kernel
theorem dX1_look_42 : decode cX1_look 42 = .ok (.istore_n 3, 1) := by decide +kernel
theorem dX1_look_43 : decode cX1_look 43 = .ok (.iload_n 3, 1) := by decide +kernel
theorem dX1_look_44 : decode cX1_look 44 = .ok (.bipush 8, 2) := by decide +kernel
theorem dX1_look_46 : decode cX1_look 46 = .ok (.if_icmp .ge 126, 3) := by decide +kernel
theorem dX1_look_49 : decode cX1_look 49 = .ok (.iload_n 2, 1) := by decide +kernel
theorem dX1_look_50 : decode cX1_look 50 = .ok (.iload_n 3, 1) := by decide +kernel
theorem dX1_look_51 : decode cX1_look 51 = .ok (.iadd, 1) := by decide +kernel
theorem dX1_look_52 : decode cX1_look 52 = .ok (.istore 4, 2) := by decide +kernel
theorem dX1_look_54 : decode cX1_look 54 = .ok (.aload_n 0, 1) := by decide +kernel
theorem dX1_look_55 : decode cX1_look 55 = .ok (.getfield 63, 3) := by decide +kernel
theorem dX1_look_58 : decode cX1_look 58 = .ok (.iload_n 3, 1) := by decide +kernel
theorem dX1_look_59 : decode cX1_look 59 = .ok (.iconst 2, 1) := by decide +kernel
theorem dX1_look_60 : decode cX1_look 60 = .ok (.idiv, 1) := by decide +kernel
theorem dX1_look_61 : decode cX1_look 61 = .ok (.laload, 1) := by decide +kernel
theorem dX1_look_62 : decode cX1_look 62 = .ok (.lstore 5, 2) := by decide +kernel
theorem dX1_look_64 : decode cX1_look 64 = .ok (.aload_n 0, 1) := by decide +kernel
theorem dX1_look_65 : decode cX1_look 65 = .ok (.getfield 41, 3) := by decide +kernel
theorem dX1_look_68 : decode cX1_look 68 = .ok (.iload_n 1, 1) := by decide +kernel
theorem dX1_look_69 : decode cX1_look 69 = .ok (.iaload, 1) := by decide +kernel
theorem dX1_look_70 : decode cX1_look 70 = .ok (.iload_n 3, 1) := by decide +kernel
theorem dX1_look_71 : decode cX1_look 71 = .ok (.iushr, 1) := by decide +kernel
theorem dX1_look_72 : decode cX1_look 72 = .ok (.iconst 1, 1) := by decide +kernel
theorem dX1_look_73 : decode cX1_look 73 = .ok (.iand, 1) := by decide +kernel
theorem dX1_look_74 : decode cX1_look 74 = .ok (.ifCond .ne 92, 3) := by decide +kernel
theorem dX1_look_77 : decode cX1_look 77 = .ok (.lload 5, 2) := by decide +kernel
theorem dX1_look_79 : decode cX1_look 79 = .ok (.lconst 0, 1) := by decide +kernel
theorem dX1_look_80 : decode cX1_look 80 = .ok (.lcmp, 1) := by decide +kernel
theorem dX1_look_81 : decode cX1_look 81 = .ok (.ifCond .ne 6, 3) := by decide +kernel
theorem dX1_look_84 : decode cX1_look 84 = .ok (.goto 82, 3) := by decide +kernel
theorem dX1_look_87 : decode cX1_look 87 = .ok (.ldc2_w 116, 3) := by decide +kernel
theorem dX1_look_90 : decode cX1_look 90 = .ok (.aload_n 0, 1) := by decide +kernel
theorem dX1_look_91 : decode cX1_look 91 = .ok (.getfield 66, 3) := by decide +kernel
theorem dX1_look_94 : decode cX1_look 94 = .ok (.getfield 121, 3) := by decide +kernel
theorem dX1_look_97 : decode cX1_look 97 = .ok (.iload_n 1, 1) := by decide +kernel
theorem dX1_look_98 : decode cX1_look 98 = .ok (.iaload, 1) := by decide +kernel
theorem dX1_look_99 : decode cX1_look 99 = .ok (.aload_n 0, 1) := by decide +kernel
theorem dX1_look_100 : decode cX1_look 100 = .ok (.getfield 9, 3) := by decide +kernel
theorem dX1_look_103 : decode cX1_look 103 = .ok (.iload 4, 2) := by decide +kernel
theorem dX1_look_105 : decode cX1_look 105 = .ok (.iaload, 1) := by decide +kernel
theorem dX1_look_106 : decode cX1_look 106 = .ok (.iadd, 1) := by decide +kernel
theorem dX1_look_107 : decode cX1_look 107 = .ok (.i2l, 1) := by decide +kernel
theorem dX1_look_108 : decode cX1_look 108 = .ok (.lmul, 1) := by decide +kernel
theorem dX1_look_109 : decode cX1_look 109 = .ok (.lstore 7, 2) := by decide +kernel
theorem dX1_look_111 : decode cX1_look 111 = .ok (.aload_n 0, 1) := by decide +kernel
theorem dX1_look_112 : decode cX1_look 112 = .ok (.iload 4, 2) := by decide +kernel
theorem dX1_look_114 : decode cX1_look 114 = .ok (.invokevirtual 126, 3) := by decide +kernel
theorem dX1_look_117 : decode cX1_look 117 = .ok (.lload 7, 2) := by decide +kernel
theorem dX1_look_119 : decode cX1_look 119 = .ok (.lload 5, 2) := by decide +kernel
theorem dX1_look_121 : decode cX1_look 121 = .ok (.lmul, 1) := by decide +kernel
theorem dX1_look_122 : decode cX1_look 122 = .ok (.lsub, 1) := by decide +kernel
theorem dX1_look_123 : decode cX1_look 123 = .ok (.lstore 9, 2) := by decide +kernel
theorem dX1_look_125 : decode cX1_look 125 = .ok (.lload 9, 2) := by decide +kernel
theorem dX1_look_127 : decode cX1_look 127 = .ok (.lconst 0, 1) := by decide +kernel
theorem dX1_look_128 : decode cX1_look 128 = .ok (.lcmp, 1) := by decide +kernel
theorem dX1_look_129 : decode cX1_look 129 = .ok (.ifCond .le 37, 3) := by decide +kernel
theorem dX1_look_132 : decode cX1_look 132 = .ok (.lload 9, 2) := by decide +kernel
theorem dX1_look_134 : decode cX1_look 134 = .ok (.lload 5, 2) := by decide +kernel
theorem dX1_look_136 : decode cX1_look 136 = .ok (.ldiv, 1) := by decide +kernel
theorem dX1_look_137 : decode cX1_look 137 = .ok (.aload_n 0, 1) := by decide +kernel
theorem dX1_look_138 : decode cX1_look 138 = .ok (.getfield 47, 3) := by decide +kernel
theorem dX1_look_141 : decode cX1_look 141 = .ok (.iload_n 1, 1) := by decide +kernel
theorem dX1_look_142 : decode cX1_look 142 = .ok (.laload, 1) := by decide +kernel
theorem dX1_look_143 : decode cX1_look 143 = .ok (.lcmp, 1) := by decide +kernel
theorem dX1_look_144 : decode cX1_look 144 = .ok (.ifCond .le 22, 3) := by decide +kernel
theorem dX1_look_147 : decode cX1_look 147 = .ok (.aload_n 0, 1) := by decide +kernel
theorem dX1_look_148 : decode cX1_look 148 = .ok (.getfield 44, 3) := by decide +kernel
theorem dX1_look_151 : decode cX1_look 151 = .ok (.iload_n 1, 1) := by decide +kernel
theorem dX1_look_152 : decode cX1_look 152 = .ok (.iload 4, 2) := by decide +kernel
theorem dX1_look_154 : decode cX1_look 154 = .ok (.iastore, 1) := by decide +kernel
theorem dX1_look_155 : decode cX1_look 155 = .ok (.aload_n 0, 1) := by decide +kernel
theorem dX1_look_156 : decode cX1_look 156 = .ok (.getfield 47, 3) := by decide +kernel
theorem dX1_look_159 : decode cX1_look 159 = .ok (.iload_n 1, 1) := by decide +kernel
theorem dX1_look_160 : decode cX1_look 160 = .ok (.lload 9, 2) := by decide +kernel
theorem dX1_look_162 : decode cX1_look 162 = .ok (.lload 5, 2) := by decide +kernel
theorem dX1_look_164 : decode cX1_look 164 = .ok (.ldiv, 1) := by decide +kernel
theorem dX1_look_165 : decode cX1_look 165 = .ok (.lastore, 1) := by decide +kernel
theorem dX1_look_166 : decode cX1_look 166 = .ok (.iinc 3 1, 3) := by decide +kernel
theorem dX1_look_169 : decode cX1_look 169 = .ok (.goto (-126), 3) := by decide +kernel
theorem dX1_look_172 : decode cX1_look 172 = .ok (.return_, 1) := by decide +kernel
theorem dX1_breakUp_0 : decode cX1_breakUp 0 = .ok (.aload_n 0, 1) := by decide +kernel
theorem dX1_breakUp_1 : decode cX1_breakUp 1 = .ok (.iload_n 1, 1) := by decide +kernel
theorem dX1_breakUp_2 : decode cX1_breakUp 2 = .ok (.iload_n 2, 1) := by decide +kernel
theorem dX1_breakUp_3 : decode cX1_breakUp 3 = .ok (.invokevirtual 136, 3) := by decide +kernel
theorem dX1_breakUp_6 : decode cX1_breakUp 6 = .ok (.aload_n 0, 1) := by decide +kernel
theorem dX1_breakUp_7 : decode cX1_breakUp 7 = .ok (.iconst 0, 1) := by decide +kernel
theorem dX1_breakUp_8 : decode cX1_breakUp 8 = .ok (.putfield 18, 3) := by decide +kernel
theorem dX1_breakUp_11 : decode cX1_breakUp 11 = .ok (.aload_n 0, 1) := by decide +kernel
theorem dX1_breakUp_12 : decode cX1_breakUp 12 = .ok (.iconst (-1), 1) := by decide +kernel
theorem dX1_breakUp_13 : decode cX1_breakUp 13 = .ok (.putfield 22, 3) := by decide +kernel
theorem dX1_breakUp_16 : decode cX1_breakUp 16 = .ok (.iconst 0, 1) := by decide +kernel
theorem dX1_breakUp_17 : decode cX1_breakUp 17 = .ok (.istore_n 3, 1) := by decide +kernel
theorem dX1_breakUp_18 : decode cX1_breakUp 18 = .ok (.iload_n 3, 1) := by decide +kernel
theorem dX1_breakUp_19 : decode cX1_breakUp 19 = .ok (.bipush 6, 2) := by decide +kernel
theorem dX1_breakUp_21 : decode cX1_breakUp 21 = .ok (.if_icmp .ge 21, 3) := by decide +kernel
theorem dX1_breakUp_24 : decode cX1_breakUp 24 = .ok (.aload_n 0, 1) := by decide +kernel
theorem dX1_breakUp_25 : decode cX1_breakUp 25 = .ok (.getfield 41, 3) := by decide +kernel
theorem dX1_breakUp_28 : decode cX1_breakUp 28 = .ok (.iload_n 3, 1) := by decide +kernel
theorem dX1_breakUp_29 : decode cX1_breakUp 29 = .ok (.iconst 0, 1) := by decide +kernel
theorem dX1_breakUp_30 : decode cX1_breakUp 30 = .ok (.iastore, 1) := by decide +kernel
theorem dX1_breakUp_31 : decode cX1_breakUp 31 = .ok (.aload_n 0, 1) := by decide +kernel
theorem dX1_breakUp_32 : decode cX1_breakUp 32 = .ok (.iload_n 3, 1) := by decide +kernel
theorem dX1_breakUp_33 : decode cX1_breakUp 33 = .ok (.invokevirtual 139, 3) := by decide +kernel
theorem dX1_breakUp_36 : decode cX1_breakUp 36 = .ok (.iinc 3 1, 3) := by decide +kernel
theorem dX1_breakUp_39 : decode cX1_breakUp 39 = .ok (.goto (-21), 3) := by decide +kernel
theorem dX1_breakUp_42 : decode cX1_breakUp 42 = .ok (.aload_n 0, 1) := by decide +kernel
theorem dX1_breakUp_43 : decode cX1_breakUp 43 = .ok (.getfield 22, 3) := by decide +kernel
theorem dX1_breakUp_46 : decode cX1_breakUp 46 = .ok (.iconst (-1), 1) := by decide +kernel
theorem dX1_breakUp_47 : decode cX1_breakUp 47 = .ok (.if_icmp .ne 74, 3) := by decide +kernel
theorem dX1_breakUp_50 : decode cX1_breakUp 50 = .ok (.aload_n 0, 1) := by decide +kernel
theorem dX1_breakUp_51 : decode cX1_breakUp 51 = .ok (.getfield 18, 3) := by decide +kernel
theorem dX1_breakUp_54 : decode cX1_breakUp 54 = .ok (.bipush 48, 2) := by decide +kernel
theorem dX1_breakUp_56 : decode cX1_breakUp 56 = .ok (.if_icmp .ge 65, 3) := by decide +kernel
theorem dX1_breakUp_59 : decode cX1_breakUp 59 = .ok (.aload_n 0, 1) := by decide +kernel
theorem dX1_breakUp_60 : decode cX1_breakUp 60 = .ok (.invokevirtual 142, 3) := by decide +kernel
theorem dX1_breakUp_63 : decode cX1_breakUp 63 = .ok (.istore_n 3, 1) := by decide +kernel
theorem dX1_breakUp_64 : decode cX1_breakUp 64 = .ok (.iload_n 3, 1) := by decide +kernel
theorem dX1_breakUp_65 : decode cX1_breakUp 65 = .ok (.iconst (-1), 1) := by decide +kernel
theorem dX1_breakUp_66 : decode cX1_breakUp 66 = .ok (.if_icmp .ne 4, 3) := by decide +kernel
theorem dX1_breakUp_69 : decode cX1_breakUp 69 = .ok (.return_, 1) := by decide +kernel
theorem dX1_breakUp_70 : decode cX1_breakUp 70 = .ok (.aload_n 0, 1) := by decide +kernel
theorem dX1_breakUp_71 : decode cX1_breakUp 71 = .ok (.getfield 15, 3) := by decide +kernel
theorem dX1_breakUp_74 : decode cX1_breakUp 74 = .ok (.aload_n 0, 1) := by decide +kernel
theorem dX1_breakUp_75 : decode cX1_breakUp 75 = .ok (.getfield 18, 3) := by decide +kernel
theorem dX1_breakUp_78 : decode cX1_breakUp 78 = .ok (.iload_n 3, 1) := by decide +kernel
theorem dX1_breakUp_79 : decode cX1_breakUp 79 = .ok (.iastore, 1) := by decide +kernel
theorem dX1_breakUp_80 : decode cX1_breakUp 80 = .ok (.aload_n 0, 1) := by decide +kernel
theorem dX1_breakUp_81 : decode cX1_breakUp 81 = .ok (.dup, 1) := by decide +kernel
theorem dX1_breakUp_82 : decode cX1_breakUp 82 = .ok (.getfield 18, 3) := by decide +kernel
theorem dX1_breakUp_85 : decode cX1_breakUp 85 = .ok (.iconst 1, 1) := by decide +kernel
theorem dX1_breakUp_86 : decode cX1_breakUp 86 = .ok (.iadd, 1) := by decide +kernel
theorem dX1_breakUp_87 : decode cX1_breakUp 87 = .ok (.putfield 18, 3) := by decide +kernel
theorem dX1_breakUp_90 : decode cX1_breakUp 90 = .ok (.iload_n 3, 1) := by decide +kernel
theorem dX1_breakUp_91 : decode cX1_breakUp 91 = .ok (.bipush 8, 2) := by decide +kernel
theorem dX1_breakUp_93 : decode cX1_breakUp 93 = .ok (.idiv, 1) := by decide +kernel
theorem dX1_breakUp_94 : decode cX1_breakUp 94 = .ok (.istore 4, 2) := by decide +kernel
theorem dX1_breakUp_96 : decode cX1_breakUp 96 = .ok (.aload_n 0, 1) := by decide +kernel
theorem dX1_breakUp_97 : decode cX1_breakUp 97 = .ok (.getfield 41, 3) := by decide +kernel
theorem dX1_breakUp_100 : decode cX1_breakUp 100 = .ok (.iload 4, 2) := by decide +kernel
theorem dX1_breakUp_102 : decode cX1_breakUp 102 = .ok (.dup2, 1) := by decide +kernel
theorem dX1_breakUp_103 : decode cX1_breakUp 103 = .ok (.iaload, 1) := by decide +kernel
theorem dX1_breakUp_104 : decode cX1_breakUp 104 = .ok (.iconst 1, 1) := by decide +kernel
theorem dX1_breakUp_105 : decode cX1_breakUp 105 = .ok (.iload_n 3, 1) := by decide +kernel
theorem dX1_breakUp_106 : decode cX1_breakUp 106 = .ok (.bipush 8, 2) := by decide +kernel
theorem dX1_breakUp_108 : decode cX1_breakUp 108 = .ok (.irem, 1) := by decide +kernel
theorem dX1_breakUp_109 : decode cX1_breakUp 109 = .ok (.ishl, 1) := by decide +kernel
theorem dX1_breakUp_110 : decode cX1_breakUp 110 = .ok (.ior, 1) := by decide +kernel
theorem dX1_breakUp_111 : decode cX1_breakUp 111 = .ok (.iastore, 1) := by decide +kernel
theorem dX1_breakUp_112 : decode cX1_breakUp 112 = .ok (.aload_n 0, 1) := by decide +kernel
theorem dX1_breakUp_113 : decode cX1_breakUp 113 = .ok (.iload 4, 2) := by decide +kernel
theorem dX1_breakUp_115 : decode cX1_breakUp 115 = .ok (.invokevirtual 139, 3) := by decide +kernel
theorem dX1_breakUp_118 : decode cX1_breakUp 118 = .ok (.goto (-76), 3) := by decide +kernel
theorem dX1_breakUp_121 : decode cX1_breakUp 121 = .ok (.return_, 1) := by decide +kernel
theorem dX1_worstOfAll_0 : decode cX1_worstOfAll 0 = .ok (.iconst (-1), 1) := by decide +kernel
theorem dX1_worstOfAll_1 : decode cX1_worstOfAll 1 = .ok (.istore_n 1, 1) := by decide +kernel
theorem dX1_worstOfAll_2 : decode cX1_worstOfAll 2 = .ok (.ldc2_w 130, 3) := by decide +kernel
theorem dX1_worstOfAll_5 : decode cX1_worstOfAll 5 = .ok (.lstore_n 2, 1) := by decide +kernel
theorem dX1_worstOfAll_6 : decode cX1_worstOfAll 6 = .ok (.iconst 0, 1) := by decide +kernel
theorem dX1_worstOfAll_7 : decode cX1_worstOfAll 7 = .ok (.istore 4, 2) := by decide +kernel
theorem dX1_worstOfAll_9 : decode cX1_worstOfAll 9 = .ok (.iload 4, 2) := by decide +kernel
theorem dX1_worstOfAll_11 : decode cX1_worstOfAll 11 = .ok (.bipush 6, 2) := by decide +kernel
theorem dX1_worstOfAll_13 : decode cX1_worstOfAll 13 = .ok (.if_icmp .ge 37, 3) := by decide +kernel
theorem dX1_worstOfAll_16 : decode cX1_worstOfAll 16 = .ok (.aload_n 0, 1) := by decide +kernel
theorem dX1_worstOfAll_17 : decode cX1_worstOfAll 17 = .ok (.getfield 47, 3) := by decide +kernel
theorem dX1_worstOfAll_20 : decode cX1_worstOfAll 20 = .ok (.iload 4, 2) := by decide +kernel
theorem dX1_worstOfAll_22 : decode cX1_worstOfAll 22 = .ok (.laload, 1) := by decide +kernel
theorem dX1_worstOfAll_23 : decode cX1_worstOfAll 23 = .ok (.lload_n 2, 1) := by decide +kernel
theorem dX1_worstOfAll_24 : decode cX1_worstOfAll 24 = .ok (.lcmp, 1) := by decide +kernel
theorem dX1_worstOfAll_25 : decode cX1_worstOfAll 25 = .ok (.ifCond .le 19, 3) := by decide +kernel
theorem dX1_worstOfAll_28 : decode cX1_worstOfAll 28 = .ok (.aload_n 0, 1) := by decide +kernel
theorem dX1_worstOfAll_29 : decode cX1_worstOfAll 29 = .ok (.getfield 47, 3) := by decide +kernel
theorem dX1_worstOfAll_32 : decode cX1_worstOfAll 32 = .ok (.iload 4, 2) := by decide +kernel
theorem dX1_worstOfAll_34 : decode cX1_worstOfAll 34 = .ok (.laload, 1) := by decide +kernel
theorem dX1_worstOfAll_35 : decode cX1_worstOfAll 35 = .ok (.lstore_n 2, 1) := by decide +kernel
theorem dX1_worstOfAll_36 : decode cX1_worstOfAll 36 = .ok (.aload_n 0, 1) := by decide +kernel
theorem dX1_worstOfAll_37 : decode cX1_worstOfAll 37 = .ok (.getfield 44, 3) := by decide +kernel
theorem dX1_worstOfAll_40 : decode cX1_worstOfAll 40 = .ok (.iload 4, 2) := by decide +kernel
theorem dX1_worstOfAll_42 : decode cX1_worstOfAll 42 = .ok (.iaload, 1) := by decide +kernel
theorem dX1_worstOfAll_43 : decode cX1_worstOfAll 43 = .ok (.istore_n 1, 1) := by decide +kernel
theorem dX1_worstOfAll_44 : decode cX1_worstOfAll 44 = .ok (.iinc 4 1, 3) := by decide +kernel
theorem dX1_worstOfAll_47 : decode cX1_worstOfAll 47 = .ok (.goto (-38), 3) := by decide +kernel
theorem dX1_worstOfAll_50 : decode cX1_worstOfAll 50 = .ok (.iload_n 1, 1) := by decide +kernel
theorem dX1_worstOfAll_51 : decode cX1_worstOfAll 51 = .ok (.ireturn, 1) := by decide +kernel
theorem dX1_fallsOf_0 : decode cX1_fallsOf 0 = .ok (.iconst 0, 1) := by decide +kernel
theorem dX1_fallsOf_1 : decode cX1_fallsOf 1 = .ok (.istore_n 3, 1) := by decide +kernel
theorem dX1_fallsOf_2 : decode cX1_fallsOf 2 = .ok (.iconst 0, 1) := by decide +kernel
theorem dX1_fallsOf_3 : decode cX1_fallsOf 3 = .ok (.istore 4, 2) := by decide +kernel
theorem dX1_fallsOf_5 : decode cX1_fallsOf 5 = .ok (.iload 4, 2) := by decide +kernel
theorem dX1_fallsOf_7 : decode cX1_fallsOf 7 = .ok (.iconst 2, 1) := by decide +kernel
theorem dX1_fallsOf_8 : decode cX1_fallsOf 8 = .ok (.aload_n 0, 1) := by decide +kernel
theorem dX1_fallsOf_9 : decode cX1_fallsOf 9 = .ok (.getfield 66, 3) := by decide +kernel
theorem dX1_fallsOf_12 : decode cX1_fallsOf 12 = .ok (.getfield 87, 3) := by decide +kernel
theorem dX1_fallsOf_15 : decode cX1_fallsOf 15 = .ok (.getfield 146, 3) := by decide +kernel
theorem dX1_fallsOf_18 : decode cX1_fallsOf 18 = .ok (.imul, 1) := by decide +kernel
theorem dX1_fallsOf_19 : decode cX1_fallsOf 19 = .ok (.if_icmp .ge 120, 3) := by decide +kernel
theorem dX1_fallsOf_22 : decode cX1_fallsOf 22 = .ok (.iload_n 2, 1) := by decide +kernel
theorem dX1_fallsOf_23 : decode cX1_fallsOf 23 = .ok (.iload 4, 2) := by decide +kernel
theorem dX1_fallsOf_25 : decode cX1_fallsOf 25 = .ok (.iushr, 1) := by decide +kernel
theorem dX1_fallsOf_26 : decode cX1_fallsOf 26 = .ok (.iconst 1, 1) := by decide +kernel
theorem dX1_fallsOf_27 : decode cX1_fallsOf 27 = .ok (.iand, 1) := by decide +kernel
theorem dX1_fallsOf_28 : decode cX1_fallsOf 28 = .ok (.ifCond .ne 6, 3) := by decide +kernel
theorem dX1_fallsOf_31 : decode cX1_fallsOf 31 = .ok (.goto 102, 3) := by decide +kernel
theorem dX1_fallsOf_34 : decode cX1_fallsOf 34 = .ok (.aload_n 0, 1) := by decide +kernel
theorem dX1_fallsOf_35 : decode cX1_fallsOf 35 = .ok (.iload 4, 2) := by decide +kernel
theorem dX1_fallsOf_37 : decode cX1_fallsOf 37 = .ok (.iconst 2, 1) := by decide +kernel
theorem dX1_fallsOf_38 : decode cX1_fallsOf 38 = .ok (.idiv, 1) := by decide +kernel
theorem dX1_fallsOf_39 : decode cX1_fallsOf 39 = .ok (.iload 4, 2) := by decide +kernel
theorem dX1_fallsOf_41 : decode cX1_fallsOf 41 = .ok (.iconst 2, 1) := by decide +kernel
theorem dX1_fallsOf_42 : decode cX1_fallsOf 42 = .ok (.irem, 1) := by decide +kernel
theorem dX1_fallsOf_43 : decode cX1_fallsOf 43 = .ok (.invokevirtual 136, 3) := by decide +kernel
theorem dX1_fallsOf_46 : decode cX1_fallsOf 46 = .ok (.aload_n 0, 1) := by decide +kernel
theorem dX1_fallsOf_47 : decode cX1_fallsOf 47 = .ok (.iconst (-1), 1) := by decide +kernel
theorem dX1_fallsOf_48 : decode cX1_fallsOf 48 = .ok (.putfield 22, 3) := by decide +kernel
theorem dX1_fallsOf_51 : decode cX1_fallsOf 51 = .ok (.aload_n 0, 1) := by decide +kernel
theorem dX1_fallsOf_52 : decode cX1_fallsOf 52 = .ok (.getfield 41, 3) := by decide +kernel
theorem dX1_fallsOf_55 : decode cX1_fallsOf 55 = .ok (.iload_n 1, 1) := by decide +kernel
theorem dX1_fallsOf_56 : decode cX1_fallsOf 56 = .ok (.iconst 0, 1) := by decide +kernel
theorem dX1_fallsOf_57 : decode cX1_fallsOf 57 = .ok (.iastore, 1) := by decide +kernel
theorem dX1_fallsOf_58 : decode cX1_fallsOf 58 = .ok (.aload_n 0, 1) := by decide +kernel
theorem dX1_fallsOf_59 : decode cX1_fallsOf 59 = .ok (.iload_n 1, 1) := by decide +kernel
theorem dX1_fallsOf_60 : decode cX1_fallsOf 60 = .ok (.invokevirtual 139, 3) := by decide +kernel
theorem dX1_fallsOf_63 : decode cX1_fallsOf 63 = .ok (.iconst 0, 1) := by decide +kernel
theorem dX1_fallsOf_64 : decode cX1_fallsOf 64 = .ok (.istore 5, 2) := by decide +kernel
theorem dX1_fallsOf_66 : decode cX1_fallsOf 66 = .ok (.iload 5, 2) := by decide +kernel
theorem dX1_fallsOf_68 : decode cX1_fallsOf 68 = .ok (.bipush 8, 2) := by decide +kernel
theorem dX1_fallsOf_70 : decode cX1_fallsOf 70 = .ok (.if_icmp .ge 44, 3) := by decide +kernel
theorem dX1_fallsOf_73 : decode cX1_fallsOf 73 = .ok (.aload_n 0, 1) := by decide +kernel
theorem dX1_fallsOf_74 : decode cX1_fallsOf 74 = .ok (.getfield 44, 3) := by decide +kernel
theorem dX1_fallsOf_77 : decode cX1_fallsOf 77 = .ok (.iload_n 1, 1) := by decide +kernel
theorem dX1_fallsOf_78 : decode cX1_fallsOf 78 = .ok (.iaload, 1) := by decide +kernel
theorem dX1_fallsOf_79 : decode cX1_fallsOf 79 = .ok (.iconst (-1), 1) := by decide +kernel
theorem dX1_fallsOf_80 : decode cX1_fallsOf 80 = .ok (.if_icmp .eq 34, 3) := by decide +kernel
theorem dX1_fallsOf_83 : decode cX1_fallsOf 83 = .ok (.aload_n 0, 1) := by decide +kernel
theorem dX1_fallsOf_84 : decode cX1_fallsOf 84 = .ok (.getfield 41, 3) := by decide +kernel
theorem dX1_fallsOf_87 : decode cX1_fallsOf 87 = .ok (.iload_n 1, 1) := by decide +kernel
theorem dX1_fallsOf_88 : decode cX1_fallsOf 88 = .ok (.dup2, 1) := by decide +kernel
theorem dX1_fallsOf_89 : decode cX1_fallsOf 89 = .ok (.iaload, 1) := by decide +kernel
theorem dX1_fallsOf_90 : decode cX1_fallsOf 90 = .ok (.iconst 1, 1) := by decide +kernel
theorem dX1_fallsOf_91 : decode cX1_fallsOf 91 = .ok (.aload_n 0, 1) := by decide +kernel
theorem dX1_fallsOf_92 : decode cX1_fallsOf 92 = .ok (.getfield 44, 3) := by decide +kernel
theorem dX1_fallsOf_95 : decode cX1_fallsOf 95 = .ok (.iload_n 1, 1) := by decide +kernel
theorem dX1_fallsOf_96 : decode cX1_fallsOf 96 = .ok (.iaload, 1) := by decide +kernel
theorem dX1_fallsOf_97 : decode cX1_fallsOf 97 = .ok (.bipush 8, 2) := by decide +kernel
theorem dX1_fallsOf_99 : decode cX1_fallsOf 99 = .ok (.irem, 1) := by decide +kernel
theorem dX1_fallsOf_100 : decode cX1_fallsOf 100 = .ok (.ishl, 1) := by decide +kernel
theorem dX1_fallsOf_101 : decode cX1_fallsOf 101 = .ok (.ior, 1) := by decide +kernel
theorem dX1_fallsOf_102 : decode cX1_fallsOf 102 = .ok (.iastore, 1) := by decide +kernel
theorem dX1_fallsOf_103 : decode cX1_fallsOf 103 = .ok (.aload_n 0, 1) := by decide +kernel
theorem dX1_fallsOf_104 : decode cX1_fallsOf 104 = .ok (.iload_n 1, 1) := by decide +kernel
theorem dX1_fallsOf_105 : decode cX1_fallsOf 105 = .ok (.invokevirtual 139, 3) := by decide +kernel
theorem dX1_fallsOf_108 : decode cX1_fallsOf 108 = .ok (.iinc 5 1, 3) := by decide +kernel
theorem dX1_fallsOf_111 : decode cX1_fallsOf 111 = .ok (.goto (-45), 3) := by decide +kernel
theorem dX1_fallsOf_114 : decode cX1_fallsOf 114 = .ok (.iload_n 3, 1) := by decide +kernel
theorem dX1_fallsOf_115 : decode cX1_fallsOf 115 = .ok (.aload_n 0, 1) := by decide +kernel
theorem dX1_fallsOf_116 : decode cX1_fallsOf 116 = .ok (.getfield 22, 3) := by decide +kernel
theorem dX1_fallsOf_119 : decode cX1_fallsOf 119 = .ok (.iconst (-1), 1) := by decide +kernel
theorem dX1_fallsOf_120 : decode cX1_fallsOf 120 = .ok (.if_icmp .ne 7, 3) := by decide +kernel
theorem dX1_fallsOf_123 : decode cX1_fallsOf 123 = .ok (.iconst 0, 1) := by decide +kernel
theorem dX1_fallsOf_124 : decode cX1_fallsOf 124 = .ok (.goto 7, 3) := by decide +kernel
theorem dX1_fallsOf_127 : decode cX1_fallsOf 127 = .ok (.iconst 1, 1) := by decide +kernel
theorem dX1_fallsOf_128 : decode cX1_fallsOf 128 = .ok (.iload 4, 2) := by decide +kernel
theorem dX1_fallsOf_130 : decode cX1_fallsOf 130 = .ok (.ishl, 1) := by decide +kernel
theorem dX1_fallsOf_131 : decode cX1_fallsOf 131 = .ok (.ior, 1) := by decide +kernel
theorem dX1_fallsOf_132 : decode cX1_fallsOf 132 = .ok (.istore_n 3, 1) := by decide +kernel
theorem dX1_fallsOf_133 : decode cX1_fallsOf 133 = .ok (.iinc 4 1, 3) := by decide +kernel
theorem dX1_fallsOf_136 : decode cX1_fallsOf 136 = .ok (.goto (-131), 3) := by decide +kernel
theorem dX1_fallsOf_139 : decode cX1_fallsOf 139 = .ok (.iload_n 3, 1) := by decide +kernel
theorem dX1_fallsOf_140 : decode cX1_fallsOf 140 = .ok (.ireturn, 1) := by decide +kernel
theorem dX1_fallsOfAll_0 : decode cX1_fallsOfAll 0 = .ok (.iconst 0, 1) := by decide +kernel
theorem dX1_fallsOfAll_1 : decode cX1_fallsOfAll 1 = .ok (.istore_n 2, 1) := by decide +kernel
theorem dX1_fallsOfAll_2 : decode cX1_fallsOfAll 2 = .ok (.iload_n 2, 1) := by decide +kernel
theorem dX1_fallsOfAll_3 : decode cX1_fallsOfAll 3 = .ok (.bipush 6, 2) := by decide +kernel
theorem dX1_fallsOfAll_5 : decode cX1_fallsOfAll 5 = .ok (.if_icmp .ge 21, 3) := by decide +kernel
theorem dX1_fallsOfAll_8 : decode cX1_fallsOfAll 8 = .ok (.aload_n 0, 1) := by decide +kernel
theorem dX1_fallsOfAll_9 : decode cX1_fallsOfAll 9 = .ok (.getfield 51, 3) := by decide +kernel
theorem dX1_fallsOfAll_12 : decode cX1_fallsOfAll 12 = .ok (.iload_n 2, 1) := by decide +kernel
theorem dX1_fallsOfAll_13 : decode cX1_fallsOfAll 13 = .ok (.aload_n 0, 1) := by decide +kernel
theorem dX1_fallsOfAll_14 : decode cX1_fallsOfAll 14 = .ok (.iload_n 2, 1) := by decide +kernel
theorem dX1_fallsOfAll_15 : decode cX1_fallsOfAll 15 = .ok (.iload_n 1, 1) := by decide +kernel
theorem dX1_fallsOfAll_16 : decode cX1_fallsOfAll 16 = .ok (.invokevirtual 149, 3) := by decide +kernel
theorem dX1_fallsOfAll_19 : decode cX1_fallsOfAll 19 = .ok (.iastore, 1) := by decide +kernel
theorem dX1_fallsOfAll_20 : decode cX1_fallsOfAll 20 = .ok (.iinc 2 1, 3) := by decide +kernel
theorem dX1_fallsOfAll_23 : decode cX1_fallsOfAll 23 = .ok (.goto (-21), 3) := by decide +kernel
theorem dX1_fallsOfAll_26 : decode cX1_fallsOfAll 26 = .ok (.aload_n 0, 1) := by decide +kernel
theorem dX1_fallsOfAll_27 : decode cX1_fallsOfAll 27 = .ok (.invokevirtual 152, 3) := by decide +kernel
theorem dX1_fallsOfAll_30 : decode cX1_fallsOfAll 30 = .ok (.ireturn, 1) := by decide +kernel
theorem dX1_fallsAnew_0 : decode cX1_fallsAnew 0 = .ok (.aload_n 0, 1) := by decide +kernel
theorem dX1_fallsAnew_1 : decode cX1_fallsAnew 1 = .ok (.getfield 51, 3) := by decide +kernel
theorem dX1_fallsAnew_4 : decode cX1_fallsAnew 4 = .ok (.iload_n 1, 1) := by decide +kernel
theorem dX1_fallsAnew_5 : decode cX1_fallsAnew 5 = .ok (.aload_n 0, 1) := by decide +kernel
theorem dX1_fallsAnew_6 : decode cX1_fallsAnew 6 = .ok (.iload_n 1, 1) := by decide +kernel
theorem dX1_fallsAnew_7 : decode cX1_fallsAnew 7 = .ok (.iload_n 2, 1) := by decide +kernel
theorem dX1_fallsAnew_8 : decode cX1_fallsAnew 8 = .ok (.invokevirtual 149, 3) := by decide +kernel
theorem dX1_fallsAnew_11 : decode cX1_fallsAnew 11 = .ok (.iastore, 1) := by decide +kernel
theorem dX1_fallsAnew_12 : decode cX1_fallsAnew 12 = .ok (.aload_n 0, 1) := by decide +kernel
theorem dX1_fallsAnew_13 : decode cX1_fallsAnew 13 = .ok (.invokevirtual 152, 3) := by decide +kernel
theorem dX1_fallsAnew_16 : decode cX1_fallsAnew 16 = .ok (.ireturn, 1) := by decide +kernel
theorem dX1_allFalls_0 : decode cX1_allFalls 0 = .ok (.iconst 0, 1) := by decide +kernel
theorem dX1_allFalls_1 : decode cX1_allFalls 1 = .ok (.istore_n 1, 1) := by decide +kernel
theorem dX1_allFalls_2 : decode cX1_allFalls 2 = .ok (.iconst 0, 1) := by decide +kernel
theorem dX1_allFalls_3 : decode cX1_allFalls 3 = .ok (.istore_n 2, 1) := by decide +kernel
theorem dX1_allFalls_4 : decode cX1_allFalls 4 = .ok (.iload_n 2, 1) := by decide +kernel
theorem dX1_allFalls_5 : decode cX1_allFalls 5 = .ok (.bipush 6, 2) := by decide +kernel
theorem dX1_allFalls_7 : decode cX1_allFalls 7 = .ok (.if_icmp .ge 18, 3) := by decide +kernel
theorem dX1_allFalls_10 : decode cX1_allFalls 10 = .ok (.iload_n 1, 1) := by decide +kernel
theorem dX1_allFalls_11 : decode cX1_allFalls 11 = .ok (.aload_n 0, 1) := by decide +kernel
theorem dX1_allFalls_12 : decode cX1_allFalls 12 = .ok (.getfield 51, 3) := by decide +kernel
theorem dX1_allFalls_15 : decode cX1_allFalls 15 = .ok (.iload_n 2, 1) := by decide +kernel
theorem dX1_allFalls_16 : decode cX1_allFalls 16 = .ok (.iaload, 1) := by decide +kernel
theorem dX1_allFalls_17 : decode cX1_allFalls 17 = .ok (.ior, 1) := by decide +kernel
theorem dX1_allFalls_18 : decode cX1_allFalls 18 = .ok (.istore_n 1, 1) := by decide +kernel
theorem dX1_allFalls_19 : decode cX1_allFalls 19 = .ok (.iinc 2 1, 3) := by decide +kernel
theorem dX1_allFalls_22 : decode cX1_allFalls 22 = .ok (.goto (-18), 3) := by decide +kernel
theorem dX1_allFalls_25 : decode cX1_allFalls 25 = .ok (.iload_n 1, 1) := by decide +kernel
theorem dX1_allFalls_26 : decode cX1_allFalls 26 = .ok (.ireturn, 1) := by decide +kernel
theorem dX1_stirsOf_0 : decode cX1_stirsOf 0 = .ok (.iconst 0, 1) := by decide +kernel
theorem dX1_stirsOf_1 : decode cX1_stirsOf 1 = .ok (.istore_n 3, 1) := by decide +kernel
theorem dX1_stirsOf_2 : decode cX1_stirsOf 2 = .ok (.aload_n 0, 1) := by decide +kernel
theorem dX1_stirsOf_3 : decode cX1_stirsOf 3 = .ok (.getfield 41, 3) := by decide +kernel
theorem dX1_stirsOf_6 : decode cX1_stirsOf 6 = .ok (.iload_n 1, 1) := by decide +kernel
theorem dX1_stirsOf_7 : decode cX1_stirsOf 7 = .ok (.iconst 0, 1) := by decide +kernel
theorem dX1_stirsOf_8 : decode cX1_stirsOf 8 = .ok (.iastore, 1) := by decide +kernel
theorem dX1_stirsOf_9 : decode cX1_stirsOf 9 = .ok (.iconst 0, 1) := by decide +kernel
theorem dX1_stirsOf_10 : decode cX1_stirsOf 10 = .ok (.istore 4, 2) := by decide +kernel
theorem dX1_stirsOf_12 : decode cX1_stirsOf 12 = .ok (.iload 4, 2) := by decide +kernel
theorem dX1_stirsOf_14 : decode cX1_stirsOf 14 = .ok (.iconst 2, 1) := by decide +kernel
theorem dX1_stirsOf_15 : decode cX1_stirsOf 15 = .ok (.aload_n 0, 1) := by decide +kernel
theorem dX1_stirsOf_16 : decode cX1_stirsOf 16 = .ok (.getfield 66, 3) := by decide +kernel
theorem dX1_stirsOf_19 : decode cX1_stirsOf 19 = .ok (.getfield 87, 3) := by decide +kernel
theorem dX1_stirsOf_22 : decode cX1_stirsOf 22 = .ok (.getfield 146, 3) := by decide +kernel
theorem dX1_stirsOf_25 : decode cX1_stirsOf 25 = .ok (.imul, 1) := by decide +kernel
theorem dX1_stirsOf_26 : decode cX1_stirsOf 26 = .ok (.if_icmp .ge 56, 3) := by decide +kernel
theorem dX1_stirsOf_29 : decode cX1_stirsOf 29 = .ok (.iload_n 2, 1) := by decide +kernel
theorem dX1_stirsOf_30 : decode cX1_stirsOf 30 = .ok (.iload 4, 2) := by decide +kernel
theorem dX1_stirsOf_32 : decode cX1_stirsOf 32 = .ok (.iushr, 1) := by decide +kernel
theorem dX1_stirsOf_33 : decode cX1_stirsOf 33 = .ok (.iconst 1, 1) := by decide +kernel
theorem dX1_stirsOf_34 : decode cX1_stirsOf 34 = .ok (.iand, 1) := by decide +kernel
theorem dX1_stirsOf_35 : decode cX1_stirsOf 35 = .ok (.ifCond .eq 41, 3) := by decide +kernel
theorem dX1_stirsOf_38 : decode cX1_stirsOf 38 = .ok (.aload_n 0, 1) := by decide +kernel
theorem dX1_stirsOf_39 : decode cX1_stirsOf 39 = .ok (.iload 4, 2) := by decide +kernel
theorem dX1_stirsOf_41 : decode cX1_stirsOf 41 = .ok (.iconst 2, 1) := by decide +kernel
theorem dX1_stirsOf_42 : decode cX1_stirsOf 42 = .ok (.idiv, 1) := by decide +kernel
theorem dX1_stirsOf_43 : decode cX1_stirsOf 43 = .ok (.iload 4, 2) := by decide +kernel
theorem dX1_stirsOf_45 : decode cX1_stirsOf 45 = .ok (.iconst 2, 1) := by decide +kernel
theorem dX1_stirsOf_46 : decode cX1_stirsOf 46 = .ok (.irem, 1) := by decide +kernel
theorem dX1_stirsOf_47 : decode cX1_stirsOf 47 = .ok (.invokevirtual 136, 3) := by decide +kernel
theorem dX1_stirsOf_50 : decode cX1_stirsOf 50 = .ok (.aload_n 0, 1) := by decide +kernel
theorem dX1_stirsOf_51 : decode cX1_stirsOf 51 = .ok (.iload_n 1, 1) := by decide +kernel
theorem dX1_stirsOf_52 : decode cX1_stirsOf 52 = .ok (.invokevirtual 139, 3) := by decide +kernel
theorem dX1_stirsOf_55 : decode cX1_stirsOf 55 = .ok (.iload_n 3, 1) := by decide +kernel
theorem dX1_stirsOf_56 : decode cX1_stirsOf 56 = .ok (.aload_n 0, 1) := by decide +kernel
theorem dX1_stirsOf_57 : decode cX1_stirsOf 57 = .ok (.getfield 44, 3) := by decide +kernel
theorem dX1_stirsOf_60 : decode cX1_stirsOf 60 = .ok (.iload_n 1, 1) := by decide +kernel
theorem dX1_stirsOf_61 : decode cX1_stirsOf 61 = .ok (.iaload, 1) := by decide +kernel
theorem dX1_stirsOf_62 : decode cX1_stirsOf 62 = .ok (.iconst (-1), 1) := by decide +kernel
theorem dX1_stirsOf_63 : decode cX1_stirsOf 63 = .ok (.if_icmp .ne 7, 3) := by decide +kernel
theorem dX1_stirsOf_66 : decode cX1_stirsOf 66 = .ok (.iconst 0, 1) := by decide +kernel
theorem dX1_stirsOf_67 : decode cX1_stirsOf 67 = .ok (.goto 7, 3) := by decide +kernel
theorem dX1_stirsOf_70 : decode cX1_stirsOf 70 = .ok (.iconst 1, 1) := by decide +kernel
theorem dX1_stirsOf_71 : decode cX1_stirsOf 71 = .ok (.iload 4, 2) := by decide +kernel
theorem dX1_stirsOf_73 : decode cX1_stirsOf 73 = .ok (.ishl, 1) := by decide +kernel
theorem dX1_stirsOf_74 : decode cX1_stirsOf 74 = .ok (.ior, 1) := by decide +kernel
theorem dX1_stirsOf_75 : decode cX1_stirsOf 75 = .ok (.istore_n 3, 1) := by decide +kernel
theorem dX1_stirsOf_76 : decode cX1_stirsOf 76 = .ok (.iinc 4 1, 3) := by decide +kernel
theorem dX1_stirsOf_79 : decode cX1_stirsOf 79 = .ok (.goto (-67), 3) := by decide +kernel
theorem dX1_stirsOf_82 : decode cX1_stirsOf 82 = .ok (.iload_n 3, 1) := by decide +kernel
theorem dX1_stirsOf_83 : decode cX1_stirsOf 83 = .ok (.ireturn, 1) := by decide +kernel
theorem dX1_facesAreEnough_0 : decode cX1_facesAreEnough 0 = .ok (.iconst 0, 1) := by decide +kernel
theorem dX1_facesAreEnough_1 : decode cX1_facesAreEnough 1 = .ok (.istore_n 2, 1) := by decide +kernel
theorem dX1_facesAreEnough_2 : decode cX1_facesAreEnough 2 = .ok (.iconst 0, 1) := by decide +kernel
theorem dX1_facesAreEnough_3 : decode cX1_facesAreEnough 3 = .ok (.istore_n 3, 1) := by decide +kernel
theorem dX1_facesAreEnough_4 : decode cX1_facesAreEnough 4 = .ok (.lconst 0, 1) := by decide +kernel
theorem dX1_facesAreEnough_5 : decode cX1_facesAreEnough 5 = .ok (.lstore 4, 2) := by decide +kernel
theorem dX1_facesAreEnough_7 : decode cX1_facesAreEnough 7 = .ok (.lconst 0, 1) := by decide +kernel
theorem dX1_facesAreEnough_8 : decode cX1_facesAreEnough 8 = .ok (.lstore 6, 2) := by decide +kernel
theorem dX1_facesAreEnough_10 : decode cX1_facesAreEnough 10 = .ok (.iconst 0, 1) := by decide +kernel
theorem dX1_facesAreEnough_11 : decode cX1_facesAreEnough 11 = .ok (.istore 8, 2) := by decide +kernel
theorem dX1_facesAreEnough_13 : decode cX1_facesAreEnough 13 = .ok (.iload 8, 2) := by decide +kernel
theorem dX1_facesAreEnough_15 : decode cX1_facesAreEnough 15 = .ok (.aload_n 0, 1) := by decide +kernel
theorem dX1_facesAreEnough_16 : decode cX1_facesAreEnough 16 = .ok (.getfield 66, 3) := by decide +kernel
theorem dX1_facesAreEnough_19 : decode cX1_facesAreEnough 19 = .ok (.getfield 87, 3) := by decide +kernel
theorem dX1_facesAreEnough_22 : decode cX1_facesAreEnough 22 = .ok (.getfield 146, 3) := by decide +kernel
theorem dX1_facesAreEnough_25 : decode cX1_facesAreEnough 25 = .ok (.if_icmp .ge 94, 3) := by decide +kernel
theorem dX1_facesAreEnough_28 : decode cX1_facesAreEnough 28 = .ok (.aload_n 0, 1) := by decide +kernel
theorem dX1_facesAreEnough_29 : decode cX1_facesAreEnough 29 = .ok (.iload 8, 2) := by decide +kernel
theorem dX1_facesAreEnough_31 : decode cX1_facesAreEnough 31 = .ok (.iconst 1, 1) := by decide +kernel
theorem dX1_facesAreEnough_32 : decode cX1_facesAreEnough 32 = .ok (.invokevirtual 136, 3) := by decide +kernel
theorem dX1_facesAreEnough_35 : decode cX1_facesAreEnough 35 = .ok (.aload_n 0, 1) := by decide +kernel
theorem dX1_facesAreEnough_36 : decode cX1_facesAreEnough 36 = .ok (.iload_n 1, 1) := by decide +kernel
theorem dX1_facesAreEnough_37 : decode cX1_facesAreEnough 37 = .ok (.bipush 8, 2) := by decide +kernel
theorem dX1_facesAreEnough_39 : decode cX1_facesAreEnough 39 = .ok (.idiv, 1) := by decide +kernel
theorem dX1_facesAreEnough_40 : decode cX1_facesAreEnough 40 = .ok (.iconst 0, 1) := by decide +kernel
theorem dX1_facesAreEnough_41 : decode cX1_facesAreEnough 41 = .ok (.invokevirtual 132, 3) := by decide +kernel
theorem dX1_facesAreEnough_44 : decode cX1_facesAreEnough 44 = .ok (.ifCond .eq 11, 3) := by decide +kernel
theorem dX1_facesAreEnough_47 : decode cX1_facesAreEnough 47 = .ok (.aload_n 0, 1) := by decide +kernel
theorem dX1_facesAreEnough_48 : decode cX1_facesAreEnough 48 = .ok (.iload_n 1, 1) := by decide +kernel
theorem dX1_facesAreEnough_49 : decode cX1_facesAreEnough 49 = .ok (.invokevirtual 126, 3) := by decide +kernel
theorem dX1_facesAreEnough_52 : decode cX1_facesAreEnough 52 = .ok (.goto 4, 3) := by decide +kernel
theorem dX1_facesAreEnough_55 : decode cX1_facesAreEnough 55 = .ok (.lconst 0, 1) := by decide +kernel
theorem dX1_facesAreEnough_56 : decode cX1_facesAreEnough 56 = .ok (.lstore 9, 2) := by decide +kernel
theorem dX1_facesAreEnough_58 : decode cX1_facesAreEnough 58 = .ok (.aload_n 0, 1) := by decide +kernel
theorem dX1_facesAreEnough_59 : decode cX1_facesAreEnough 59 = .ok (.getfield 66, 3) := by decide +kernel
theorem dX1_facesAreEnough_62 : decode cX1_facesAreEnough 62 = .ok (.iload 8, 2) := by decide +kernel
theorem dX1_facesAreEnough_64 : decode cX1_facesAreEnough 64 = .ok (.invokevirtual 155, 3) := by decide +kernel
theorem dX1_facesAreEnough_67 : decode cX1_facesAreEnough 67 = .ok (.ifCond .eq 26, 3) := by decide +kernel
theorem dX1_facesAreEnough_70 : decode cX1_facesAreEnough 70 = .ok (.iload_n 2, 1) := by decide +kernel
theorem dX1_facesAreEnough_71 : decode cX1_facesAreEnough 71 = .ok (.ifCond .eq 13, 3) := by decide +kernel
theorem dX1_facesAreEnough_74 : decode cX1_facesAreEnough 74 = .ok (.lload 4, 2) := by decide +kernel
theorem dX1_facesAreEnough_76 : decode cX1_facesAreEnough 76 = .ok (.lload 9, 2) := by decide +kernel
theorem dX1_facesAreEnough_78 : decode cX1_facesAreEnough 78 = .ok (.invokestatic 159, 3) := by decide +kernel
theorem dX1_facesAreEnough_81 : decode cX1_facesAreEnough 81 = .ok (.goto 5, 3) := by decide +kernel
theorem dX1_facesAreEnough_84 : decode cX1_facesAreEnough 84 = .ok (.lload 9, 2) := by decide +kernel
theorem dX1_facesAreEnough_86 : decode cX1_facesAreEnough 86 = .ok (.lstore 4, 2) := by decide +kernel
theorem dX1_facesAreEnough_88 : decode cX1_facesAreEnough 88 = .ok (.iconst 1, 1) := by decide +kernel
theorem dX1_facesAreEnough_89 : decode cX1_facesAreEnough 89 = .ok (.istore_n 2, 1) := by decide +kernel
theorem dX1_facesAreEnough_90 : decode cX1_facesAreEnough 90 = .ok (.goto 23, 3) := by decide +kernel
theorem dX1_facesAreEnough_93 : decode cX1_facesAreEnough 93 = .ok (.iload_n 3, 1) := by decide +kernel
theorem dX1_facesAreEnough_94 : decode cX1_facesAreEnough 94 = .ok (.ifCond .eq 13, 3) := by decide +kernel
theorem dX1_facesAreEnough_97 : decode cX1_facesAreEnough 97 = .ok (.lload 6, 2) := by decide +kernel
theorem dX1_facesAreEnough_99 : decode cX1_facesAreEnough 99 = .ok (.lload 9, 2) := by decide +kernel
theorem dX1_facesAreEnough_101 : decode cX1_facesAreEnough 101 = .ok (.invokestatic 159, 3) := by decide +kernel
theorem dX1_facesAreEnough_104 : decode cX1_facesAreEnough 104 = .ok (.goto 5, 3) := by decide +kernel
theorem dX1_facesAreEnough_107 : decode cX1_facesAreEnough 107 = .ok (.lload 9, 2) := by decide +kernel
theorem dX1_facesAreEnough_109 : decode cX1_facesAreEnough 109 = .ok (.lstore 6, 2) := by decide +kernel
theorem dX1_facesAreEnough_111 : decode cX1_facesAreEnough 111 = .ok (.iconst 1, 1) := by decide +kernel
theorem dX1_facesAreEnough_112 : decode cX1_facesAreEnough 112 = .ok (.istore_n 3, 1) := by decide +kernel
theorem dX1_facesAreEnough_113 : decode cX1_facesAreEnough 113 = .ok (.iinc 8 1, 3) := by decide +kernel
theorem dX1_facesAreEnough_116 : decode cX1_facesAreEnough 116 = .ok (.goto (-103), 3) := by decide +kernel
theorem dX1_facesAreEnough_119 : decode cX1_facesAreEnough 119 = .ok (.iload_n 3, 1) := by decide +kernel
theorem dX1_facesAreEnough_120 : decode cX1_facesAreEnough 120 = .ok (.ifCond .eq 15, 3) := by decide +kernel
theorem dX1_facesAreEnough_123 : decode cX1_facesAreEnough 123 = .ok (.iload_n 2, 1) := by decide +kernel
theorem dX1_facesAreEnough_124 : decode cX1_facesAreEnough 124 = .ok (.ifCond .eq 15, 3) := by decide +kernel
theorem dX1_facesAreEnough_127 : decode cX1_facesAreEnough 127 = .ok (.lload 6, 2) := by decide +kernel
theorem dX1_facesAreEnough_129 : decode cX1_facesAreEnough 129 = .ok (.lload 4, 2) := by decide +kernel
theorem dX1_facesAreEnough_131 : decode cX1_facesAreEnough 131 = .ok (.lcmp, 1) := by decide +kernel
theorem dX1_facesAreEnough_132 : decode cX1_facesAreEnough 132 = .ok (.ifCond .gt 7, 3) := by decide +kernel
theorem dX1_facesAreEnough_135 : decode cX1_facesAreEnough 135 = .ok (.iconst 1, 1) := by decide +kernel
theorem dX1_facesAreEnough_136 : decode cX1_facesAreEnough 136 = .ok (.goto 4, 3) := by decide +kernel
theorem dX1_facesAreEnough_139 : decode cX1_facesAreEnough 139 = .ok (.iconst 0, 1) := by decide +kernel
theorem dX1_facesAreEnough_140 : decode cX1_facesAreEnough 140 = .ok (.ireturn, 1) := by decide +kernel
theorem dX1_facesAreEnoughForAll_0 : decode cX1_facesAreEnoughForAll 0 = .ok (.iconst 0, 1) := by decide +kernel
theorem dX1_facesAreEnoughForAll_1 : decode cX1_facesAreEnoughForAll 1 = .ok (.istore_n 1, 1) := by decide +kernel
theorem dX1_facesAreEnoughForAll_2 : decode cX1_facesAreEnoughForAll 2 = .ok (.iload_n 1, 1) := by decide +kernel
theorem dX1_facesAreEnoughForAll_3 : decode cX1_facesAreEnoughForAll 3 = .ok (.bipush 48, 2) := by decide +kernel
theorem dX1_facesAreEnoughForAll_5 : decode cX1_facesAreEnoughForAll 5 = .ok (.if_icmp .ge 19, 3) := by decide +kernel
theorem dX1_facesAreEnoughForAll_8 : decode cX1_facesAreEnoughForAll 8 = .ok (.aload_n 0, 1) := by decide +kernel
theorem dX1_facesAreEnoughForAll_9 : decode cX1_facesAreEnoughForAll 9 = .ok (.iload_n 1, 1) := by decide +kernel
theorem dX1_facesAreEnoughForAll_10 : decode cX1_facesAreEnoughForAll 10 = .ok (.invokevirtual 165, 3) := by decide +kernel
theorem dX1_facesAreEnoughForAll_13 : decode cX1_facesAreEnoughForAll 13 = .ok (.ifCond .ne 5, 3) := by decide +kernel
theorem dX1_facesAreEnoughForAll_16 : decode cX1_facesAreEnoughForAll 16 = .ok (.iconst 0, 1) := by decide +kernel
theorem dX1_facesAreEnoughForAll_17 : decode cX1_facesAreEnoughForAll 17 = .ok (.ireturn, 1) := by decide +kernel
theorem dX1_facesAreEnoughForAll_18 : decode cX1_facesAreEnoughForAll 18 = .ok (.iinc 1 1, 3) := by decide +kernel
theorem dX1_facesAreEnoughForAll_21 : decode cX1_facesAreEnoughForAll 21 = .ok (.goto (-19), 3) := by decide +kernel
theorem dX1_facesAreEnoughForAll_24 : decode cX1_facesAreEnoughForAll 24 = .ok (.iconst 1, 1) := by decide +kernel
theorem dX1_facesAreEnoughForAll_25 : decode cX1_facesAreEnoughForAll 25 = .ok (.ireturn, 1) := by decide +kernel
theorem dX2_init_0 : decode cX2_init 0 = .ok (.aload_n 0, 1) := by decide +kernel
theorem dX2_init_1 : decode cX2_init 1 = .ok (.invokespecial 3, 3) := by decide +kernel
theorem dX2_init_4 : decode cX2_init 4 = .ok (.aload_n 0, 1) := by decide +kernel
theorem dX2_init_5 : decode cX2_init 5 = .ok (.bipush 9, 2) := by decide +kernel
theorem dX2_init_7 : decode cX2_init 7 = .ok (.newarray .int, 2) := by decide +kernel
theorem dX2_init_9 : decode cX2_init 9 = .ok (.putfield 9, 3) := by decide +kernel
theorem dX2_init_12 : decode cX2_init 12 = .ok (.aload_n 0, 1) := by decide +kernel
theorem dX2_init_13 : decode cX2_init 13 = .ok (.iconst 0, 1) := by decide +kernel
theorem dX2_init_14 : decode cX2_init 14 = .ok (.putfield 15, 3) := by decide +kernel
theorem dX2_init_17 : decode cX2_init 17 = .ok (.aload_n 0, 1) := by decide +kernel
theorem dX2_init_18 : decode cX2_init 18 = .ok (.bipush 9, 2) := by decide +kernel
theorem dX2_init_20 : decode cX2_init 20 = .ok (.newarray .int, 2) := by decide +kernel
theorem dX2_init_22 : decode cX2_init 22 = .ok (.putfield 19, 3) := by decide +kernel
theorem dX2_init_25 : decode cX2_init 25 = .ok (.aload_n 0, 1) := by decide +kernel
theorem dX2_init_26 : decode cX2_init 26 = .ok (.iconst 0, 1) := by decide +kernel
theorem dX2_init_27 : decode cX2_init 27 = .ok (.putfield 22, 3) := by decide +kernel
theorem dX2_init_30 : decode cX2_init 30 = .ok (.aload_n 0, 1) := by decide +kernel
theorem dX2_init_31 : decode cX2_init 31 = .ok (.sipush 512, 3) := by decide +kernel
theorem dX2_init_34 : decode cX2_init 34 = .ok (.newarray .long, 2) := by decide +kernel
theorem dX2_init_36 : decode cX2_init 36 = .ok (.putfield 25, 3) := by decide +kernel
theorem dX2_init_39 : decode cX2_init 39 = .ok (.aload_n 0, 1) := by decide +kernel
theorem dX2_init_40 : decode cX2_init 40 = .ok (.sipush 512, 3) := by decide +kernel
theorem dX2_init_43 : decode cX2_init 43 = .ok (.newarray .int, 2) := by decide +kernel
theorem dX2_init_45 : decode cX2_init 45 = .ok (.putfield 29, 3) := by decide +kernel
theorem dX2_init_48 : decode cX2_init 48 = .ok (.aload_n 0, 1) := by decide +kernel
theorem dX2_init_49 : decode cX2_init 49 = .ok (.sipush 512, 3) := by decide +kernel
theorem dX2_init_52 : decode cX2_init 52 = .ok (.newarray .int, 2) := by decide +kernel
theorem dX2_init_54 : decode cX2_init 54 = .ok (.putfield 32, 3) := by decide +kernel
theorem dX2_init_57 : decode cX2_init 57 = .ok (.aload_n 0, 1) := by decide +kernel
theorem dX2_init_58 : decode cX2_init 58 = .ok (.sipush 512, 3) := by decide +kernel
theorem dX2_init_61 : decode cX2_init 61 = .ok (.newarray .int, 2) := by decide +kernel
theorem dX2_init_63 : decode cX2_init 63 = .ok (.putfield 35, 3) := by decide +kernel
theorem dX2_init_66 : decode cX2_init 66 = .ok (.aload_n 0, 1) := by decide +kernel
theorem dX2_init_67 : decode cX2_init 67 = .ok (.aload_n 1, 1) := by decide +kernel
theorem dX2_init_68 : decode cX2_init 68 = .ok (.putfield 38, 3) := by decide +kernel
theorem dX2_init_71 : decode cX2_init 71 = .ok (.aload_n 0, 1) := by decide +kernel
theorem dX2_init_72 : decode cX2_init 72 = .ok (.aload_n 2, 1) := by decide +kernel
theorem dX2_init_73 : decode cX2_init 73 = .ok (.putfield 42, 3) := by decide +kernel
theorem dX2_init_76 : decode cX2_init 76 = .ok (.return_, 1) := by decide +kernel
theorem dX2_isWished_0 : decode cX2_isWished 0 = .ok (.iconst 0, 1) := by decide +kernel
theorem dX2_isWished_1 : decode cX2_isWished 1 = .ok (.istore_n 2, 1) := by decide +kernel
theorem dX2_isWished_2 : decode cX2_isWished 2 = .ok (.iload_n 2, 1) := by decide +kernel
theorem dX2_isWished_3 : decode cX2_isWished 3 = .ok (.aload_n 0, 1) := by decide +kernel
theorem dX2_isWished_4 : decode cX2_isWished 4 = .ok (.getfield 15, 3) := by decide +kernel
theorem dX2_isWished_7 : decode cX2_isWished 7 = .ok (.if_icmp .ge 21, 3) := by decide +kernel
theorem dX2_isWished_10 : decode cX2_isWished 10 = .ok (.aload_n 0, 1) := by decide +kernel
theorem dX2_isWished_11 : decode cX2_isWished 11 = .ok (.getfield 9, 3) := by decide +kernel
theorem dX2_isWished_14 : decode cX2_isWished 14 = .ok (.iload_n 2, 1) := by decide +kernel
theorem dX2_isWished_15 : decode cX2_isWished 15 = .ok (.iaload, 1) := by decide +kernel
theorem dX2_isWished_16 : decode cX2_isWished 16 = .ok (.iload_n 1, 1) := by decide +kernel
theorem dX2_isWished_17 : decode cX2_isWished 17 = .ok (.if_icmp .ne 5, 3) := by decide +kernel
theorem dX2_isWished_20 : decode cX2_isWished 20 = .ok (.iconst 1, 1) := by decide +kernel
theorem dX2_isWished_21 : decode cX2_isWished 21 = .ok (.ireturn, 1) := by decide +kernel
theorem dX2_isWished_22 : decode cX2_isWished 22 = .ok (.iinc 2 1, 3) := by decide +kernel
theorem dX2_isWished_25 : decode cX2_isWished 25 = .ok (.goto (-23), 3) := by decide +kernel
theorem dX2_isWished_28 : decode cX2_isWished 28 = .ok (.iconst 0, 1) := by decide +kernel
theorem dX2_isWished_29 : decode cX2_isWished 29 = .ok (.ireturn, 1) := by decide +kernel
theorem dX2_canBe_0 : decode cX2_canBe 0 = .ok (.iconst 0, 1) := by decide +kernel
theorem dX2_canBe_1 : decode cX2_canBe 1 = .ok (.istore_n 1, 1) := by decide +kernel
theorem dX2_canBe_2 : decode cX2_canBe 2 = .ok (.iload_n 1, 1) := by decide +kernel
theorem dX2_canBe_3 : decode cX2_canBe 3 = .ok (.aload_n 0, 1) := by decide +kernel
theorem dX2_canBe_4 : decode cX2_canBe 4 = .ok (.getfield 15, 3) := by decide +kernel
theorem dX2_canBe_7 : decode cX2_canBe 7 = .ok (.if_icmp .ge 28, 3) := by decide +kernel
theorem dX2_canBe_10 : decode cX2_canBe 10 = .ok (.aload_n 0, 1) := by decide +kernel
theorem dX2_canBe_11 : decode cX2_canBe 11 = .ok (.getfield 38, 3) := by decide +kernel
theorem dX2_canBe_14 : decode cX2_canBe 14 = .ok (.getfield 46, 3) := by decide +kernel
theorem dX2_canBe_17 : decode cX2_canBe 17 = .ok (.aload_n 0, 1) := by decide +kernel
theorem dX2_canBe_18 : decode cX2_canBe 18 = .ok (.getfield 9, 3) := by decide +kernel
theorem dX2_canBe_21 : decode cX2_canBe 21 = .ok (.iload_n 1, 1) := by decide +kernel
theorem dX2_canBe_22 : decode cX2_canBe 22 = .ok (.iaload, 1) := by decide +kernel
theorem dX2_canBe_23 : decode cX2_canBe 23 = .ok (.iaload, 1) := by decide +kernel
theorem dX2_canBe_24 : decode cX2_canBe 24 = .ok (.ifCond .ne 5, 3) := by decide +kernel
theorem dX2_canBe_27 : decode cX2_canBe 27 = .ok (.iconst 0, 1) := by decide +kernel
theorem dX2_canBe_28 : decode cX2_canBe 28 = .ok (.ireturn, 1) := by decide +kernel
theorem dX2_canBe_29 : decode cX2_canBe 29 = .ok (.iinc 1 1, 3) := by decide +kernel
theorem dX2_canBe_32 : decode cX2_canBe 32 = .ok (.goto (-30), 3) := by decide +kernel
theorem dX2_canBe_35 : decode cX2_canBe 35 = .ok (.aload_n 0, 1) := by decide +kernel
theorem dX2_canBe_36 : decode cX2_canBe 36 = .ok (.getfield 15, 3) := by decide +kernel
theorem dX2_canBe_39 : decode cX2_canBe 39 = .ok (.ifCond .le 7, 3) := by decide +kernel
theorem dX2_canBe_42 : decode cX2_canBe 42 = .ok (.iconst 1, 1) := by decide +kernel
theorem dX2_canBe_43 : decode cX2_canBe 43 = .ok (.goto 4, 3) := by decide +kernel
theorem dX2_canBe_46 : decode cX2_canBe 46 = .ok (.iconst 0, 1) := by decide +kernel
theorem dX2_canBe_47 : decode cX2_canBe 47 = .ok (.ireturn, 1) := by decide +kernel
theorem dX2_sets_0 : decode cX2_sets 0 = .ok (.iconst 1, 1) := by decide +kernel
theorem dX2_sets_1 : decode cX2_sets 1 = .ok (.aload_n 0, 1) := by decide +kernel
theorem dX2_sets_2 : decode cX2_sets 2 = .ok (.getfield 15, 3) := by decide +kernel
theorem dX2_sets_5 : decode cX2_sets 5 = .ok (.ishl, 1) := by decide +kernel
theorem dX2_sets_6 : decode cX2_sets 6 = .ok (.sipush 512, 3) := by decide +kernel
theorem dX2_sets_9 : decode cX2_sets 9 = .ok (.invokestatic 51, 3) := by decide +kernel
theorem dX2_sets_12 : decode cX2_sets 12 = .ok (.ireturn, 1) := by decide +kernel
theorem dX2_weighSets_0 : decode cX2_weighSets 0 = .ok (.aload_n 0, 1) := by decide +kernel
theorem dX2_weighSets_1 : decode cX2_weighSets 1 = .ok (.getfield 42, 3) := by decide +kernel
theorem dX2_weighSets_4 : decode cX2_weighSets 4 = .ok (.invokevirtual 57, 3) := by decide +kernel
theorem dX2_weighSets_7 : decode cX2_weighSets 7 = .ok (.aload_n 0, 1) := by decide +kernel
theorem dX2_weighSets_8 : decode cX2_weighSets 8 = .ok (.getfield 29, 3) := by decide +kernel
theorem dX2_weighSets_11 : decode cX2_weighSets 11 = .ok (.iconst 0, 1) := by decide +kernel
theorem dX2_weighSets_12 : decode cX2_weighSets 12 = .ok (.invokestatic 62, 3) := by decide +kernel
theorem dX2_weighSets_15 : decode cX2_weighSets 15 = .ok (.iconst 0, 1) := by decide +kernel
theorem dX2_weighSets_16 : decode cX2_weighSets 16 = .ok (.istore_n 1, 1) := by decide +kernel
theorem dX2_weighSets_17 : decode cX2_weighSets 17 = .ok (.iload_n 1, 1) := by decide +kernel
theorem dX2_weighSets_18 : decode cX2_weighSets 18 = .ok (.bipush 6, 2) := by decide +kernel
theorem dX2_weighSets_20 : decode cX2_weighSets 20 = .ok (.if_icmp .ge 14, 3) := by decide +kernel
theorem dX2_weighSets_23 : decode cX2_weighSets 23 = .ok (.aload_n 0, 1) := by decide +kernel
theorem dX2_weighSets_24 : decode cX2_weighSets 24 = .ok (.iload_n 1, 1) := by decide +kernel
theorem dX2_weighSets_25 : decode cX2_weighSets 25 = .ok (.invokevirtual 68, 3) := by decide +kernel
theorem dX2_weighSets_28 : decode cX2_weighSets 28 = .ok (.iinc 1 1, 3) := by decide +kernel
theorem dX2_weighSets_31 : decode cX2_weighSets 31 = .ok (.goto (-14), 3) := by decide +kernel
theorem dX2_weighSets_34 : decode cX2_weighSets 34 = .ok (.iconst 0, 1) := by decide +kernel
theorem dX2_weighSets_35 : decode cX2_weighSets 35 = .ok (.istore_n 1, 1) := by decide +kernel
theorem dX2_weighSets_36 : decode cX2_weighSets 36 = .ok (.iload_n 1, 1) := by decide +kernel
theorem dX2_weighSets_37 : decode cX2_weighSets 37 = .ok (.aload_n 0, 1) := by decide +kernel
theorem dX2_weighSets_38 : decode cX2_weighSets 38 = .ok (.invokevirtual 72, 3) := by decide +kernel
theorem dX2_weighSets_41 : decode cX2_weighSets 41 = .ok (.if_icmp .ge 37, 3) := by decide +kernel
theorem dX2_weighSets_44 : decode cX2_weighSets 44 = .ok (.aload_n 0, 1) := by decide +kernel
theorem dX2_weighSets_45 : decode cX2_weighSets 45 = .ok (.getfield 35, 3) := by decide +kernel
theorem dX2_weighSets_48 : decode cX2_weighSets 48 = .ok (.iload_n 1, 1) := by decide +kernel
theorem dX2_weighSets_49 : decode cX2_weighSets 49 = .ok (.aload_n 0, 1) := by decide +kernel
theorem dX2_weighSets_50 : decode cX2_weighSets 50 = .ok (.getfield 38, 3) := by decide +kernel
theorem dX2_weighSets_53 : decode cX2_weighSets 53 = .ok (.aload_n 0, 1) := by decide +kernel
theorem dX2_weighSets_54 : decode cX2_weighSets 54 = .ok (.getfield 29, 3) := by decide +kernel
theorem dX2_weighSets_57 : decode cX2_weighSets 57 = .ok (.iload_n 1, 1) := by decide +kernel
theorem dX2_weighSets_58 : decode cX2_weighSets 58 = .ok (.iaload, 1) := by decide +kernel
theorem dX2_weighSets_59 : decode cX2_weighSets 59 = .ok (.aload_n 0, 1) := by decide +kernel
theorem dX2_weighSets_60 : decode cX2_weighSets 60 = .ok (.getfield 38, 3) := by decide +kernel
theorem dX2_weighSets_63 : decode cX2_weighSets 63 = .ok (.getfield 76, 3) := by decide +kernel
theorem dX2_weighSets_66 : decode cX2_weighSets 66 = .ok (.iconst 5, 1) := by decide +kernel
theorem dX2_weighSets_67 : decode cX2_weighSets 67 = .ok (.iaload, 1) := by decide +kernel
theorem dX2_weighSets_68 : decode cX2_weighSets 68 = .ok (.invokevirtual 79, 3) := by decide +kernel
theorem dX2_weighSets_71 : decode cX2_weighSets 71 = .ok (.iastore, 1) := by decide +kernel
theorem dX2_weighSets_72 : decode cX2_weighSets 72 = .ok (.iinc 1 1, 3) := by decide +kernel
theorem dX2_weighSets_75 : decode cX2_weighSets 75 = .ok (.goto (-39), 3) := by decide +kernel
theorem dX2_weighSets_78 : decode cX2_weighSets 78 = .ok (.return_, 1) := by decide +kernel
theorem dX2_addFallsOf_0 : decode cX2_addFallsOf 0 = .ok (.aload_n 0, 1) := by decide +kernel
theorem dX2_addFallsOf_1 : decode cX2_addFallsOf 1 = .ok (.iconst 0, 1) := by decide +kernel
theorem dX2_addFallsOf_2 : decode cX2_addFallsOf 2 = .ok (.invokevirtual 82, 3) := by decide +kernel
theorem dX2_addFallsOf_5 : decode cX2_addFallsOf 5 = .ok (.aload_n 0, 1) := by decide +kernel
theorem dX2_addFallsOf_6 : decode cX2_addFallsOf 6 = .ok (.getfield 42, 3) := by decide +kernel
theorem dX2_addFallsOf_9 : decode cX2_addFallsOf 9 = .ok (.iload_n 1, 1) := by decide +kernel
theorem dX2_addFallsOf_10 : decode cX2_addFallsOf 10 = .ok (.aload_n 0, 1) := by decide +kernel
theorem dX2_addFallsOf_11 : decode cX2_addFallsOf 11 = .ok (.getfield 38, 3) := by decide +kernel
theorem dX2_addFallsOf_14 : decode cX2_addFallsOf 14 = .ok (.invokevirtual 85, 3) := by decide +kernel
theorem dX2_addFallsOf_17 : decode cX2_addFallsOf 17 = .ok (.invokevirtual 88, 3) := by decide +kernel
theorem dX2_addFallsOf_20 : decode cX2_addFallsOf 20 = .ok (.istore_n 2, 1) := by decide +kernel
theorem dX2_addFallsOf_21 : decode cX2_addFallsOf 21 = .ok (.aload_n 0, 1) := by decide +kernel
theorem dX2_addFallsOf_22 : decode cX2_addFallsOf 22 = .ok (.iload_n 1, 1) := by decide +kernel
theorem dX2_addFallsOf_23 : decode cX2_addFallsOf 23 = .ok (.invokevirtual 91, 3) := by decide +kernel
theorem dX2_addFallsOf_26 : decode cX2_addFallsOf 26 = .ok (.istore_n 3, 1) := by decide +kernel
theorem dX2_addFallsOf_27 : decode cX2_addFallsOf 27 = .ok (.iconst 0, 1) := by decide +kernel
theorem dX2_addFallsOf_28 : decode cX2_addFallsOf 28 = .ok (.istore 4, 2) := by decide +kernel
theorem dX2_addFallsOf_30 : decode cX2_addFallsOf 30 = .ok (.iload 4, 2) := by decide +kernel
theorem dX2_addFallsOf_32 : decode cX2_addFallsOf 32 = .ok (.aload_n 0, 1) := by decide +kernel
theorem dX2_addFallsOf_33 : decode cX2_addFallsOf 33 = .ok (.invokevirtual 72, 3) := by decide +kernel
theorem dX2_addFallsOf_36 : decode cX2_addFallsOf 36 = .ok (.if_icmp .ge 65, 3) := by decide +kernel
theorem dX2_addFallsOf_39 : decode cX2_addFallsOf 39 = .ok (.iload_n 2, 1) := by decide +kernel
theorem dX2_addFallsOf_40 : decode cX2_addFallsOf 40 = .ok (.ifCond .eq 61, 3) := by decide +kernel
theorem dX2_addFallsOf_43 : decode cX2_addFallsOf 43 = .ok (.iload 4, 2) := by decide +kernel
theorem dX2_addFallsOf_45 : decode cX2_addFallsOf 45 = .ok (.iload_n 3, 1) := by decide +kernel
theorem dX2_addFallsOf_46 : decode cX2_addFallsOf 46 = .ok (.iand, 1) := by decide +kernel
theorem dX2_addFallsOf_47 : decode cX2_addFallsOf 47 = .ok (.istore 5, 2) := by decide +kernel
theorem dX2_addFallsOf_49 : decode cX2_addFallsOf 49 = .ok (.iload 5, 2) := by decide +kernel
theorem dX2_addFallsOf_51 : decode cX2_addFallsOf 51 = .ok (.iload 4, 2) := by decide +kernel
theorem dX2_addFallsOf_53 : decode cX2_addFallsOf 53 = .ok (.if_icmp .ne 25, 3) := by decide +kernel
theorem dX2_addFallsOf_56 : decode cX2_addFallsOf 56 = .ok (.aload_n 0, 1) := by decide +kernel
theorem dX2_addFallsOf_57 : decode cX2_addFallsOf 57 = .ok (.iload 4, 2) := by decide +kernel
theorem dX2_addFallsOf_59 : decode cX2_addFallsOf 59 = .ok (.invokevirtual 82, 3) := by decide +kernel
theorem dX2_addFallsOf_62 : decode cX2_addFallsOf 62 = .ok (.aload_n 0, 1) := by decide +kernel
theorem dX2_addFallsOf_63 : decode cX2_addFallsOf 63 = .ok (.getfield 32, 3) := by decide +kernel
theorem dX2_addFallsOf_66 : decode cX2_addFallsOf 66 = .ok (.iload 4, 2) := by decide +kernel
theorem dX2_addFallsOf_68 : decode cX2_addFallsOf 68 = .ok (.aload_n 0, 1) := by decide +kernel
theorem dX2_addFallsOf_69 : decode cX2_addFallsOf 69 = .ok (.getfield 42, 3) := by decide +kernel
theorem dX2_addFallsOf_72 : decode cX2_addFallsOf 72 = .ok (.iload_n 1, 1) := by decide +kernel
theorem dX2_addFallsOf_73 : decode cX2_addFallsOf 73 = .ok (.iload_n 2, 1) := by decide +kernel
theorem dX2_addFallsOf_74 : decode cX2_addFallsOf 74 = .ok (.invokevirtual 95, 3) := by decide +kernel
theorem dX2_addFallsOf_77 : decode cX2_addFallsOf 77 = .ok (.iastore, 1) := by decide +kernel
theorem dX2_addFallsOf_78 : decode cX2_addFallsOf 78 = .ok (.aload_n 0, 1) := by decide +kernel
theorem dX2_addFallsOf_79 : decode cX2_addFallsOf 79 = .ok (.getfield 29, 3) := by decide +kernel
theorem dX2_addFallsOf_82 : decode cX2_addFallsOf 82 = .ok (.iload 4, 2) := by decide +kernel
theorem dX2_addFallsOf_84 : decode cX2_addFallsOf 84 = .ok (.dup2, 1) := by decide +kernel
theorem dX2_addFallsOf_85 : decode cX2_addFallsOf 85 = .ok (.iaload, 1) := by decide +kernel
theorem dX2_addFallsOf_86 : decode cX2_addFallsOf 86 = .ok (.aload_n 0, 1) := by decide +kernel
theorem dX2_addFallsOf_87 : decode cX2_addFallsOf 87 = .ok (.getfield 32, 3) := by decide +kernel
theorem dX2_addFallsOf_90 : decode cX2_addFallsOf 90 = .ok (.iload 5, 2) := by decide +kernel
theorem dX2_addFallsOf_92 : decode cX2_addFallsOf 92 = .ok (.iaload, 1) := by decide +kernel
theorem dX2_addFallsOf_93 : decode cX2_addFallsOf 93 = .ok (.ior, 1) := by decide +kernel
theorem dX2_addFallsOf_94 : decode cX2_addFallsOf 94 = .ok (.iastore, 1) := by decide +kernel
theorem dX2_addFallsOf_95 : decode cX2_addFallsOf 95 = .ok (.iinc 4 1, 3) := by decide +kernel
theorem dX2_addFallsOf_98 : decode cX2_addFallsOf 98 = .ok (.goto (-68), 3) := by decide +kernel
theorem dX2_addFallsOf_101 : decode cX2_addFallsOf 101 = .ok (.return_, 1) := by decide +kernel
theorem dX2_wishesIn_0 : decode cX2_wishesIn 0 = .ok (.iconst 0, 1) := by decide +kernel
theorem dX2_wishesIn_1 : decode cX2_wishesIn 1 = .ok (.istore_n 2, 1) := by decide +kernel
theorem dX2_wishesIn_2 : decode cX2_wishesIn 2 = .ok (.iconst 0, 1) := by decide +kernel
theorem dX2_wishesIn_3 : decode cX2_wishesIn 3 = .ok (.istore_n 3, 1) := by decide +kernel
theorem dX2_wishesIn_4 : decode cX2_wishesIn 4 = .ok (.iload_n 3, 1) := by decide +kernel
theorem dX2_wishesIn_5 : decode cX2_wishesIn 5 = .ok (.aload_n 0, 1) := by decide +kernel
theorem dX2_wishesIn_6 : decode cX2_wishesIn 6 = .ok (.getfield 15, 3) := by decide +kernel
theorem dX2_wishesIn_9 : decode cX2_wishesIn 9 = .ok (.if_icmp .ge 32, 3) := by decide +kernel
theorem dX2_wishesIn_12 : decode cX2_wishesIn 12 = .ok (.iload_n 2, 1) := by decide +kernel
theorem dX2_wishesIn_13 : decode cX2_wishesIn 13 = .ok (.aload_n 0, 1) := by decide +kernel
theorem dX2_wishesIn_14 : decode cX2_wishesIn 14 = .ok (.getfield 9, 3) := by decide +kernel
theorem dX2_wishesIn_17 : decode cX2_wishesIn 17 = .ok (.iload_n 3, 1) := by decide +kernel
theorem dX2_wishesIn_18 : decode cX2_wishesIn 18 = .ok (.iaload, 1) := by decide +kernel
theorem dX2_wishesIn_19 : decode cX2_wishesIn 19 = .ok (.bipush 8, 2) := by decide +kernel
theorem dX2_wishesIn_21 : decode cX2_wishesIn 21 = .ok (.idiv, 1) := by decide +kernel
theorem dX2_wishesIn_22 : decode cX2_wishesIn 22 = .ok (.iload_n 1, 1) := by decide +kernel
theorem dX2_wishesIn_23 : decode cX2_wishesIn 23 = .ok (.if_icmp .ne 9, 3) := by decide +kernel
theorem dX2_wishesIn_26 : decode cX2_wishesIn 26 = .ok (.iconst 1, 1) := by decide +kernel
theorem dX2_wishesIn_27 : decode cX2_wishesIn 27 = .ok (.iload_n 3, 1) := by decide +kernel
theorem dX2_wishesIn_28 : decode cX2_wishesIn 28 = .ok (.ishl, 1) := by decide +kernel
theorem dX2_wishesIn_29 : decode cX2_wishesIn 29 = .ok (.goto 4, 3) := by decide +kernel
theorem dX2_wishesIn_32 : decode cX2_wishesIn 32 = .ok (.iconst 0, 1) := by decide +kernel
theorem dX2_wishesIn_33 : decode cX2_wishesIn 33 = .ok (.ior, 1) := by decide +kernel
theorem dX2_wishesIn_34 : decode cX2_wishesIn 34 = .ok (.istore_n 2, 1) := by decide +kernel
theorem dX2_wishesIn_35 : decode cX2_wishesIn 35 = .ok (.iinc 3 1, 3) := by decide +kernel
theorem dX2_wishesIn_38 : decode cX2_wishesIn 38 = .ok (.goto (-34), 3) := by decide +kernel
theorem dX2_wishesIn_41 : decode cX2_wishesIn 41 = .ok (.iload_n 2, 1) := by decide +kernel
theorem dX2_wishesIn_42 : decode cX2_wishesIn 42 = .ok (.ireturn, 1) := by decide +kernel
theorem dX2_mend_0 : decode cX2_mend 0 = .ok (.iconst 0, 1) := by decide +kernel
theorem dX2_mend_1 : decode cX2_mend 1 = .ok (.istore_n 2, 1) := by decide +kernel
theorem dX2_mend_2 : decode cX2_mend 2 = .ok (.iload_n 2, 1) := by decide +kernel
theorem dX2_mend_3 : decode cX2_mend 3 = .ok (.aload_n 0, 1) := by decide +kernel
theorem dX2_mend_4 : decode cX2_mend 4 = .ok (.getfield 15, 3) := by decide +kernel
theorem dX2_mend_7 : decode cX2_mend 7 = .ok (.if_icmp .ge 66, 3) := by decide +kernel
theorem dX2_mend_10 : decode cX2_mend 10 = .ok (.iload_n 1, 1) := by decide +kernel
theorem dX2_mend_11 : decode cX2_mend 11 = .ok (.iload_n 2, 1) := by decide +kernel
theorem dX2_mend_12 : decode cX2_mend 12 = .ok (.iushr, 1) := by decide +kernel
theorem dX2_mend_13 : decode cX2_mend 13 = .ok (.iconst 1, 1) := by decide +kernel
theorem dX2_mend_14 : decode cX2_mend 14 = .ok (.iand, 1) := by decide +kernel
theorem dX2_mend_15 : decode cX2_mend 15 = .ok (.ifCond .eq 7, 3) := by decide +kernel
theorem dX2_mend_18 : decode cX2_mend 18 = .ok (.iconst 1, 1) := by decide +kernel
theorem dX2_mend_19 : decode cX2_mend 19 = .ok (.goto 4, 3) := by decide +kernel
theorem dX2_mend_22 : decode cX2_mend 22 = .ok (.iconst 0, 1) := by decide +kernel
theorem dX2_mend_23 : decode cX2_mend 23 = .ok (.istore_n 3, 1) := by decide +kernel
theorem dX2_mend_24 : decode cX2_mend 24 = .ok (.aload_n 0, 1) := by decide +kernel
theorem dX2_mend_25 : decode cX2_mend 25 = .ok (.getfield 42, 3) := by decide +kernel
theorem dX2_mend_28 : decode cX2_mend 28 = .ok (.getfield 98, 3) := by decide +kernel
theorem dX2_mend_31 : decode cX2_mend 31 = .ok (.aload_n 0, 1) := by decide +kernel
theorem dX2_mend_32 : decode cX2_mend 32 = .ok (.getfield 9, 3) := by decide +kernel
theorem dX2_mend_35 : decode cX2_mend 35 = .ok (.iload_n 2, 1) := by decide +kernel
theorem dX2_mend_36 : decode cX2_mend 36 = .ok (.iaload, 1) := by decide +kernel
theorem dX2_mend_37 : decode cX2_mend 37 = .ok (.iload_n 3, 1) := by decide +kernel
theorem dX2_mend_38 : decode cX2_mend 38 = .ok (.ifCond .eq 15, 3) := by decide +kernel
theorem dX2_mend_41 : decode cX2_mend 41 = .ok (.aload_n 0, 1) := by decide +kernel
theorem dX2_mend_42 : decode cX2_mend 42 = .ok (.getfield 38, 3) := by decide +kernel
theorem dX2_mend_45 : decode cX2_mend 45 = .ok (.getfield 76, 3) := by decide +kernel
theorem dX2_mend_48 : decode cX2_mend 48 = .ok (.iconst 0, 1) := by decide +kernel
theorem dX2_mend_49 : decode cX2_mend 49 = .ok (.iaload, 1) := by decide +kernel
theorem dX2_mend_50 : decode cX2_mend 50 = .ok (.goto 16, 3) := by decide +kernel
theorem dX2_mend_53 : decode cX2_mend 53 = .ok (.aload_n 0, 1) := by decide +kernel
theorem dX2_mend_54 : decode cX2_mend 54 = .ok (.getfield 38, 3) := by decide +kernel
theorem dX2_mend_57 : decode cX2_mend 57 = .ok (.aload_n 0, 1) := by decide +kernel
theorem dX2_mend_58 : decode cX2_mend 58 = .ok (.getfield 9, 3) := by decide +kernel
theorem dX2_mend_61 : decode cX2_mend 61 = .ok (.iload_n 2, 1) := by decide +kernel
theorem dX2_mend_62 : decode cX2_mend 62 = .ok (.iaload, 1) := by decide +kernel
theorem dX2_mend_63 : decode cX2_mend 63 = .ok (.invokevirtual 101, 3) := by decide +kernel
theorem dX2_mend_66 : decode cX2_mend 66 = .ok (.iastore, 1) := by decide +kernel
theorem dX2_mend_67 : decode cX2_mend 67 = .ok (.iinc 2 1, 3) := by decide +kernel
theorem dX2_mend_70 : decode cX2_mend 70 = .ok (.goto (-68), 3) := by decide +kernel
theorem dX2_mend_73 : decode cX2_mend 73 = .ok (.return_, 1) := by decide +kernel
theorem dX2_weighRows_0 : decode cX2_weighRows 0 = .ok (.aload_n 0, 1) := by decide +kernel
theorem dX2_weighRows_1 : decode cX2_weighRows 1 = .ok (.invokevirtual 72, 3) := by decide +kernel
theorem dX2_weighRows_4 : decode cX2_weighRows 4 = .ok (.iconst 1, 1) := by decide +kernel
theorem dX2_weighRows_5 : decode cX2_weighRows 5 = .ok (.isub, 1) := by decide +kernel
theorem dX2_weighRows_6 : decode cX2_weighRows 6 = .ok (.istore_n 1, 1) := by decide +kernel
theorem dX2_weighRows_7 : decode cX2_weighRows 7 = .ok (.aload_n 0, 1) := by decide +kernel
theorem dX2_weighRows_8 : decode cX2_weighRows 8 = .ok (.getfield 25, 3) := by decide +kernel
theorem dX2_weighRows_11 : decode cX2_weighRows 11 = .ok (.iload_n 1, 1) := by decide +kernel
theorem dX2_weighRows_12 : decode cX2_weighRows 12 = .ok (.lconst 0, 1) := by decide +kernel
theorem dX2_weighRows_13 : decode cX2_weighRows 13 = .ok (.lastore, 1) := by decide +kernel
theorem dX2_weighRows_14 : decode cX2_weighRows 14 = .ok (.iload_n 1, 1) := by decide +kernel
theorem dX2_weighRows_15 : decode cX2_weighRows 15 = .ok (.iconst 1, 1) := by decide +kernel
theorem dX2_weighRows_16 : decode cX2_weighRows 16 = .ok (.isub, 1) := by decide +kernel
theorem dX2_weighRows_17 : decode cX2_weighRows 17 = .ok (.istore_n 2, 1) := by decide +kernel
theorem dX2_weighRows_18 : decode cX2_weighRows 18 = .ok (.iload_n 2, 1) := by decide +kernel
theorem dX2_weighRows_19 : decode cX2_weighRows 19 = .ok (.ifCond .lt 37, 3) := by decide +kernel
theorem dX2_weighRows_22 : decode cX2_weighRows 22 = .ok (.aload_n 0, 1) := by decide +kernel
theorem dX2_weighRows_23 : decode cX2_weighRows 23 = .ok (.getfield 25, 3) := by decide +kernel
theorem dX2_weighRows_26 : decode cX2_weighRows 26 = .ok (.iload_n 2, 1) := by decide +kernel
theorem dX2_weighRows_27 : decode cX2_weighRows 27 = .ok (.aload_n 0, 1) := by decide +kernel
theorem dX2_weighRows_28 : decode cX2_weighRows 28 = .ok (.getfield 35, 3) := by decide +kernel
theorem dX2_weighRows_31 : decode cX2_weighRows 31 = .ok (.iload_n 2, 1) := by decide +kernel
theorem dX2_weighRows_32 : decode cX2_weighRows 32 = .ok (.iaload, 1) := by decide +kernel
theorem dX2_weighRows_33 : decode cX2_weighRows 33 = .ok (.i2l, 1) := by decide +kernel
theorem dX2_weighRows_34 : decode cX2_weighRows 34 = .ok (.aload_n 0, 1) := by decide +kernel
theorem dX2_weighRows_35 : decode cX2_weighRows 35 = .ok (.getfield 25, 3) := by decide +kernel
theorem dX2_weighRows_38 : decode cX2_weighRows 38 = .ok (.iload_n 2, 1) := by decide +kernel
theorem dX2_weighRows_39 : decode cX2_weighRows 39 = .ok (.iconst 1, 1) := by decide +kernel
theorem dX2_weighRows_40 : decode cX2_weighRows 40 = .ok (.aload_n 0, 1) := by decide +kernel
theorem dX2_weighRows_41 : decode cX2_weighRows 41 = .ok (.iload_n 2, 1) := by decide +kernel
theorem dX2_weighRows_42 : decode cX2_weighRows 42 = .ok (.invokevirtual 104, 3) := by decide +kernel
theorem dX2_weighRows_45 : decode cX2_weighRows 45 = .ok (.ishl, 1) := by decide +kernel
theorem dX2_weighRows_46 : decode cX2_weighRows 46 = .ok (.ior, 1) := by decide +kernel
theorem dX2_weighRows_47 : decode cX2_weighRows 47 = .ok (.laload, 1) := by decide +kernel
theorem dX2_weighRows_48 : decode cX2_weighRows 48 = .ok (.ladd, 1) := by decide +kernel
theorem dX2_weighRows_49 : decode cX2_weighRows 49 = .ok (.lastore, 1) := by decide +kernel
theorem dX2_weighRows_50 : decode cX2_weighRows 50 = .ok (.iinc 2 (-1), 3) := by decide +kernel
theorem dX2_weighRows_53 : decode cX2_weighRows 53 = .ok (.goto (-35), 3) := by decide +kernel
theorem dX2_weighRows_56 : decode cX2_weighRows 56 = .ok (.return_, 1) := by decide +kernel
theorem dX2_nextWish_0 : decode cX2_nextWish 0 = .ok (.iconst (-1), 1) := by decide +kernel
theorem dX2_nextWish_1 : decode cX2_nextWish 1 = .ok (.istore_n 2, 1) := by decide +kernel
theorem dX2_nextWish_2 : decode cX2_nextWish 2 = .ok (.iconst 0, 1) := by decide +kernel
theorem dX2_nextWish_3 : decode cX2_nextWish 3 = .ok (.istore_n 3, 1) := by decide +kernel
theorem dX2_nextWish_4 : decode cX2_nextWish 4 = .ok (.iload_n 3, 1) := by decide +kernel
theorem dX2_nextWish_5 : decode cX2_nextWish 5 = .ok (.aload_n 0, 1) := by decide +kernel
theorem dX2_nextWish_6 : decode cX2_nextWish 6 = .ok (.getfield 15, 3) := by decide +kernel
theorem dX2_nextWish_9 : decode cX2_nextWish 9 = .ok (.if_icmp .ge 60, 3) := by decide +kernel
theorem dX2_nextWish_12 : decode cX2_nextWish 12 = .ok (.iload_n 1, 1) := by decide +kernel
theorem dX2_nextWish_13 : decode cX2_nextWish 13 = .ok (.iload_n 3, 1) := by decide +kernel
theorem dX2_nextWish_14 : decode cX2_nextWish 14 = .ok (.iushr, 1) := by decide +kernel
theorem dX2_nextWish_15 : decode cX2_nextWish 15 = .ok (.iconst 1, 1) := by decide +kernel
theorem dX2_nextWish_16 : decode cX2_nextWish 16 = .ok (.iand, 1) := by decide +kernel
theorem dX2_nextWish_17 : decode cX2_nextWish 17 = .ok (.ifCond .ne 7, 3) := by decide +kernel
theorem dX2_nextWish_20 : decode cX2_nextWish 20 = .ok (.iconst 1, 1) := by decide +kernel
theorem dX2_nextWish_21 : decode cX2_nextWish 21 = .ok (.goto 4, 3) := by decide +kernel
theorem dX2_nextWish_24 : decode cX2_nextWish 24 = .ok (.iconst 0, 1) := by decide +kernel
theorem dX2_nextWish_25 : decode cX2_nextWish 25 = .ok (.istore 4, 2) := by decide +kernel
theorem dX2_nextWish_27 : decode cX2_nextWish 27 = .ok (.iload 4, 2) := by decide +kernel
theorem dX2_nextWish_29 : decode cX2_nextWish 29 = .ok (.ifCond .eq 34, 3) := by decide +kernel
theorem dX2_nextWish_32 : decode cX2_nextWish 32 = .ok (.iload_n 2, 1) := by decide +kernel
theorem dX2_nextWish_33 : decode cX2_nextWish 33 = .ok (.iconst (-1), 1) := by decide +kernel
theorem dX2_nextWish_34 : decode cX2_nextWish 34 = .ok (.if_icmp .eq 27, 3) := by decide +kernel
theorem dX2_nextWish_37 : decode cX2_nextWish 37 = .ok (.aload_n 0, 1) := by decide +kernel
theorem dX2_nextWish_38 : decode cX2_nextWish 38 = .ok (.getfield 25, 3) := by decide +kernel
theorem dX2_nextWish_41 : decode cX2_nextWish 41 = .ok (.iload_n 1, 1) := by decide +kernel
theorem dX2_nextWish_42 : decode cX2_nextWish 42 = .ok (.iconst 1, 1) := by decide +kernel
theorem dX2_nextWish_43 : decode cX2_nextWish 43 = .ok (.iload_n 3, 1) := by decide +kernel
theorem dX2_nextWish_44 : decode cX2_nextWish 44 = .ok (.ishl, 1) := by decide +kernel
theorem dX2_nextWish_45 : decode cX2_nextWish 45 = .ok (.ior, 1) := by decide +kernel
theorem dX2_nextWish_46 : decode cX2_nextWish 46 = .ok (.laload, 1) := by decide +kernel
theorem dX2_nextWish_47 : decode cX2_nextWish 47 = .ok (.aload_n 0, 1) := by decide +kernel
theorem dX2_nextWish_48 : decode cX2_nextWish 48 = .ok (.getfield 25, 3) := by decide +kernel
theorem dX2_nextWish_51 : decode cX2_nextWish 51 = .ok (.iload_n 1, 1) := by decide +kernel
theorem dX2_nextWish_52 : decode cX2_nextWish 52 = .ok (.iconst 1, 1) := by decide +kernel
theorem dX2_nextWish_53 : decode cX2_nextWish 53 = .ok (.iload_n 2, 1) := by decide +kernel
theorem dX2_nextWish_54 : decode cX2_nextWish 54 = .ok (.ishl, 1) := by decide +kernel
theorem dX2_nextWish_55 : decode cX2_nextWish 55 = .ok (.ior, 1) := by decide +kernel
theorem dX2_nextWish_56 : decode cX2_nextWish 56 = .ok (.laload, 1) := by decide +kernel
theorem dX2_nextWish_57 : decode cX2_nextWish 57 = .ok (.lcmp, 1) := by decide +kernel
theorem dX2_nextWish_58 : decode cX2_nextWish 58 = .ok (.ifCond .ge 5, 3) := by decide +kernel
theorem dX2_nextWish_61 : decode cX2_nextWish 61 = .ok (.iload_n 3, 1) := by decide +kernel
theorem dX2_nextWish_62 : decode cX2_nextWish 62 = .ok (.istore_n 2, 1) := by decide +kernel
theorem dX2_nextWish_63 : decode cX2_nextWish 63 = .ok (.iinc 3 1, 3) := by decide +kernel
theorem dX2_nextWish_66 : decode cX2_nextWish 66 = .ok (.goto (-62), 3) := by decide +kernel
theorem dX2_nextWish_69 : decode cX2_nextWish 69 = .ok (.iload_n 2, 1) := by decide +kernel
theorem dX2_nextWish_70 : decode cX2_nextWish 70 = .ok (.iconst 0, 1) := by decide +kernel
theorem dX2_nextWish_71 : decode cX2_nextWish 71 = .ok (.invokestatic 107, 3) := by decide +kernel
theorem dX2_nextWish_74 : decode cX2_nextWish 74 = .ok (.ireturn, 1) := by decide +kernel
theorem dX2_keepRow_0 : decode cX2_keepRow 0 = .ok (.iconst 0, 1) := by decide +kernel
theorem dX2_keepRow_1 : decode cX2_keepRow 1 = .ok (.istore_n 1, 1) := by decide +kernel
theorem dX2_keepRow_2 : decode cX2_keepRow 2 = .ok (.aload_n 0, 1) := by decide +kernel
theorem dX2_keepRow_3 : decode cX2_keepRow 3 = .ok (.aload_n 0, 1) := by decide +kernel
theorem dX2_keepRow_4 : decode cX2_keepRow 4 = .ok (.getfield 15, 3) := by decide +kernel
theorem dX2_keepRow_7 : decode cX2_keepRow 7 = .ok (.putfield 22, 3) := by decide +kernel
theorem dX2_keepRow_10 : decode cX2_keepRow 10 = .ok (.iconst 0, 1) := by decide +kernel
theorem dX2_keepRow_11 : decode cX2_keepRow 11 = .ok (.istore_n 2, 1) := by decide +kernel
theorem dX2_keepRow_12 : decode cX2_keepRow 12 = .ok (.iload_n 2, 1) := by decide +kernel
theorem dX2_keepRow_13 : decode cX2_keepRow 13 = .ok (.aload_n 0, 1) := by decide +kernel
theorem dX2_keepRow_14 : decode cX2_keepRow 14 = .ok (.getfield 22, 3) := by decide +kernel
theorem dX2_keepRow_17 : decode cX2_keepRow 17 = .ok (.if_icmp .ge 31, 3) := by decide +kernel
theorem dX2_keepRow_20 : decode cX2_keepRow 20 = .ok (.aload_n 0, 1) := by decide +kernel
theorem dX2_keepRow_21 : decode cX2_keepRow 21 = .ok (.getfield 19, 3) := by decide +kernel
theorem dX2_keepRow_24 : decode cX2_keepRow 24 = .ok (.iload_n 2, 1) := by decide +kernel
theorem dX2_keepRow_25 : decode cX2_keepRow 25 = .ok (.aload_n 0, 1) := by decide +kernel
theorem dX2_keepRow_26 : decode cX2_keepRow 26 = .ok (.iload_n 1, 1) := by decide +kernel
theorem dX2_keepRow_27 : decode cX2_keepRow 27 = .ok (.invokevirtual 104, 3) := by decide +kernel
theorem dX2_keepRow_30 : decode cX2_keepRow 30 = .ok (.iastore, 1) := by decide +kernel
theorem dX2_keepRow_31 : decode cX2_keepRow 31 = .ok (.iload_n 1, 1) := by decide +kernel
theorem dX2_keepRow_32 : decode cX2_keepRow 32 = .ok (.iconst 1, 1) := by decide +kernel
theorem dX2_keepRow_33 : decode cX2_keepRow 33 = .ok (.aload_n 0, 1) := by decide +kernel
theorem dX2_keepRow_34 : decode cX2_keepRow 34 = .ok (.getfield 19, 3) := by decide +kernel
theorem dX2_keepRow_37 : decode cX2_keepRow 37 = .ok (.iload_n 2, 1) := by decide +kernel
theorem dX2_keepRow_38 : decode cX2_keepRow 38 = .ok (.iaload, 1) := by decide +kernel
theorem dX2_keepRow_39 : decode cX2_keepRow 39 = .ok (.ishl, 1) := by decide +kernel
theorem dX2_keepRow_40 : decode cX2_keepRow 40 = .ok (.ior, 1) := by decide +kernel
theorem dX2_keepRow_41 : decode cX2_keepRow 41 = .ok (.istore_n 1, 1) := by decide +kernel
theorem dX2_keepRow_42 : decode cX2_keepRow 42 = .ok (.iinc 2 1, 3) := by decide +kernel
theorem dX2_keepRow_45 : decode cX2_keepRow 45 = .ok (.goto (-33), 3) := by decide +kernel
theorem dX2_keepRow_48 : decode cX2_keepRow 48 = .ok (.return_, 1) := by decide +kernel
theorem dX2_leastSum_0 : decode cX2_leastSum 0 = .ok (.lconst 0, 1) := by decide +kernel
theorem dX2_leastSum_1 : decode cX2_leastSum 1 = .ok (.lstore_n 1, 1) := by decide +kernel
theorem dX2_leastSum_2 : decode cX2_leastSum 2 = .ok (.iconst 0, 1) := by decide +kernel
theorem dX2_leastSum_3 : decode cX2_leastSum 3 = .ok (.istore_n 3, 1) := by decide +kernel
theorem dX2_leastSum_4 : decode cX2_leastSum 4 = .ok (.iload_n 3, 1) := by decide +kernel
theorem dX2_leastSum_5 : decode cX2_leastSum 5 = .ok (.aload_n 0, 1) := by decide +kernel
theorem dX2_leastSum_6 : decode cX2_leastSum 6 = .ok (.getfield 15, 3) := by decide +kernel
theorem dX2_leastSum_9 : decode cX2_leastSum 9 = .ok (.if_icmp .ge 72, 3) := by decide +kernel
theorem dX2_leastSum_12 : decode cX2_leastSum 12 = .ok (.iconst (-1), 1) := by decide +kernel
theorem dX2_leastSum_13 : decode cX2_leastSum 13 = .ok (.istore 4, 2) := by decide +kernel
theorem dX2_leastSum_15 : decode cX2_leastSum 15 = .ok (.iconst 0, 1) := by decide +kernel
theorem dX2_leastSum_16 : decode cX2_leastSum 16 = .ok (.istore 5, 2) := by decide +kernel
theorem dX2_leastSum_18 : decode cX2_leastSum 18 = .ok (.iload 5, 2) := by decide +kernel
theorem dX2_leastSum_20 : decode cX2_leastSum 20 = .ok (.aload_n 0, 1) := by decide +kernel
theorem dX2_leastSum_21 : decode cX2_leastSum 21 = .ok (.invokevirtual 72, 3) := by decide +kernel
theorem dX2_leastSum_24 : decode cX2_leastSum 24 = .ok (.if_icmp .ge 45, 3) := by decide +kernel
theorem dX2_leastSum_27 : decode cX2_leastSum 27 = .ok (.iload 5, 2) := by decide +kernel
theorem dX2_leastSum_29 : decode cX2_leastSum 29 = .ok (.invokestatic 110, 3) := by decide +kernel
theorem dX2_leastSum_32 : decode cX2_leastSum 32 = .ok (.iload_n 3, 1) := by decide +kernel
theorem dX2_leastSum_33 : decode cX2_leastSum 33 = .ok (.if_icmp .ne 30, 3) := by decide +kernel
theorem dX2_leastSum_36 : decode cX2_leastSum 36 = .ok (.iload 4, 2) := by decide +kernel
theorem dX2_leastSum_38 : decode cX2_leastSum 38 = .ok (.iconst (-1), 1) := by decide +kernel
theorem dX2_leastSum_39 : decode cX2_leastSum 39 = .ok (.if_icmp .eq 15, 3) := by decide +kernel
theorem dX2_leastSum_42 : decode cX2_leastSum 42 = .ok (.aload_n 0, 1) := by decide +kernel
theorem dX2_leastSum_43 : decode cX2_leastSum 43 = .ok (.getfield 35, 3) := by decide +kernel
theorem dX2_leastSum_46 : decode cX2_leastSum 46 = .ok (.iload 5, 2) := by decide +kernel
theorem dX2_leastSum_48 : decode cX2_leastSum 48 = .ok (.iaload, 1) := by decide +kernel
theorem dX2_leastSum_49 : decode cX2_leastSum 49 = .ok (.iload 4, 2) := by decide +kernel
theorem dX2_leastSum_51 : decode cX2_leastSum 51 = .ok (.if_icmp .ge 12, 3) := by decide +kernel
theorem dX2_leastSum_54 : decode cX2_leastSum 54 = .ok (.aload_n 0, 1) := by decide +kernel
theorem dX2_leastSum_55 : decode cX2_leastSum 55 = .ok (.getfield 35, 3) := by decide +kernel
theorem dX2_leastSum_58 : decode cX2_leastSum 58 = .ok (.iload 5, 2) := by decide +kernel
theorem dX2_leastSum_60 : decode cX2_leastSum 60 = .ok (.iaload, 1) := by decide +kernel
theorem dX2_leastSum_61 : decode cX2_leastSum 61 = .ok (.istore 4, 2) := by decide +kernel
theorem dX2_leastSum_63 : decode cX2_leastSum 63 = .ok (.iinc 5 1, 3) := by decide +kernel
theorem dX2_leastSum_66 : decode cX2_leastSum 66 = .ok (.goto (-48), 3) := by decide +kernel
theorem dX2_leastSum_69 : decode cX2_leastSum 69 = .ok (.lload_n 1, 1) := by decide +kernel
theorem dX2_leastSum_70 : decode cX2_leastSum 70 = .ok (.iload 4, 2) := by decide +kernel
theorem dX2_leastSum_72 : decode cX2_leastSum 72 = .ok (.i2l, 1) := by decide +kernel
theorem dX2_leastSum_73 : decode cX2_leastSum 73 = .ok (.ladd, 1) := by decide +kernel
theorem dX2_leastSum_74 : decode cX2_leastSum 74 = .ok (.lstore_n 1, 1) := by decide +kernel
theorem dX2_leastSum_75 : decode cX2_leastSum 75 = .ok (.iinc 3 1, 3) := by decide +kernel
theorem dX2_leastSum_78 : decode cX2_leastSum 78 = .ok (.goto (-74), 3) := by decide +kernel
theorem dX2_leastSum_81 : decode cX2_leastSum 81 = .ok (.lload_n 1, 1) := by decide +kernel
theorem dX2_leastSum_82 : decode cX2_leastSum 82 = .ok (.lreturn, 1) := by decide +kernel
theorem dX3_init_0 : decode cX3_init 0 = .ok (.aload_n 0, 1) := by decide +kernel
theorem dX3_init_1 : decode cX3_init 1 = .ok (.invokespecial 5, 3) := by decide +kernel
theorem dX3_init_4 : decode cX3_init 4 = .ok (.aload_n 0, 1) := by decide +kernel
theorem dX3_init_5 : decode cX3_init 5 = .ok (.iconst 0, 1) := by decide +kernel
theorem dX3_init_6 : decode cX3_init 6 = .ok (.putfield 11, 3) := by decide +kernel
theorem dX3_init_9 : decode cX3_init 9 = .ok (.aload_n 0, 1) := by decide +kernel
theorem dX3_init_10 : decode cX3_init 10 = .ok (.iconst 0, 1) := by decide +kernel
theorem dX3_init_11 : decode cX3_init 11 = .ok (.newarray .int, 2) := by decide +kernel
theorem dX3_init_13 : decode cX3_init 13 = .ok (.putfield 15, 3) := by decide +kernel
theorem dX3_init_16 : decode cX3_init 16 = .ok (.aload_n 0, 1) := by decide +kernel
theorem dX3_init_17 : decode cX3_init 17 = .ok (.iconst 0, 1) := by decide +kernel
theorem dX3_init_18 : decode cX3_init 18 = .ok (.putfield 19, 3) := by decide +kernel
theorem dX3_init_21 : decode cX3_init 21 = .ok (.aload_n 0, 1) := by decide +kernel
theorem dX3_init_22 : decode cX3_init 22 = .ok (.iconst 0, 1) := by decide +kernel
theorem dX3_init_23 : decode cX3_init 23 = .ok (.putfield 22, 3) := by decide +kernel
theorem dX3_init_26 : decode cX3_init 26 = .ok (.aload_n 0, 1) := by decide +kernel
theorem dX3_init_27 : decode cX3_init 27 = .ok (.iconst (-1), 1) := by decide +kernel
theorem dX3_init_28 : decode cX3_init 28 = .ok (.putfield 25, 3) := by decide +kernel
theorem dX3_init_31 : decode cX3_init 31 = .ok (.aload_n 0, 1) := by decide +kernel
theorem dX3_init_32 : decode cX3_init 32 = .ok (.iconst 0, 1) := by decide +kernel
theorem dX3_init_33 : decode cX3_init 33 = .ok (.putfield 28, 3) := by decide +kernel
theorem dX3_init_36 : decode cX3_init 36 = .ok (.aload_n 0, 1) := by decide +kernel
theorem dX3_init_37 : decode cX3_init 37 = .ok (.iconst 0, 1) := by decide +kernel
theorem dX3_init_38 : decode cX3_init 38 = .ok (.putfield 31, 3) := by decide +kernel
theorem dX3_init_41 : decode cX3_init 41 = .ok (.aload_n 0, 1) := by decide +kernel
theorem dX3_init_42 : decode cX3_init 42 = .ok (.bipush 48, 2) := by decide +kernel
theorem dX3_init_44 : decode cX3_init 44 = .ok (.newarray .int, 2) := by decide +kernel
theorem dX3_init_46 : decode cX3_init 46 = .ok (.putfield 36, 3) := by decide +kernel
theorem dX3_init_49 : decode cX3_init 49 = .ok (.aload_n 0, 1) := by decide +kernel
theorem dX3_init_50 : decode cX3_init 50 = .ok (.iconst 0, 1) := by decide +kernel
theorem dX3_init_51 : decode cX3_init 51 = .ok (.putfield 39, 3) := by decide +kernel
theorem dX3_init_54 : decode cX3_init 54 = .ok (.aload_n 0, 1) := by decide +kernel
theorem dX3_init_55 : decode cX3_init 55 = .ok (.sipush 400, 3) := by decide +kernel
theorem dX3_init_58 : decode cX3_init 58 = .ok (.newarray .int, 2) := by decide +kernel
theorem dX3_init_60 : decode cX3_init 60 = .ok (.putfield 42, 3) := by decide +kernel
theorem dX3_init_63 : decode cX3_init 63 = .ok (.aload_n 0, 1) := by decide +kernel
theorem dX3_init_64 : decode cX3_init 64 = .ok (.iconst 0, 1) := by decide +kernel
theorem dX3_init_65 : decode cX3_init 65 = .ok (.putfield 45, 3) := by decide +kernel
theorem dX3_init_68 : decode cX3_init 68 = .ok (.return_, 1) := by decide +kernel
theorem dX3_read_0 : decode cX3_read 0 = .ok (.aload_n 0, 1) := by decide +kernel
theorem dX3_read_1 : decode cX3_read 1 = .ok (.aload_n 1, 1) := by decide +kernel
theorem dX3_read_2 : decode cX3_read 2 = .ok (.putfield 15, 3) := by decide +kernel
theorem dX3_read_5 : decode cX3_read 5 = .ok (.aload_n 0, 1) := by decide +kernel
theorem dX3_read_6 : decode cX3_read 6 = .ok (.iload_n 2, 1) := by decide +kernel
theorem dX3_read_7 : decode cX3_read 7 = .ok (.aload_n 1, 1) := by decide +kernel
theorem dX3_read_8 : decode cX3_read 8 = .ok (.arraylength, 1) := by decide +kernel
theorem dX3_read_9 : decode cX3_read 9 = .ok (.invokestatic 48, 3) := by decide +kernel
theorem dX3_read_12 : decode cX3_read 12 = .ok (.putfield 19, 3) := by decide +kernel
theorem dX3_read_15 : decode cX3_read 15 = .ok (.aload_n 0, 1) := by decide +kernel
theorem dX3_read_16 : decode cX3_read 16 = .ok (.iconst 0, 1) := by decide +kernel
theorem dX3_read_17 : decode cX3_read 17 = .ok (.putfield 22, 3) := by decide +kernel
theorem dX3_read_20 : decode cX3_read 20 = .ok (.aload_n 0, 1) := by decide +kernel
theorem dX3_read_21 : decode cX3_read 21 = .ok (.iconst 0, 1) := by decide +kernel
theorem dX3_read_22 : decode cX3_read 22 = .ok (.putfield 31, 3) := by decide +kernel
theorem dX3_read_25 : decode cX3_read 25 = .ok (.aload_n 0, 1) := by decide +kernel
theorem dX3_read_26 : decode cX3_read 26 = .ok (.iconst 0, 1) := by decide +kernel
theorem dX3_read_27 : decode cX3_read 27 = .ok (.putfield 39, 3) := by decide +kernel
theorem dX3_read_30 : decode cX3_read 30 = .ok (.aload_n 0, 1) := by decide +kernel
theorem dX3_read_31 : decode cX3_read 31 = .ok (.iconst 0, 1) := by decide +kernel
theorem dX3_read_32 : decode cX3_read 32 = .ok (.putfield 45, 3) := by decide +kernel
theorem dX3_read_35 : decode cX3_read 35 = .ok (.aload_n 0, 1) := by decide +kernel
theorem dX3_read_36 : decode cX3_read 36 = .ok (.invokevirtual 54, 3) := by decide +kernel
theorem dX3_read_39 : decode cX3_read 39 = .ok (.iconst 0, 1) := by decide +kernel
theorem dX3_read_40 : decode cX3_read 40 = .ok (.istore_n 3, 1) := by decide +kernel
theorem dX3_read_41 : decode cX3_read 41 = .ok (.iload_n 3, 1) := by decide +kernel
theorem dX3_read_42 : decode cX3_read 42 = .ok (.bipush 12, 2) := by decide +kernel
theorem dX3_read_44 : decode cX3_read 44 = .ok (.if_icmp .ge 73, 3) := by decide +kernel
theorem dX3_read_47 : decode cX3_read 47 = .ok (.aload_n 0, 1) := by decide +kernel
theorem dX3_read_48 : decode cX3_read 48 = .ok (.invokevirtual 57, 3) := by decide +kernel
theorem dX3_read_51 : decode cX3_read 51 = .ok (.ifCond .ne 5, 3) := by decide +kernel
theorem dX3_read_54 : decode cX3_read 54 = .ok (.aconst_null, 1) := by decide +kernel
theorem dX3_read_55 : decode cX3_read 55 = .ok (.areturn, 1) := by decide +kernel
theorem dX3_read_56 : decode cX3_read 56 = .ok (.aload_n 0, 1) := by decide +kernel
theorem dX3_read_57 : decode cX3_read 57 = .ok (.getfield 25, 3) := by decide +kernel
theorem dX3_read_60 : decode cX3_read 60 = .ok (.iconst (-1), 1) := by decide +kernel
theorem dX3_read_61 : decode cX3_read 61 = .ok (.if_icmp .ne 35, 3) := by decide +kernel
theorem dX3_read_64 : decode cX3_read 64 = .ok (.new 34, 3) := by decide +kernel
theorem dX3_read_67 : decode cX3_read 67 = .ok (.dup, 1) := by decide +kernel
theorem dX3_read_68 : decode cX3_read 68 = .ok (.aload_n 0, 1) := by decide +kernel
theorem dX3_read_69 : decode cX3_read 69 = .ok (.getfield 36, 3) := by decide +kernel
theorem dX3_read_72 : decode cX3_read 72 = .ok (.aload_n 0, 1) := by decide +kernel
theorem dX3_read_73 : decode cX3_read 73 = .ok (.getfield 39, 3) := by decide +kernel
theorem dX3_read_76 : decode cX3_read 76 = .ok (.iconst 4, 1) := by decide +kernel
theorem dX3_read_77 : decode cX3_read 77 = .ok (.imul, 1) := by decide +kernel
theorem dX3_read_78 : decode cX3_read 78 = .ok (.invokestatic 61, 3) := by decide +kernel
theorem dX3_read_81 : decode cX3_read 81 = .ok (.aload_n 0, 1) := by decide +kernel
theorem dX3_read_82 : decode cX3_read 82 = .ok (.getfield 42, 3) := by decide +kernel
theorem dX3_read_85 : decode cX3_read 85 = .ok (.aload_n 0, 1) := by decide +kernel
theorem dX3_read_86 : decode cX3_read 86 = .ok (.getfield 45, 3) := by decide +kernel
theorem dX3_read_89 : decode cX3_read 89 = .ok (.invokestatic 61, 3) := by decide +kernel
theorem dX3_read_92 : decode cX3_read 92 = .ok (.invokespecial 67, 3) := by decide +kernel
theorem dX3_read_95 : decode cX3_read 95 = .ok (.areturn, 1) := by decide +kernel
theorem dX3_read_96 : decode cX3_read 96 = .ok (.aload_n 0, 1) := by decide +kernel
theorem dX3_read_97 : decode cX3_read 97 = .ok (.getfield 25, 3) := by decide +kernel
theorem dX3_read_100 : decode cX3_read 100 = .ok (.bipush 59, 2) := by decide +kernel
theorem dX3_read_102 : decode cX3_read 102 = .ok (.if_icmp .eq 5, 3) := by decide +kernel
theorem dX3_read_105 : decode cX3_read 105 = .ok (.aconst_null, 1) := by decide +kernel
theorem dX3_read_106 : decode cX3_read 106 = .ok (.areturn, 1) := by decide +kernel
theorem dX3_read_107 : decode cX3_read 107 = .ok (.aload_n 0, 1) := by decide +kernel
theorem dX3_read_108 : decode cX3_read 108 = .ok (.invokevirtual 54, 3) := by decide +kernel
theorem dX3_read_111 : decode cX3_read 111 = .ok (.iinc 3 1, 3) := by decide +kernel
theorem dX3_read_114 : decode cX3_read 114 = .ok (.goto (-73), 3) := by decide +kernel
theorem dX3_read_117 : decode cX3_read 117 = .ok (.aconst_null, 1) := by decide +kernel
theorem dX3_read_118 : decode cX3_read 118 = .ok (.areturn, 1) := by decide +kernel
theorem dX3_advance_0 : decode cX3_advance 0 = .ok (.aload_n 0, 1) := by decide +kernel
theorem dX3_advance_1 : decode cX3_advance 1 = .ok (.getfield 22, 3) := by decide +kernel
theorem dX3_advance_4 : decode cX3_advance 4 = .ok (.aload_n 0, 1) := by decide +kernel
theorem dX3_advance_5 : decode cX3_advance 5 = .ok (.getfield 19, 3) := by decide +kernel
theorem dX3_advance_8 : decode cX3_advance 8 = .ok (.if_icmp .ge 30, 3) := by decide +kernel
theorem dX3_advance_11 : decode cX3_advance 11 = .ok (.aload_n 0, 1) := by decide +kernel
theorem dX3_advance_12 : decode cX3_advance 12 = .ok (.getfield 15, 3) := by decide +kernel
theorem dX3_advance_15 : decode cX3_advance 15 = .ok (.aload_n 0, 1) := by decide +kernel
theorem dX3_advance_16 : decode cX3_advance 16 = .ok (.getfield 22, 3) := by decide +kernel
theorem dX3_advance_19 : decode cX3_advance 19 = .ok (.iaload, 1) := by decide +kernel
theorem dX3_advance_20 : decode cX3_advance 20 = .ok (.bipush 32, 2) := by decide +kernel
theorem dX3_advance_22 : decode cX3_advance 22 = .ok (.if_icmp .ne 16, 3) := by decide +kernel
theorem dX3_advance_25 : decode cX3_advance 25 = .ok (.aload_n 0, 1) := by decide +kernel
theorem dX3_advance_26 : decode cX3_advance 26 = .ok (.dup, 1) := by decide +kernel
theorem dX3_advance_27 : decode cX3_advance 27 = .ok (.getfield 22, 3) := by decide +kernel
theorem dX3_advance_30 : decode cX3_advance 30 = .ok (.iconst 1, 1) := by decide +kernel
theorem dX3_advance_31 : decode cX3_advance 31 = .ok (.iadd, 1) := by decide +kernel
theorem dX3_advance_32 : decode cX3_advance 32 = .ok (.putfield 22, 3) := by decide +kernel
theorem dX3_advance_35 : decode cX3_advance 35 = .ok (.goto (-35), 3) := by decide +kernel
theorem dX3_advance_38 : decode cX3_advance 38 = .ok (.aload_n 0, 1) := by decide +kernel
theorem dX3_advance_39 : decode cX3_advance 39 = .ok (.aload_n 0, 1) := by decide +kernel
theorem dX3_advance_40 : decode cX3_advance 40 = .ok (.getfield 22, 3) := by decide +kernel
theorem dX3_advance_43 : decode cX3_advance 43 = .ok (.putfield 11, 3) := by decide +kernel
theorem dX3_advance_46 : decode cX3_advance 46 = .ok (.aload_n 0, 1) := by decide +kernel
theorem dX3_advance_47 : decode cX3_advance 47 = .ok (.getfield 22, 3) := by decide +kernel
theorem dX3_advance_50 : decode cX3_advance 50 = .ok (.aload_n 0, 1) := by decide +kernel
theorem dX3_advance_51 : decode cX3_advance 51 = .ok (.getfield 19, 3) := by decide +kernel
theorem dX3_advance_54 : decode cX3_advance 54 = .ok (.if_icmp .lt 11, 3) := by decide +kernel
theorem dX3_advance_57 : decode cX3_advance 57 = .ok (.aload_n 0, 1) := by decide +kernel
theorem dX3_advance_58 : decode cX3_advance 58 = .ok (.iconst (-1), 1) := by decide +kernel
theorem dX3_advance_59 : decode cX3_advance 59 = .ok (.putfield 25, 3) := by decide +kernel
theorem dX3_advance_62 : decode cX3_advance 62 = .ok (.goto 70, 3) := by decide +kernel
theorem dX3_advance_65 : decode cX3_advance 65 = .ok (.aload_n 0, 1) := by decide +kernel
theorem dX3_advance_66 : decode cX3_advance 66 = .ok (.getfield 15, 3) := by decide +kernel
theorem dX3_advance_69 : decode cX3_advance 69 = .ok (.aload_n 0, 1) := by decide +kernel
theorem dX3_advance_70 : decode cX3_advance 70 = .ok (.getfield 22, 3) := by decide +kernel
theorem dX3_advance_73 : decode cX3_advance 73 = .ok (.iaload, 1) := by decide +kernel
theorem dX3_advance_74 : decode cX3_advance 74 = .ok (.invokestatic 70, 3) := by decide +kernel
theorem dX3_advance_77 : decode cX3_advance 77 = .ok (.ifCond .eq 10, 3) := by decide +kernel
theorem dX3_advance_80 : decode cX3_advance 80 = .ok (.aload_n 0, 1) := by decide +kernel
theorem dX3_advance_81 : decode cX3_advance 81 = .ok (.invokevirtual 74, 3) := by decide +kernel
theorem dX3_advance_84 : decode cX3_advance 84 = .ok (.goto 48, 3) := by decide +kernel
theorem dX3_advance_87 : decode cX3_advance 87 = .ok (.aload_n 0, 1) := by decide +kernel
theorem dX3_advance_88 : decode cX3_advance 88 = .ok (.getfield 15, 3) := by decide +kernel
theorem dX3_advance_91 : decode cX3_advance 91 = .ok (.aload_n 0, 1) := by decide +kernel
theorem dX3_advance_92 : decode cX3_advance 92 = .ok (.getfield 22, 3) := by decide +kernel
theorem dX3_advance_95 : decode cX3_advance 95 = .ok (.iaload, 1) := by decide +kernel
theorem dX3_advance_96 : decode cX3_advance 96 = .ok (.invokestatic 77, 3) := by decide +kernel
theorem dX3_advance_99 : decode cX3_advance 99 = .ok (.ifCond .eq 10, 3) := by decide +kernel
theorem dX3_advance_102 : decode cX3_advance 102 = .ok (.aload_n 0, 1) := by decide +kernel
theorem dX3_advance_103 : decode cX3_advance 103 = .ok (.invokevirtual 80, 3) := by decide +kernel
theorem dX3_advance_106 : decode cX3_advance 106 = .ok (.goto 26, 3) := by decide +kernel
theorem dX3_advance_109 : decode cX3_advance 109 = .ok (.aload_n 0, 1) := by decide +kernel
theorem dX3_advance_110 : decode cX3_advance 110 = .ok (.aload_n 0, 1) := by decide +kernel
theorem dX3_advance_111 : decode cX3_advance 111 = .ok (.getfield 15, 3) := by decide +kernel
theorem dX3_advance_114 : decode cX3_advance 114 = .ok (.aload_n 0, 1) := by decide +kernel
theorem dX3_advance_115 : decode cX3_advance 115 = .ok (.getfield 22, 3) := by decide +kernel
theorem dX3_advance_118 : decode cX3_advance 118 = .ok (.iaload, 1) := by decide +kernel
theorem dX3_advance_119 : decode cX3_advance 119 = .ok (.putfield 25, 3) := by decide +kernel
theorem dX3_advance_122 : decode cX3_advance 122 = .ok (.aload_n 0, 1) := by decide +kernel
theorem dX3_advance_123 : decode cX3_advance 123 = .ok (.dup, 1) := by decide +kernel
theorem dX3_advance_124 : decode cX3_advance 124 = .ok (.getfield 22, 3) := by decide +kernel
theorem dX3_advance_127 : decode cX3_advance 127 = .ok (.iconst 1, 1) := by decide +kernel
theorem dX3_advance_128 : decode cX3_advance 128 = .ok (.iadd, 1) := by decide +kernel
theorem dX3_advance_129 : decode cX3_advance 129 = .ok (.putfield 22, 3) := by decide +kernel
theorem dX3_advance_132 : decode cX3_advance 132 = .ok (.return_, 1) := by decide +kernel
theorem dX3_isLetter_0 : decode cX3_isLetter 0 = .ok (.iload_n 0, 1) := by decide +kernel
theorem dX3_isLetter_1 : decode cX3_isLetter 1 = .ok (.bipush 97, 2) := by decide +kernel
theorem dX3_isLetter_3 : decode cX3_isLetter 3 = .ok (.if_icmp .lt 13, 3) := by decide +kernel
theorem dX3_isLetter_6 : decode cX3_isLetter 6 = .ok (.iload_n 0, 1) := by decide +kernel
theorem dX3_isLetter_7 : decode cX3_isLetter 7 = .ok (.bipush 122, 2) := by decide +kernel
theorem dX3_isLetter_9 : decode cX3_isLetter 9 = .ok (.if_icmp .gt 7, 3) := by decide +kernel
theorem dX3_isLetter_12 : decode cX3_isLetter 12 = .ok (.iconst 1, 1) := by decide +kernel
theorem dX3_isLetter_13 : decode cX3_isLetter 13 = .ok (.goto 4, 3) := by decide +kernel
theorem dX3_isLetter_16 : decode cX3_isLetter 16 = .ok (.iconst 0, 1) := by decide +kernel
theorem dX3_isLetter_17 : decode cX3_isLetter 17 = .ok (.ireturn, 1) := by decide +kernel
theorem dX3_isDigit_0 : decode cX3_isDigit 0 = .ok (.iload_n 0, 1) := by decide +kernel
theorem dX3_isDigit_1 : decode cX3_isDigit 1 = .ok (.bipush 48, 2) := by decide +kernel
theorem dX3_isDigit_3 : decode cX3_isDigit 3 = .ok (.if_icmp .lt 13, 3) := by decide +kernel
theorem dX3_isDigit_6 : decode cX3_isDigit 6 = .ok (.iload_n 0, 1) := by decide +kernel
theorem dX3_isDigit_7 : decode cX3_isDigit 7 = .ok (.bipush 57, 2) := by decide +kernel
theorem dX3_isDigit_9 : decode cX3_isDigit 9 = .ok (.if_icmp .gt 7, 3) := by decide +kernel
theorem dX3_isDigit_12 : decode cX3_isDigit 12 = .ok (.iconst 1, 1) := by decide +kernel
theorem dX3_isDigit_13 : decode cX3_isDigit 13 = .ok (.goto 4, 3) := by decide +kernel
theorem dX3_isDigit_16 : decode cX3_isDigit 16 = .ok (.iconst 0, 1) := by decide +kernel
theorem dX3_isDigit_17 : decode cX3_isDigit 17 = .ok (.ireturn, 1) := by decide +kernel
theorem dX3_takeWord_0 : decode cX3_takeWord 0 = .ok (.aload_n 0, 1) := by decide +kernel
theorem dX3_takeWord_1 : decode cX3_takeWord 1 = .ok (.getfield 22, 3) := by decide +kernel
theorem dX3_takeWord_4 : decode cX3_takeWord 4 = .ok (.aload_n 0, 1) := by decide +kernel
theorem dX3_takeWord_5 : decode cX3_takeWord 5 = .ok (.getfield 19, 3) := by decide +kernel
theorem dX3_takeWord_8 : decode cX3_takeWord 8 = .ok (.if_icmp .ge 31, 3) := by decide +kernel
theorem dX3_takeWord_11 : decode cX3_takeWord 11 = .ok (.aload_n 0, 1) := by decide +kernel
theorem dX3_takeWord_12 : decode cX3_takeWord 12 = .ok (.getfield 15, 3) := by decide +kernel
theorem dX3_takeWord_15 : decode cX3_takeWord 15 = .ok (.aload_n 0, 1) := by decide +kernel
theorem dX3_takeWord_16 : decode cX3_takeWord 16 = .ok (.getfield 22, 3) := by decide +kernel
theorem dX3_takeWord_19 : decode cX3_takeWord 19 = .ok (.iaload, 1) := by decide +kernel
theorem dX3_takeWord_20 : decode cX3_takeWord 20 = .ok (.invokestatic 70, 3) := by decide +kernel
theorem dX3_takeWord_23 : decode cX3_takeWord 23 = .ok (.ifCond .eq 16, 3) := by decide +kernel
theorem dX3_takeWord_26 : decode cX3_takeWord 26 = .ok (.aload_n 0, 1) := by decide +kernel
theorem dX3_takeWord_27 : decode cX3_takeWord 27 = .ok (.dup, 1) := by decide +kernel
theorem dX3_takeWord_28 : decode cX3_takeWord 28 = .ok (.getfield 22, 3) := by decide +kernel
theorem dX3_takeWord_31 : decode cX3_takeWord 31 = .ok (.iconst 1, 1) := by decide +kernel
theorem dX3_takeWord_32 : decode cX3_takeWord 32 = .ok (.iadd, 1) := by decide +kernel
theorem dX3_takeWord_33 : decode cX3_takeWord 33 = .ok (.putfield 22, 3) := by decide +kernel
theorem dX3_takeWord_36 : decode cX3_takeWord 36 = .ok (.goto (-36), 3) := by decide +kernel
theorem dX3_takeWord_39 : decode cX3_takeWord 39 = .ok (.aload_n 0, 1) := by decide +kernel
theorem dX3_takeWord_40 : decode cX3_takeWord 40 = .ok (.bipush (-3), 2) := by decide +kernel
theorem dX3_takeWord_42 : decode cX3_takeWord 42 = .ok (.putfield 25, 3) := by decide +kernel
theorem dX3_takeWord_45 : decode cX3_takeWord 45 = .ok (.sipush 256, 3) := by decide +kernel
theorem dX3_takeWord_48 : decode cX3_takeWord 48 = .ok (.istore_n 1, 1) := by decide +kernel
theorem dX3_takeWord_49 : decode cX3_takeWord 49 = .ok (.iload_n 1, 1) := by decide +kernel
theorem dX3_takeWord_50 : decode cX3_takeWord 50 = .ok (.sipush 277, 3) := by decide +kernel
theorem dX3_takeWord_53 : decode cX3_takeWord 53 = .ok (.if_icmp .ge 35, 3) := by decide +kernel
theorem dX3_takeWord_56 : decode cX3_takeWord 56 = .ok (.aload_n 0, 1) := by decide +kernel
theorem dX3_takeWord_57 : decode cX3_takeWord 57 = .ok (.getfield 25, 3) := by decide +kernel
theorem dX3_takeWord_60 : decode cX3_takeWord 60 = .ok (.bipush (-3), 2) := by decide +kernel
theorem dX3_takeWord_62 : decode cX3_takeWord 62 = .ok (.if_icmp .ne 26, 3) := by decide +kernel
theorem dX3_takeWord_65 : decode cX3_takeWord 65 = .ok (.aload_n 0, 1) := by decide +kernel
theorem dX3_takeWord_66 : decode cX3_takeWord 66 = .ok (.iload_n 1, 1) := by decide +kernel
theorem dX3_takeWord_67 : decode cX3_takeWord 67 = .ok (.sipush 256, 3) := by decide +kernel
theorem dX3_takeWord_70 : decode cX3_takeWord 70 = .ok (.isub, 1) := by decide +kernel
theorem dX3_takeWord_71 : decode cX3_takeWord 71 = .ok (.invokevirtual 83, 3) := by decide +kernel
theorem dX3_takeWord_74 : decode cX3_takeWord 74 = .ok (.ifCond .eq 8, 3) := by decide +kernel
theorem dX3_takeWord_77 : decode cX3_takeWord 77 = .ok (.aload_n 0, 1) := by decide +kernel
theorem dX3_takeWord_78 : decode cX3_takeWord 78 = .ok (.iload_n 1, 1) := by decide +kernel
theorem dX3_takeWord_79 : decode cX3_takeWord 79 = .ok (.putfield 25, 3) := by decide +kernel
theorem dX3_takeWord_82 : decode cX3_takeWord 82 = .ok (.iinc 1 1, 3) := by decide +kernel
theorem dX3_takeWord_85 : decode cX3_takeWord 85 = .ok (.goto (-36), 3) := by decide +kernel
theorem dX3_takeWord_88 : decode cX3_takeWord 88 = .ok (.return_, 1) := by decide +kernel
theorem dX3_isWord_0 : decode cX3_isWord 0 = .ok (.aload_n 0, 1) := by decide +kernel
theorem dX3_isWord_1 : decode cX3_isWord 1 = .ok (.getfield 22, 3) := by decide +kernel
theorem dX3_isWord_4 : decode cX3_isWord 4 = .ok (.aload_n 0, 1) := by decide +kernel
theorem dX3_isWord_5 : decode cX3_isWord 5 = .ok (.getfield 11, 3) := by decide +kernel
theorem dX3_isWord_8 : decode cX3_isWord 8 = .ok (.isub, 1) := by decide +kernel
theorem dX3_isWord_9 : decode cX3_isWord 9 = .ok (.bipush 6, 2) := by decide +kernel
theorem dX3_isWord_11 : decode cX3_isWord 11 = .ok (.if_icmp .le 5, 3) := by decide +kernel
theorem dX3_isWord_14 : decode cX3_isWord 14 = .ok (.iconst 0, 1) := by decide +kernel
theorem dX3_isWord_15 : decode cX3_isWord 15 = .ok (.ireturn, 1) := by decide +kernel
theorem dX3_isWord_16 : decode cX3_isWord 16 = .ok (.iconst 0, 1) := by decide +kernel
theorem dX3_isWord_17 : decode cX3_isWord 17 = .ok (.istore_n 2, 1) := by decide +kernel
theorem dX3_isWord_18 : decode cX3_isWord 18 = .ok (.iload_n 2, 1) := by decide +kernel
theorem dX3_isWord_19 : decode cX3_isWord 19 = .ok (.bipush 6, 2) := by decide +kernel
theorem dX3_isWord_21 : decode cX3_isWord 21 = .ok (.if_icmp .ge 56, 3) := by decide +kernel
theorem dX3_isWord_24 : decode cX3_isWord 24 = .ok (.aload_n 0, 1) := by decide +kernel
theorem dX3_isWord_25 : decode cX3_isWord 25 = .ok (.getfield 11, 3) := by decide +kernel
theorem dX3_isWord_28 : decode cX3_isWord 28 = .ok (.iload_n 2, 1) := by decide +kernel
theorem dX3_isWord_29 : decode cX3_isWord 29 = .ok (.iadd, 1) := by decide +kernel
theorem dX3_isWord_30 : decode cX3_isWord 30 = .ok (.aload_n 0, 1) := by decide +kernel
theorem dX3_isWord_31 : decode cX3_isWord 31 = .ok (.getfield 22, 3) := by decide +kernel
theorem dX3_isWord_34 : decode cX3_isWord 34 = .ok (.if_icmp .ge 17, 3) := by decide +kernel
theorem dX3_isWord_37 : decode cX3_isWord 37 = .ok (.aload_n 0, 1) := by decide +kernel
theorem dX3_isWord_38 : decode cX3_isWord 38 = .ok (.getfield 15, 3) := by decide +kernel
theorem dX3_isWord_41 : decode cX3_isWord 41 = .ok (.aload_n 0, 1) := by decide +kernel
theorem dX3_isWord_42 : decode cX3_isWord 42 = .ok (.getfield 11, 3) := by decide +kernel
theorem dX3_isWord_45 : decode cX3_isWord 45 = .ok (.iload_n 2, 1) := by decide +kernel
theorem dX3_isWord_46 : decode cX3_isWord 46 = .ok (.iadd, 1) := by decide +kernel
theorem dX3_isWord_47 : decode cX3_isWord 47 = .ok (.iaload, 1) := by decide +kernel
theorem dX3_isWord_48 : decode cX3_isWord 48 = .ok (.goto 5, 3) := by decide +kernel
theorem dX3_isWord_51 : decode cX3_isWord 51 = .ok (.bipush 32, 2) := by decide +kernel
theorem dX3_isWord_53 : decode cX3_isWord 53 = .ok (.istore_n 3, 1) := by decide +kernel
theorem dX3_isWord_54 : decode cX3_isWord 54 = .ok (.iload_n 3, 1) := by decide +kernel
theorem dX3_isWord_55 : decode cX3_isWord 55 = .ok (.ldc 86, 2) := by decide +kernel
theorem dX3_isWord_57 : decode cX3_isWord 57 = .ok (.iload_n 1, 1) := by decide +kernel
theorem dX3_isWord_58 : decode cX3_isWord 58 = .ok (.bipush 6, 2) := by decide +kernel
theorem dX3_isWord_60 : decode cX3_isWord 60 = .ok (.imul, 1) := by decide +kernel
theorem dX3_isWord_61 : decode cX3_isWord 61 = .ok (.iload_n 2, 1) := by decide +kernel
theorem dX3_isWord_62 : decode cX3_isWord 62 = .ok (.iadd, 1) := by decide +kernel
theorem dX3_isWord_63 : decode cX3_isWord 63 = .ok (.invokevirtual 88, 3) := by decide +kernel
theorem dX3_isWord_66 : decode cX3_isWord 66 = .ok (.if_icmp .eq 5, 3) := by decide +kernel
theorem dX3_isWord_69 : decode cX3_isWord 69 = .ok (.iconst 0, 1) := by decide +kernel
theorem dX3_isWord_70 : decode cX3_isWord 70 = .ok (.ireturn, 1) := by decide +kernel
theorem dX3_isWord_71 : decode cX3_isWord 71 = .ok (.iinc 2 1, 3) := by decide +kernel
theorem dX3_isWord_74 : decode cX3_isWord 74 = .ok (.goto (-56), 3) := by decide +kernel
theorem dX3_isWord_77 : decode cX3_isWord 77 = .ok (.iconst 1, 1) := by decide +kernel
theorem dX3_isWord_78 : decode cX3_isWord 78 = .ok (.ireturn, 1) := by decide +kernel
theorem dX3_takeNumber_0 : decode cX3_takeNumber 0 = .ok (.aload_n 0, 1) := by decide +kernel
theorem dX3_takeNumber_1 : decode cX3_takeNumber 1 = .ok (.iconst 0, 1) := by decide +kernel
theorem dX3_takeNumber_2 : decode cX3_takeNumber 2 = .ok (.putfield 28, 3) := by decide +kernel
theorem dX3_takeNumber_5 : decode cX3_takeNumber 5 = .ok (.aload_n 0, 1) := by decide +kernel
theorem dX3_takeNumber_6 : decode cX3_takeNumber 6 = .ok (.getfield 22, 3) := by decide +kernel
theorem dX3_takeNumber_9 : decode cX3_takeNumber 9 = .ok (.aload_n 0, 1) := by decide +kernel
theorem dX3_takeNumber_10 : decode cX3_takeNumber 10 = .ok (.getfield 19, 3) := by decide +kernel
theorem dX3_takeNumber_13 : decode cX3_takeNumber 13 = .ok (.if_icmp .ge 60, 3) := by decide +kernel
theorem dX3_takeNumber_16 : decode cX3_takeNumber 16 = .ok (.aload_n 0, 1) := by decide +kernel
theorem dX3_takeNumber_17 : decode cX3_takeNumber 17 = .ok (.getfield 15, 3) := by decide +kernel
theorem dX3_takeNumber_20 : decode cX3_takeNumber 20 = .ok (.aload_n 0, 1) := by decide +kernel
theorem dX3_takeNumber_21 : decode cX3_takeNumber 21 = .ok (.getfield 22, 3) := by decide +kernel
theorem dX3_takeNumber_24 : decode cX3_takeNumber 24 = .ok (.iaload, 1) := by decide +kernel
theorem dX3_takeNumber_25 : decode cX3_takeNumber 25 = .ok (.invokestatic 77, 3) := by decide +kernel
theorem dX3_takeNumber_28 : decode cX3_takeNumber 28 = .ok (.ifCond .eq 45, 3) := by decide +kernel
theorem dX3_takeNumber_31 : decode cX3_takeNumber 31 = .ok (.aload_n 0, 1) := by decide +kernel
theorem dX3_takeNumber_32 : decode cX3_takeNumber 32 = .ok (.aload_n 0, 1) := by decide +kernel
theorem dX3_takeNumber_33 : decode cX3_takeNumber 33 = .ok (.getfield 28, 3) := by decide +kernel
theorem dX3_takeNumber_36 : decode cX3_takeNumber 36 = .ok (.bipush 10, 2) := by decide +kernel
theorem dX3_takeNumber_38 : decode cX3_takeNumber 38 = .ok (.imul, 1) := by decide +kernel
theorem dX3_takeNumber_39 : decode cX3_takeNumber 39 = .ok (.aload_n 0, 1) := by decide +kernel
theorem dX3_takeNumber_40 : decode cX3_takeNumber 40 = .ok (.getfield 15, 3) := by decide +kernel
theorem dX3_takeNumber_43 : decode cX3_takeNumber 43 = .ok (.aload_n 0, 1) := by decide +kernel
theorem dX3_takeNumber_44 : decode cX3_takeNumber 44 = .ok (.getfield 22, 3) := by decide +kernel
theorem dX3_takeNumber_47 : decode cX3_takeNumber 47 = .ok (.iaload, 1) := by decide +kernel
theorem dX3_takeNumber_48 : decode cX3_takeNumber 48 = .ok (.iadd, 1) := by decide +kernel
theorem dX3_takeNumber_49 : decode cX3_takeNumber 49 = .ok (.bipush 48, 2) := by decide +kernel
theorem dX3_takeNumber_51 : decode cX3_takeNumber 51 = .ok (.isub, 1) := by decide +kernel
theorem dX3_takeNumber_52 : decode cX3_takeNumber 52 = .ok (.ldc 94, 2) := by decide +kernel
theorem dX3_takeNumber_54 : decode cX3_takeNumber 54 = .ok (.invokestatic 48, 3) := by decide +kernel
theorem dX3_takeNumber_57 : decode cX3_takeNumber 57 = .ok (.putfield 28, 3) := by decide +kernel
theorem dX3_takeNumber_60 : decode cX3_takeNumber 60 = .ok (.aload_n 0, 1) := by decide +kernel
theorem dX3_takeNumber_61 : decode cX3_takeNumber 61 = .ok (.dup, 1) := by decide +kernel
theorem dX3_takeNumber_62 : decode cX3_takeNumber 62 = .ok (.getfield 22, 3) := by decide +kernel
theorem dX3_takeNumber_65 : decode cX3_takeNumber 65 = .ok (.iconst 1, 1) := by decide +kernel
theorem dX3_takeNumber_66 : decode cX3_takeNumber 66 = .ok (.iadd, 1) := by decide +kernel
theorem dX3_takeNumber_67 : decode cX3_takeNumber 67 = .ok (.putfield 22, 3) := by decide +kernel
theorem dX3_takeNumber_70 : decode cX3_takeNumber 70 = .ok (.goto (-65), 3) := by decide +kernel
theorem dX3_takeNumber_73 : decode cX3_takeNumber 73 = .ok (.aload_n 0, 1) := by decide +kernel
theorem dX3_takeNumber_74 : decode cX3_takeNumber 74 = .ok (.aload_n 0, 1) := by decide +kernel
theorem dX3_takeNumber_75 : decode cX3_takeNumber 75 = .ok (.getfield 28, 3) := by decide +kernel
theorem dX3_takeNumber_78 : decode cX3_takeNumber 78 = .ok (.ldc 95, 2) := by decide +kernel
theorem dX3_takeNumber_80 : decode cX3_takeNumber 80 = .ok (.if_icmp .le 8, 3) := by decide +kernel
theorem dX3_takeNumber_83 : decode cX3_takeNumber 83 = .ok (.bipush (-3), 2) := by decide +kernel
theorem dX3_takeNumber_85 : decode cX3_takeNumber 85 = .ok (.goto 5, 3) := by decide +kernel
theorem dX3_takeNumber_88 : decode cX3_takeNumber 88 = .ok (.bipush (-2), 2) := by decide +kernel
theorem dX3_takeNumber_90 : decode cX3_takeNumber 90 = .ok (.putfield 25, 3) := by decide +kernel
theorem dX3_takeNumber_93 : decode cX3_takeNumber 93 = .ok (.return_, 1) := by decide +kernel
theorem dX3_write_0 : decode cX3_write 0 = .ok (.aload_n 0, 1) := by decide +kernel
theorem dX3_write_1 : decode cX3_write 1 = .ok (.getfield 45, 3) := by decide +kernel
theorem dX3_write_4 : decode cX3_write 4 = .ok (.iconst 1, 1) := by decide +kernel
theorem dX3_write_5 : decode cX3_write 5 = .ok (.iadd, 1) := by decide +kernel
theorem dX3_write_6 : decode cX3_write 6 = .ok (.sipush 400, 3) := by decide +kernel
theorem dX3_write_9 : decode cX3_write 9 = .ok (.if_icmp .ge 35, 3) := by decide +kernel
theorem dX3_write_12 : decode cX3_write 12 = .ok (.aload_n 0, 1) := by decide +kernel
theorem dX3_write_13 : decode cX3_write 13 = .ok (.getfield 42, 3) := by decide +kernel
theorem dX3_write_16 : decode cX3_write 16 = .ok (.aload_n 0, 1) := by decide +kernel
theorem dX3_write_17 : decode cX3_write 17 = .ok (.getfield 45, 3) := by decide +kernel
theorem dX3_write_20 : decode cX3_write 20 = .ok (.iload_n 1, 1) := by decide +kernel
theorem dX3_write_21 : decode cX3_write 21 = .ok (.iastore, 1) := by decide +kernel
theorem dX3_write_22 : decode cX3_write 22 = .ok (.aload_n 0, 1) := by decide +kernel
theorem dX3_write_23 : decode cX3_write 23 = .ok (.getfield 42, 3) := by decide +kernel
theorem dX3_write_26 : decode cX3_write 26 = .ok (.aload_n 0, 1) := by decide +kernel
theorem dX3_write_27 : decode cX3_write 27 = .ok (.getfield 45, 3) := by decide +kernel
theorem dX3_write_30 : decode cX3_write 30 = .ok (.iconst 1, 1) := by decide +kernel
theorem dX3_write_31 : decode cX3_write 31 = .ok (.iadd, 1) := by decide +kernel
theorem dX3_write_32 : decode cX3_write 32 = .ok (.iload_n 2, 1) := by decide +kernel
theorem dX3_write_33 : decode cX3_write 33 = .ok (.iastore, 1) := by decide +kernel
theorem dX3_write_34 : decode cX3_write 34 = .ok (.aload_n 0, 1) := by decide +kernel
theorem dX3_write_35 : decode cX3_write 35 = .ok (.dup, 1) := by decide +kernel
theorem dX3_write_36 : decode cX3_write 36 = .ok (.getfield 45, 3) := by decide +kernel
theorem dX3_write_39 : decode cX3_write 39 = .ok (.iconst 2, 1) := by decide +kernel
theorem dX3_write_40 : decode cX3_write 40 = .ok (.iadd, 1) := by decide +kernel
theorem dX3_write_41 : decode cX3_write 41 = .ok (.putfield 45, 3) := by decide +kernel
theorem dX3_write_44 : decode cX3_write 44 = .ok (.return_, 1) := by decide +kernel
theorem dX3_readClause_0 : decode cX3_readClause 0 = .ok (.aload_n 0, 1) := by decide +kernel
theorem dX3_readClause_1 : decode cX3_readClause 1 = .ok (.getfield 25, 3) := by decide +kernel
theorem dX3_readClause_4 : decode cX3_readClause 4 = .ok (.istore_n 1, 1) := by decide +kernel
theorem dX3_readClause_5 : decode cX3_readClause 5 = .ok (.aload_n 0, 1) := by decide +kernel
theorem dX3_readClause_6 : decode cX3_readClause 6 = .ok (.getfield 45, 3) := by decide +kernel
theorem dX3_readClause_9 : decode cX3_readClause 9 = .ok (.istore_n 2, 1) := by decide +kernel
theorem dX3_readClause_10 : decode cX3_readClause 10 = .ok (.iload_n 1, 1) := by decide +kernel
theorem dX3_readClause_11 : decode cX3_readClause 11 = .ok (.sipush 256, 3) := by decide +kernel
theorem dX3_readClause_14 : decode cX3_readClause 14 = .ok (.if_icmp .eq 19, 3) := by decide +kernel
theorem dX3_readClause_17 : decode cX3_readClause 17 = .ok (.iload_n 1, 1) := by decide +kernel
theorem dX3_readClause_18 : decode cX3_readClause 18 = .ok (.sipush 257, 3) := by decide +kernel
theorem dX3_readClause_21 : decode cX3_readClause 21 = .ok (.if_icmp .eq 12, 3) := by decide +kernel
theorem dX3_readClause_24 : decode cX3_readClause 24 = .ok (.iload_n 1, 1) := by decide +kernel
theorem dX3_readClause_25 : decode cX3_readClause 25 = .ok (.sipush 258, 3) := by decide +kernel
theorem dX3_readClause_28 : decode cX3_readClause 28 = .ok (.if_icmp .eq 5, 3) := by decide +kernel
theorem dX3_readClause_31 : decode cX3_readClause 31 = .ok (.iconst 0, 1) := by decide +kernel
theorem dX3_readClause_32 : decode cX3_readClause 32 = .ok (.ireturn, 1) := by decide +kernel
theorem dX3_readClause_33 : decode cX3_readClause 33 = .ok (.aload_n 0, 1) := by decide +kernel
theorem dX3_readClause_34 : decode cX3_readClause 34 = .ok (.invokevirtual 54, 3) := by decide +kernel
theorem dX3_readClause_37 : decode cX3_readClause 37 = .ok (.iload_n 1, 1) := by decide +kernel
theorem dX3_readClause_38 : decode cX3_readClause 38 = .ok (.sipush 258, 3) := by decide +kernel
theorem dX3_readClause_41 : decode cX3_readClause 41 = .ok (.if_icmp .eq 13, 3) := by decide +kernel
theorem dX3_readClause_44 : decode cX3_readClause 44 = .ok (.aload_n 0, 1) := by decide +kernel
theorem dX3_readClause_45 : decode cX3_readClause 45 = .ok (.iconst 0, 1) := by decide +kernel
theorem dX3_readClause_46 : decode cX3_readClause 46 = .ok (.invokevirtual 96, 3) := by decide +kernel
theorem dX3_readClause_49 : decode cX3_readClause 49 = .ok (.ifCond .ne 5, 3) := by decide +kernel
theorem dX3_readClause_52 : decode cX3_readClause 52 = .ok (.iconst 0, 1) := by decide +kernel
theorem dX3_readClause_53 : decode cX3_readClause 53 = .ok (.ireturn, 1) := by decide +kernel
theorem dX3_readClause_54 : decode cX3_readClause 54 = .ok (.aload_n 0, 1) := by decide +kernel
theorem dX3_readClause_55 : decode cX3_readClause 55 = .ok (.getfield 45, 3) := by decide +kernel
theorem dX3_readClause_58 : decode cX3_readClause 58 = .ok (.istore_n 3, 1) := by decide +kernel
theorem dX3_readClause_59 : decode cX3_readClause 59 = .ok (.aload_n 0, 1) := by decide +kernel
theorem dX3_readClause_60 : decode cX3_readClause 60 = .ok (.getfield 25, 3) := by decide +kernel
theorem dX3_readClause_63 : decode cX3_readClause 63 = .ok (.sipush 259, 3) := by decide +kernel
theorem dX3_readClause_66 : decode cX3_readClause 66 = .ok (.if_icmp .ne 17, 3) := by decide +kernel
theorem dX3_readClause_69 : decode cX3_readClause 69 = .ok (.aload_n 0, 1) := by decide +kernel
theorem dX3_readClause_70 : decode cX3_readClause 70 = .ok (.invokevirtual 54, 3) := by decide +kernel
theorem dX3_readClause_73 : decode cX3_readClause 73 = .ok (.aload_n 0, 1) := by decide +kernel
theorem dX3_readClause_74 : decode cX3_readClause 74 = .ok (.iconst 0, 1) := by decide +kernel
theorem dX3_readClause_75 : decode cX3_readClause 75 = .ok (.invokevirtual 99, 3) := by decide +kernel
theorem dX3_readClause_78 : decode cX3_readClause 78 = .ok (.ifCond .ne 5, 3) := by decide +kernel
theorem dX3_readClause_81 : decode cX3_readClause 81 = .ok (.iconst 0, 1) := by decide +kernel
theorem dX3_readClause_82 : decode cX3_readClause 82 = .ok (.ireturn, 1) := by decide +kernel
theorem dX3_readClause_83 : decode cX3_readClause 83 = .ok (.aload_n 0, 1) := by decide +kernel
theorem dX3_readClause_84 : decode cX3_readClause 84 = .ok (.iload_n 1, 1) := by decide +kernel
theorem dX3_readClause_85 : decode cX3_readClause 85 = .ok (.iload_n 2, 1) := by decide +kernel
theorem dX3_readClause_86 : decode cX3_readClause 86 = .ok (.iload_n 3, 1) := by decide +kernel
theorem dX3_readClause_87 : decode cX3_readClause 87 = .ok (.invokevirtual 102, 3) := by decide +kernel
theorem dX3_readClause_90 : decode cX3_readClause 90 = .ok (.iconst 1, 1) := by decide +kernel
theorem dX3_readClause_91 : decode cX3_readClause 91 = .ok (.ireturn, 1) := by decide +kernel
theorem dX3_noteClause_0 : decode cX3_noteClause 0 = .ok (.aload_n 0, 1) := by decide +kernel
theorem dX3_noteClause_1 : decode cX3_noteClause 1 = .ok (.getfield 39, 3) := by decide +kernel
theorem dX3_noteClause_4 : decode cX3_noteClause 4 = .ok (.iconst 4, 1) := by decide +kernel
theorem dX3_noteClause_5 : decode cX3_noteClause 5 = .ok (.imul, 1) := by decide +kernel
theorem dX3_noteClause_6 : decode cX3_noteClause 6 = .ok (.istore 4, 2) := by decide +kernel
theorem dX3_noteClause_8 : decode cX3_noteClause 8 = .ok (.iload 4, 2) := by decide +kernel
theorem dX3_noteClause_10 : decode cX3_noteClause 10 = .ok (.iconst 4, 1) := by decide +kernel
theorem dX3_noteClause_11 : decode cX3_noteClause 11 = .ok (.iadd, 1) := by decide +kernel
theorem dX3_noteClause_12 : decode cX3_noteClause 12 = .ok (.aload_n 0, 1) := by decide +kernel
theorem dX3_noteClause_13 : decode cX3_noteClause 13 = .ok (.getfield 36, 3) := by decide +kernel
theorem dX3_noteClause_16 : decode cX3_noteClause 16 = .ok (.arraylength, 1) := by decide +kernel
theorem dX3_noteClause_17 : decode cX3_noteClause 17 = .ok (.if_icmp .gt 56, 3) := by decide +kernel
theorem dX3_noteClause_20 : decode cX3_noteClause 20 = .ok (.aload_n 0, 1) := by decide +kernel
theorem dX3_noteClause_21 : decode cX3_noteClause 21 = .ok (.getfield 36, 3) := by decide +kernel
theorem dX3_noteClause_24 : decode cX3_noteClause 24 = .ok (.iload 4, 2) := by decide +kernel
theorem dX3_noteClause_26 : decode cX3_noteClause 26 = .ok (.iconst 0, 1) := by decide +kernel
theorem dX3_noteClause_27 : decode cX3_noteClause 27 = .ok (.iadd, 1) := by decide +kernel
theorem dX3_noteClause_28 : decode cX3_noteClause 28 = .ok (.iload_n 1, 1) := by decide +kernel
theorem dX3_noteClause_29 : decode cX3_noteClause 29 = .ok (.iastore, 1) := by decide +kernel
theorem dX3_noteClause_30 : decode cX3_noteClause 30 = .ok (.aload_n 0, 1) := by decide +kernel
theorem dX3_noteClause_31 : decode cX3_noteClause 31 = .ok (.getfield 36, 3) := by decide +kernel
theorem dX3_noteClause_34 : decode cX3_noteClause 34 = .ok (.iload 4, 2) := by decide +kernel
theorem dX3_noteClause_36 : decode cX3_noteClause 36 = .ok (.iconst 1, 1) := by decide +kernel
theorem dX3_noteClause_37 : decode cX3_noteClause 37 = .ok (.iadd, 1) := by decide +kernel
theorem dX3_noteClause_38 : decode cX3_noteClause 38 = .ok (.iload_n 2, 1) := by decide +kernel
theorem dX3_noteClause_39 : decode cX3_noteClause 39 = .ok (.iastore, 1) := by decide +kernel
theorem dX3_noteClause_40 : decode cX3_noteClause 40 = .ok (.aload_n 0, 1) := by decide +kernel
theorem dX3_noteClause_41 : decode cX3_noteClause 41 = .ok (.getfield 36, 3) := by decide +kernel
theorem dX3_noteClause_44 : decode cX3_noteClause 44 = .ok (.iload 4, 2) := by decide +kernel
theorem dX3_noteClause_46 : decode cX3_noteClause 46 = .ok (.iconst 2, 1) := by decide +kernel
theorem dX3_noteClause_47 : decode cX3_noteClause 47 = .ok (.iadd, 1) := by decide +kernel
theorem dX3_noteClause_48 : decode cX3_noteClause 48 = .ok (.iload_n 3, 1) := by decide +kernel
theorem dX3_noteClause_49 : decode cX3_noteClause 49 = .ok (.iastore, 1) := by decide +kernel
theorem dX3_noteClause_50 : decode cX3_noteClause 50 = .ok (.aload_n 0, 1) := by decide +kernel
theorem dX3_noteClause_51 : decode cX3_noteClause 51 = .ok (.getfield 36, 3) := by decide +kernel
theorem dX3_noteClause_54 : decode cX3_noteClause 54 = .ok (.iload 4, 2) := by decide +kernel
theorem dX3_noteClause_56 : decode cX3_noteClause 56 = .ok (.iconst 3, 1) := by decide +kernel
theorem dX3_noteClause_57 : decode cX3_noteClause 57 = .ok (.iadd, 1) := by decide +kernel
theorem dX3_noteClause_58 : decode cX3_noteClause 58 = .ok (.aload_n 0, 1) := by decide +kernel
theorem dX3_noteClause_59 : decode cX3_noteClause 59 = .ok (.getfield 45, 3) := by decide +kernel
theorem dX3_noteClause_62 : decode cX3_noteClause 62 = .ok (.iastore, 1) := by decide +kernel
theorem dX3_noteClause_63 : decode cX3_noteClause 63 = .ok (.aload_n 0, 1) := by decide +kernel
theorem dX3_noteClause_64 : decode cX3_noteClause 64 = .ok (.dup, 1) := by decide +kernel
theorem dX3_noteClause_65 : decode cX3_noteClause 65 = .ok (.getfield 39, 3) := by decide +kernel
theorem dX3_noteClause_68 : decode cX3_noteClause 68 = .ok (.iconst 1, 1) := by decide +kernel
theorem dX3_noteClause_69 : decode cX3_noteClause 69 = .ok (.iadd, 1) := by decide +kernel
theorem dX3_noteClause_70 : decode cX3_noteClause 70 = .ok (.putfield 39, 3) := by decide +kernel
theorem dX3_noteClause_73 : decode cX3_noteClause 73 = .ok (.return_, 1) := by decide +kernel
theorem dX3_readTest_0 : decode cX3_readTest 0 = .ok (.aload_n 0, 1) := by decide +kernel
theorem dX3_readTest_1 : decode cX3_readTest 1 = .ok (.iload_n 1, 1) := by decide +kernel
theorem dX3_readTest_2 : decode cX3_readTest 2 = .ok (.invokevirtual 106, 3) := by decide +kernel
theorem dX3_readTest_5 : decode cX3_readTest 5 = .ok (.istore_n 2, 1) := by decide +kernel
theorem dX3_readTest_6 : decode cX3_readTest 6 = .ok (.iconst 0, 1) := by decide +kernel
theorem dX3_readTest_7 : decode cX3_readTest 7 = .ok (.istore_n 3, 1) := by decide +kernel
theorem dX3_readTest_8 : decode cX3_readTest 8 = .ok (.iload_n 3, 1) := by decide +kernel
theorem dX3_readTest_9 : decode cX3_readTest 9 = .ok (.sipush 400, 3) := by decide +kernel
theorem dX3_readTest_12 : decode cX3_readTest 12 = .ok (.if_icmp .ge 53, 3) := by decide +kernel
theorem dX3_readTest_15 : decode cX3_readTest 15 = .ok (.iload_n 2, 1) := by decide +kernel
theorem dX3_readTest_16 : decode cX3_readTest 16 = .ok (.ifCond .eq 49, 3) := by decide +kernel
theorem dX3_readTest_19 : decode cX3_readTest 19 = .ok (.aload_n 0, 1) := by decide +kernel
theorem dX3_readTest_20 : decode cX3_readTest 20 = .ok (.getfield 25, 3) := by decide +kernel
theorem dX3_readTest_23 : decode cX3_readTest 23 = .ok (.sipush 260, 3) := by decide +kernel
theorem dX3_readTest_26 : decode cX3_readTest 26 = .ok (.if_icmp .ne 39, 3) := by decide +kernel
theorem dX3_readTest_29 : decode cX3_readTest 29 = .ok (.aload_n 0, 1) := by decide +kernel
theorem dX3_readTest_30 : decode cX3_readTest 30 = .ok (.getfield 45, 3) := by decide +kernel
theorem dX3_readTest_33 : decode cX3_readTest 33 = .ok (.istore 4, 2) := by decide +kernel
theorem dX3_readTest_35 : decode cX3_readTest 35 = .ok (.aload_n 0, 1) := by decide +kernel
theorem dX3_readTest_36 : decode cX3_readTest 36 = .ok (.sipush 260, 3) := by decide +kernel
theorem dX3_readTest_39 : decode cX3_readTest 39 = .ok (.iconst 0, 1) := by decide +kernel
theorem dX3_readTest_40 : decode cX3_readTest 40 = .ok (.invokevirtual 109, 3) := by decide +kernel
theorem dX3_readTest_43 : decode cX3_readTest 43 = .ok (.aload_n 0, 1) := by decide +kernel
theorem dX3_readTest_44 : decode cX3_readTest 44 = .ok (.invokevirtual 54, 3) := by decide +kernel
theorem dX3_readTest_47 : decode cX3_readTest 47 = .ok (.aload_n 0, 1) := by decide +kernel
theorem dX3_readTest_48 : decode cX3_readTest 48 = .ok (.iload_n 1, 1) := by decide +kernel
theorem dX3_readTest_49 : decode cX3_readTest 49 = .ok (.invokevirtual 106, 3) := by decide +kernel
theorem dX3_readTest_52 : decode cX3_readTest 52 = .ok (.istore_n 2, 1) := by decide +kernel
theorem dX3_readTest_53 : decode cX3_readTest 53 = .ok (.aload_n 0, 1) := by decide +kernel
theorem dX3_readTest_54 : decode cX3_readTest 54 = .ok (.iload 4, 2) := by decide +kernel
theorem dX3_readTest_56 : decode cX3_readTest 56 = .ok (.invokevirtual 113, 3) := by decide +kernel
theorem dX3_readTest_59 : decode cX3_readTest 59 = .ok (.iinc 3 1, 3) := by decide +kernel
theorem dX3_readTest_62 : decode cX3_readTest 62 = .ok (.goto (-54), 3) := by decide +kernel
theorem dX3_readTest_65 : decode cX3_readTest 65 = .ok (.iload_n 2, 1) := by decide +kernel
theorem dX3_readTest_66 : decode cX3_readTest 66 = .ok (.ireturn, 1) := by decide +kernel
theorem dX3_readBoth_0 : decode cX3_readBoth 0 = .ok (.aload_n 0, 1) := by decide +kernel
theorem dX3_readBoth_1 : decode cX3_readBoth 1 = .ok (.iload_n 1, 1) := by decide +kernel
theorem dX3_readBoth_2 : decode cX3_readBoth 2 = .ok (.invokevirtual 117, 3) := by decide +kernel
theorem dX3_readBoth_5 : decode cX3_readBoth 5 = .ok (.istore_n 2, 1) := by decide +kernel
theorem dX3_readBoth_6 : decode cX3_readBoth 6 = .ok (.iconst 0, 1) := by decide +kernel
theorem dX3_readBoth_7 : decode cX3_readBoth 7 = .ok (.istore_n 3, 1) := by decide +kernel
theorem dX3_readBoth_8 : decode cX3_readBoth 8 = .ok (.iload_n 3, 1) := by decide +kernel
theorem dX3_readBoth_9 : decode cX3_readBoth 9 = .ok (.sipush 400, 3) := by decide +kernel
theorem dX3_readBoth_12 : decode cX3_readBoth 12 = .ok (.if_icmp .ge 53, 3) := by decide +kernel
theorem dX3_readBoth_15 : decode cX3_readBoth 15 = .ok (.iload_n 2, 1) := by decide +kernel
theorem dX3_readBoth_16 : decode cX3_readBoth 16 = .ok (.ifCond .eq 49, 3) := by decide +kernel
theorem dX3_readBoth_19 : decode cX3_readBoth 19 = .ok (.aload_n 0, 1) := by decide +kernel
theorem dX3_readBoth_20 : decode cX3_readBoth 20 = .ok (.getfield 25, 3) := by decide +kernel
theorem dX3_readBoth_23 : decode cX3_readBoth 23 = .ok (.sipush 261, 3) := by decide +kernel
theorem dX3_readBoth_26 : decode cX3_readBoth 26 = .ok (.if_icmp .ne 39, 3) := by decide +kernel
theorem dX3_readBoth_29 : decode cX3_readBoth 29 = .ok (.aload_n 0, 1) := by decide +kernel
theorem dX3_readBoth_30 : decode cX3_readBoth 30 = .ok (.getfield 45, 3) := by decide +kernel
theorem dX3_readBoth_33 : decode cX3_readBoth 33 = .ok (.istore 4, 2) := by decide +kernel
theorem dX3_readBoth_35 : decode cX3_readBoth 35 = .ok (.aload_n 0, 1) := by decide +kernel
theorem dX3_readBoth_36 : decode cX3_readBoth 36 = .ok (.sipush 261, 3) := by decide +kernel
theorem dX3_readBoth_39 : decode cX3_readBoth 39 = .ok (.iconst 0, 1) := by decide +kernel
theorem dX3_readBoth_40 : decode cX3_readBoth 40 = .ok (.invokevirtual 109, 3) := by decide +kernel
theorem dX3_readBoth_43 : decode cX3_readBoth 43 = .ok (.aload_n 0, 1) := by decide +kernel
theorem dX3_readBoth_44 : decode cX3_readBoth 44 = .ok (.invokevirtual 54, 3) := by decide +kernel
theorem dX3_readBoth_47 : decode cX3_readBoth 47 = .ok (.aload_n 0, 1) := by decide +kernel
theorem dX3_readBoth_48 : decode cX3_readBoth 48 = .ok (.iload_n 1, 1) := by decide +kernel
theorem dX3_readBoth_49 : decode cX3_readBoth 49 = .ok (.invokevirtual 117, 3) := by decide +kernel
theorem dX3_readBoth_52 : decode cX3_readBoth 52 = .ok (.istore_n 2, 1) := by decide +kernel
theorem dX3_readBoth_53 : decode cX3_readBoth 53 = .ok (.aload_n 0, 1) := by decide +kernel
theorem dX3_readBoth_54 : decode cX3_readBoth 54 = .ok (.iload 4, 2) := by decide +kernel
theorem dX3_readBoth_56 : decode cX3_readBoth 56 = .ok (.invokevirtual 113, 3) := by decide +kernel
theorem dX3_readBoth_59 : decode cX3_readBoth 59 = .ok (.iinc 3 1, 3) := by decide +kernel
theorem dX3_readBoth_62 : decode cX3_readBoth 62 = .ok (.goto (-54), 3) := by decide +kernel
theorem dX3_readBoth_65 : decode cX3_readBoth 65 = .ok (.iload_n 2, 1) := by decide +kernel
theorem dX3_readBoth_66 : decode cX3_readBoth 66 = .ok (.ireturn, 1) := by decide +kernel
theorem dX3_land_0 : decode cX3_land 0 = .ok (.iload_n 1, 1) := by decide +kernel
theorem dX3_land_1 : decode cX3_land 1 = .ok (.iconst 1, 1) := by decide +kernel
theorem dX3_land_2 : decode cX3_land 2 = .ok (.iadd, 1) := by decide +kernel
theorem dX3_land_3 : decode cX3_land 3 = .ok (.sipush 400, 3) := by decide +kernel
theorem dX3_land_6 : decode cX3_land 6 = .ok (.if_icmp .ge 15, 3) := by decide +kernel
theorem dX3_land_9 : decode cX3_land 9 = .ok (.aload_n 0, 1) := by decide +kernel
theorem dX3_land_10 : decode cX3_land 10 = .ok (.getfield 42, 3) := by decide +kernel
theorem dX3_land_13 : decode cX3_land 13 = .ok (.iload_n 1, 1) := by decide +kernel
theorem dX3_land_14 : decode cX3_land 14 = .ok (.iconst 1, 1) := by decide +kernel
theorem dX3_land_15 : decode cX3_land 15 = .ok (.iadd, 1) := by decide +kernel
theorem dX3_land_16 : decode cX3_land 16 = .ok (.aload_n 0, 1) := by decide +kernel
theorem dX3_land_17 : decode cX3_land 17 = .ok (.getfield 45, 3) := by decide +kernel
theorem dX3_land_20 : decode cX3_land 20 = .ok (.iastore, 1) := by decide +kernel
theorem dX3_land_21 : decode cX3_land 21 = .ok (.return_, 1) := by decide +kernel
theorem dX3_readPlain_0 : decode cX3_readPlain 0 = .ok (.iconst 0, 1) := by decide +kernel
theorem dX3_readPlain_1 : decode cX3_readPlain 1 = .ok (.istore_n 2, 1) := by decide +kernel
theorem dX3_readPlain_2 : decode cX3_readPlain 2 = .ok (.iconst 0, 1) := by decide +kernel
theorem dX3_readPlain_3 : decode cX3_readPlain 3 = .ok (.istore_n 3, 1) := by decide +kernel
theorem dX3_readPlain_4 : decode cX3_readPlain 4 = .ok (.iload_n 3, 1) := by decide +kernel
theorem dX3_readPlain_5 : decode cX3_readPlain 5 = .ok (.sipush 400, 3) := by decide +kernel
theorem dX3_readPlain_8 : decode cX3_readPlain 8 = .ok (.if_icmp .ge 33, 3) := by decide +kernel
theorem dX3_readPlain_11 : decode cX3_readPlain 11 = .ok (.aload_n 0, 1) := by decide +kernel
theorem dX3_readPlain_12 : decode cX3_readPlain 12 = .ok (.getfield 25, 3) := by decide +kernel
theorem dX3_readPlain_15 : decode cX3_readPlain 15 = .ok (.sipush 262, 3) := by decide +kernel
theorem dX3_readPlain_18 : decode cX3_readPlain 18 = .ok (.if_icmp .ne 23, 3) := by decide +kernel
theorem dX3_readPlain_21 : decode cX3_readPlain 21 = .ok (.iload_n 2, 1) := by decide +kernel
theorem dX3_readPlain_22 : decode cX3_readPlain 22 = .ok (.ifCond .ne 7, 3) := by decide +kernel
theorem dX3_readPlain_25 : decode cX3_readPlain 25 = .ok (.iconst 1, 1) := by decide +kernel
theorem dX3_readPlain_26 : decode cX3_readPlain 26 = .ok (.goto 4, 3) := by decide +kernel
theorem dX3_readPlain_29 : decode cX3_readPlain 29 = .ok (.iconst 0, 1) := by decide +kernel
theorem dX3_readPlain_30 : decode cX3_readPlain 30 = .ok (.istore_n 2, 1) := by decide +kernel
theorem dX3_readPlain_31 : decode cX3_readPlain 31 = .ok (.aload_n 0, 1) := by decide +kernel
theorem dX3_readPlain_32 : decode cX3_readPlain 32 = .ok (.invokevirtual 54, 3) := by decide +kernel
theorem dX3_readPlain_35 : decode cX3_readPlain 35 = .ok (.iinc 3 1, 3) := by decide +kernel
theorem dX3_readPlain_38 : decode cX3_readPlain 38 = .ok (.goto (-34), 3) := by decide +kernel
theorem dX3_readPlain_41 : decode cX3_readPlain 41 = .ok (.aload_n 0, 1) := by decide +kernel
theorem dX3_readPlain_42 : decode cX3_readPlain 42 = .ok (.getfield 25, 3) := by decide +kernel
theorem dX3_readPlain_45 : decode cX3_readPlain 45 = .ok (.bipush 40, 2) := by decide +kernel
theorem dX3_readPlain_47 : decode cX3_readPlain 47 = .ok (.if_icmp .ne 14, 3) := by decide +kernel
theorem dX3_readPlain_50 : decode cX3_readPlain 50 = .ok (.aload_n 0, 1) := by decide +kernel
theorem dX3_readPlain_51 : decode cX3_readPlain 51 = .ok (.iload_n 1, 1) := by decide +kernel
theorem dX3_readPlain_52 : decode cX3_readPlain 52 = .ok (.bipush 41, 2) := by decide +kernel
theorem dX3_readPlain_54 : decode cX3_readPlain 54 = .ok (.invokevirtual 120, 3) := by decide +kernel
theorem dX3_readPlain_57 : decode cX3_readPlain 57 = .ok (.istore_n 3, 1) := by decide +kernel
theorem dX3_readPlain_58 : decode cX3_readPlain 58 = .ok (.goto 37, 3) := by decide +kernel
theorem dX3_readPlain_61 : decode cX3_readPlain 61 = .ok (.aload_n 0, 1) := by decide +kernel
theorem dX3_readPlain_62 : decode cX3_readPlain 62 = .ok (.getfield 25, 3) := by decide +kernel
theorem dX3_readPlain_65 : decode cX3_readPlain 65 = .ok (.sipush 273, 3) := by decide +kernel
theorem dX3_readPlain_68 : decode cX3_readPlain 68 = .ok (.if_icmp .lt 21, 3) := by decide +kernel
theorem dX3_readPlain_71 : decode cX3_readPlain 71 = .ok (.aload_n 0, 1) := by decide +kernel
theorem dX3_readPlain_72 : decode cX3_readPlain 72 = .ok (.getfield 25, 3) := by decide +kernel
theorem dX3_readPlain_75 : decode cX3_readPlain 75 = .ok (.sipush 277, 3) := by decide +kernel
theorem dX3_readPlain_78 : decode cX3_readPlain 78 = .ok (.if_icmp .ge 11, 3) := by decide +kernel
theorem dX3_readPlain_81 : decode cX3_readPlain 81 = .ok (.aload_n 0, 1) := by decide +kernel
theorem dX3_readPlain_82 : decode cX3_readPlain 82 = .ok (.invokevirtual 124, 3) := by decide +kernel
theorem dX3_readPlain_85 : decode cX3_readPlain 85 = .ok (.istore_n 3, 1) := by decide +kernel
theorem dX3_readPlain_86 : decode cX3_readPlain 86 = .ok (.goto 9, 3) := by decide +kernel
theorem dX3_readPlain_89 : decode cX3_readPlain 89 = .ok (.aload_n 0, 1) := by decide +kernel
theorem dX3_readPlain_90 : decode cX3_readPlain 90 = .ok (.iload_n 1, 1) := by decide +kernel
theorem dX3_readPlain_91 : decode cX3_readPlain 91 = .ok (.invokevirtual 127, 3) := by decide +kernel
theorem dX3_readPlain_94 : decode cX3_readPlain 94 = .ok (.istore_n 3, 1) := by decide +kernel
theorem dX3_readPlain_95 : decode cX3_readPlain 95 = .ok (.iload_n 2, 1) := by decide +kernel
theorem dX3_readPlain_96 : decode cX3_readPlain 96 = .ok (.ifCond .eq 9, 3) := by decide +kernel
theorem dX3_readPlain_99 : decode cX3_readPlain 99 = .ok (.aload_n 0, 1) := by decide +kernel
theorem dX3_readPlain_100 : decode cX3_readPlain 100 = .ok (.iconst 2, 1) := by decide +kernel
theorem dX3_readPlain_101 : decode cX3_readPlain 101 = .ok (.iconst 0, 1) := by decide +kernel
theorem dX3_readPlain_102 : decode cX3_readPlain 102 = .ok (.invokevirtual 109, 3) := by decide +kernel
theorem dX3_readPlain_105 : decode cX3_readPlain 105 = .ok (.iload_n 3, 1) := by decide +kernel
theorem dX3_readPlain_106 : decode cX3_readPlain 106 = .ok (.ireturn, 1) := by decide +kernel
theorem dX3_readComparison_0 : decode cX3_readComparison 0 = .ok (.aload_n 0, 1) := by decide +kernel
theorem dX3_readComparison_1 : decode cX3_readComparison 1 = .ok (.iload_n 1, 1) := by decide +kernel
theorem dX3_readComparison_2 : decode cX3_readComparison 2 = .ok (.invokevirtual 96, 3) := by decide +kernel
theorem dX3_readComparison_5 : decode cX3_readComparison 5 = .ok (.ifCond .ne 5, 3) := by decide +kernel
theorem dX3_readComparison_8 : decode cX3_readComparison 8 = .ok (.iconst 0, 1) := by decide +kernel
theorem dX3_readComparison_9 : decode cX3_readComparison 9 = .ok (.ireturn, 1) := by decide +kernel
theorem dX3_readComparison_10 : decode cX3_readComparison 10 = .ok (.aload_n 0, 1) := by decide +kernel
theorem dX3_readComparison_11 : decode cX3_readComparison 11 = .ok (.getfield 25, 3) := by decide +kernel
theorem dX3_readComparison_14 : decode cX3_readComparison 14 = .ok (.istore_n 2, 1) := by decide +kernel
theorem dX3_readComparison_15 : decode cX3_readComparison 15 = .ok (.iload_n 2, 1) := by decide +kernel
theorem dX3_readComparison_16 : decode cX3_readComparison 16 = .ok (.bipush 60, 2) := by decide +kernel
theorem dX3_readComparison_18 : decode cX3_readComparison 18 = .ok (.if_icmp .eq 17, 3) := by decide +kernel
theorem dX3_readComparison_21 : decode cX3_readComparison 21 = .ok (.iload_n 2, 1) := by decide +kernel
theorem dX3_readComparison_22 : decode cX3_readComparison 22 = .ok (.bipush 62, 2) := by decide +kernel
theorem dX3_readComparison_24 : decode cX3_readComparison 24 = .ok (.if_icmp .eq 11, 3) := by decide +kernel
theorem dX3_readComparison_27 : decode cX3_readComparison 27 = .ok (.iload_n 2, 1) := by decide +kernel
theorem dX3_readComparison_28 : decode cX3_readComparison 28 = .ok (.bipush 61, 2) := by decide +kernel
theorem dX3_readComparison_30 : decode cX3_readComparison 30 = .ok (.if_icmp .eq 5, 3) := by decide +kernel
theorem dX3_readComparison_33 : decode cX3_readComparison 33 = .ok (.iconst 0, 1) := by decide +kernel
theorem dX3_readComparison_34 : decode cX3_readComparison 34 = .ok (.ireturn, 1) := by decide +kernel
theorem dX3_readComparison_35 : decode cX3_readComparison 35 = .ok (.aload_n 0, 1) := by decide +kernel
theorem dX3_readComparison_36 : decode cX3_readComparison 36 = .ok (.invokevirtual 54, 3) := by decide +kernel
theorem dX3_readComparison_39 : decode cX3_readComparison 39 = .ok (.aload_n 0, 1) := by decide +kernel
theorem dX3_readComparison_40 : decode cX3_readComparison 40 = .ok (.iload_n 1, 1) := by decide +kernel
theorem dX3_readComparison_41 : decode cX3_readComparison 41 = .ok (.invokevirtual 96, 3) := by decide +kernel
theorem dX3_readComparison_44 : decode cX3_readComparison 44 = .ok (.istore_n 3, 1) := by decide +kernel
theorem dX3_readComparison_45 : decode cX3_readComparison 45 = .ok (.aload_n 0, 1) := by decide +kernel
theorem dX3_readComparison_46 : decode cX3_readComparison 46 = .ok (.iload_n 2, 1) := by decide +kernel
theorem dX3_readComparison_47 : decode cX3_readComparison 47 = .ok (.iconst 0, 1) := by decide +kernel
theorem dX3_readComparison_48 : decode cX3_readComparison 48 = .ok (.invokevirtual 109, 3) := by decide +kernel
theorem dX3_readComparison_51 : decode cX3_readComparison 51 = .ok (.iload_n 3, 1) := by decide +kernel
theorem dX3_readComparison_52 : decode cX3_readComparison 52 = .ok (.ireturn, 1) := by decide +kernel
theorem dX3_readSum_0 : decode cX3_readSum 0 = .ok (.aload_n 0, 1) := by decide +kernel
theorem dX3_readSum_1 : decode cX3_readSum 1 = .ok (.iload_n 1, 1) := by decide +kernel
theorem dX3_readSum_2 : decode cX3_readSum 2 = .ok (.invokevirtual 130, 3) := by decide +kernel
theorem dX3_readSum_5 : decode cX3_readSum 5 = .ok (.istore_n 2, 1) := by decide +kernel
theorem dX3_readSum_6 : decode cX3_readSum 6 = .ok (.iconst 0, 1) := by decide +kernel
theorem dX3_readSum_7 : decode cX3_readSum 7 = .ok (.istore_n 3, 1) := by decide +kernel
theorem dX3_readSum_8 : decode cX3_readSum 8 = .ok (.iload_n 3, 1) := by decide +kernel
theorem dX3_readSum_9 : decode cX3_readSum 9 = .ok (.sipush 400, 3) := by decide +kernel
theorem dX3_readSum_12 : decode cX3_readSum 12 = .ok (.if_icmp .ge 54, 3) := by decide +kernel
theorem dX3_readSum_15 : decode cX3_readSum 15 = .ok (.iload_n 2, 1) := by decide +kernel
theorem dX3_readSum_16 : decode cX3_readSum 16 = .ok (.ifCond .eq 50, 3) := by decide +kernel
theorem dX3_readSum_19 : decode cX3_readSum 19 = .ok (.aload_n 0, 1) := by decide +kernel
theorem dX3_readSum_20 : decode cX3_readSum 20 = .ok (.getfield 25, 3) := by decide +kernel
theorem dX3_readSum_23 : decode cX3_readSum 23 = .ok (.bipush 43, 2) := by decide +kernel
theorem dX3_readSum_25 : decode cX3_readSum 25 = .ok (.if_icmp .eq 12, 3) := by decide +kernel
theorem dX3_readSum_28 : decode cX3_readSum 28 = .ok (.aload_n 0, 1) := by decide +kernel
theorem dX3_readSum_29 : decode cX3_readSum 29 = .ok (.getfield 25, 3) := by decide +kernel
theorem dX3_readSum_32 : decode cX3_readSum 32 = .ok (.bipush 45, 2) := by decide +kernel
theorem dX3_readSum_34 : decode cX3_readSum 34 = .ok (.if_icmp .ne 32, 3) := by decide +kernel
theorem dX3_readSum_37 : decode cX3_readSum 37 = .ok (.aload_n 0, 1) := by decide +kernel
theorem dX3_readSum_38 : decode cX3_readSum 38 = .ok (.getfield 25, 3) := by decide +kernel
theorem dX3_readSum_41 : decode cX3_readSum 41 = .ok (.istore 4, 2) := by decide +kernel
theorem dX3_readSum_43 : decode cX3_readSum 43 = .ok (.aload_n 0, 1) := by decide +kernel
theorem dX3_readSum_44 : decode cX3_readSum 44 = .ok (.invokevirtual 54, 3) := by decide +kernel
theorem dX3_readSum_47 : decode cX3_readSum 47 = .ok (.aload_n 0, 1) := by decide +kernel
theorem dX3_readSum_48 : decode cX3_readSum 48 = .ok (.iload_n 1, 1) := by decide +kernel
theorem dX3_readSum_49 : decode cX3_readSum 49 = .ok (.invokevirtual 130, 3) := by decide +kernel
theorem dX3_readSum_52 : decode cX3_readSum 52 = .ok (.istore_n 2, 1) := by decide +kernel
theorem dX3_readSum_53 : decode cX3_readSum 53 = .ok (.aload_n 0, 1) := by decide +kernel
theorem dX3_readSum_54 : decode cX3_readSum 54 = .ok (.iload 4, 2) := by decide +kernel
theorem dX3_readSum_56 : decode cX3_readSum 56 = .ok (.iconst 0, 1) := by decide +kernel
theorem dX3_readSum_57 : decode cX3_readSum 57 = .ok (.invokevirtual 109, 3) := by decide +kernel
theorem dX3_readSum_60 : decode cX3_readSum 60 = .ok (.iinc 3 1, 3) := by decide +kernel
theorem dX3_readSum_63 : decode cX3_readSum 63 = .ok (.goto (-55), 3) := by decide +kernel
theorem dX3_readSum_66 : decode cX3_readSum 66 = .ok (.iload_n 2, 1) := by decide +kernel
theorem dX3_readSum_67 : decode cX3_readSum 67 = .ok (.ireturn, 1) := by decide +kernel
theorem dX3_readTerm_0 : decode cX3_readTerm 0 = .ok (.aload_n 0, 1) := by decide +kernel
theorem dX3_readTerm_1 : decode cX3_readTerm 1 = .ok (.iload_n 1, 1) := by decide +kernel
theorem dX3_readTerm_2 : decode cX3_readTerm 2 = .ok (.invokevirtual 133, 3) := by decide +kernel
theorem dX3_readTerm_5 : decode cX3_readTerm 5 = .ok (.istore_n 2, 1) := by decide +kernel
theorem dX3_readTerm_6 : decode cX3_readTerm 6 = .ok (.iconst 0, 1) := by decide +kernel
theorem dX3_readTerm_7 : decode cX3_readTerm 7 = .ok (.istore_n 3, 1) := by decide +kernel
theorem dX3_readTerm_8 : decode cX3_readTerm 8 = .ok (.iload_n 3, 1) := by decide +kernel
theorem dX3_readTerm_9 : decode cX3_readTerm 9 = .ok (.sipush 400, 3) := by decide +kernel
theorem dX3_readTerm_12 : decode cX3_readTerm 12 = .ok (.if_icmp .ge 54, 3) := by decide +kernel
theorem dX3_readTerm_15 : decode cX3_readTerm 15 = .ok (.iload_n 2, 1) := by decide +kernel
theorem dX3_readTerm_16 : decode cX3_readTerm 16 = .ok (.ifCond .eq 50, 3) := by decide +kernel
theorem dX3_readTerm_19 : decode cX3_readTerm 19 = .ok (.aload_n 0, 1) := by decide +kernel
theorem dX3_readTerm_20 : decode cX3_readTerm 20 = .ok (.getfield 25, 3) := by decide +kernel
theorem dX3_readTerm_23 : decode cX3_readTerm 23 = .ok (.bipush 42, 2) := by decide +kernel
theorem dX3_readTerm_25 : decode cX3_readTerm 25 = .ok (.if_icmp .eq 12, 3) := by decide +kernel
theorem dX3_readTerm_28 : decode cX3_readTerm 28 = .ok (.aload_n 0, 1) := by decide +kernel
theorem dX3_readTerm_29 : decode cX3_readTerm 29 = .ok (.getfield 25, 3) := by decide +kernel
theorem dX3_readTerm_32 : decode cX3_readTerm 32 = .ok (.bipush 47, 2) := by decide +kernel
theorem dX3_readTerm_34 : decode cX3_readTerm 34 = .ok (.if_icmp .ne 32, 3) := by decide +kernel
theorem dX3_readTerm_37 : decode cX3_readTerm 37 = .ok (.aload_n 0, 1) := by decide +kernel
theorem dX3_readTerm_38 : decode cX3_readTerm 38 = .ok (.getfield 25, 3) := by decide +kernel
theorem dX3_readTerm_41 : decode cX3_readTerm 41 = .ok (.istore 4, 2) := by decide +kernel
theorem dX3_readTerm_43 : decode cX3_readTerm 43 = .ok (.aload_n 0, 1) := by decide +kernel
theorem dX3_readTerm_44 : decode cX3_readTerm 44 = .ok (.invokevirtual 54, 3) := by decide +kernel
theorem dX3_readTerm_47 : decode cX3_readTerm 47 = .ok (.aload_n 0, 1) := by decide +kernel
theorem dX3_readTerm_48 : decode cX3_readTerm 48 = .ok (.iload_n 1, 1) := by decide +kernel
theorem dX3_readTerm_49 : decode cX3_readTerm 49 = .ok (.invokevirtual 133, 3) := by decide +kernel
theorem dX3_readTerm_52 : decode cX3_readTerm 52 = .ok (.istore_n 2, 1) := by decide +kernel
theorem dX3_readTerm_53 : decode cX3_readTerm 53 = .ok (.aload_n 0, 1) := by decide +kernel
theorem dX3_readTerm_54 : decode cX3_readTerm 54 = .ok (.iload 4, 2) := by decide +kernel
theorem dX3_readTerm_56 : decode cX3_readTerm 56 = .ok (.iconst 0, 1) := by decide +kernel
theorem dX3_readTerm_57 : decode cX3_readTerm 57 = .ok (.invokevirtual 109, 3) := by decide +kernel
theorem dX3_readTerm_60 : decode cX3_readTerm 60 = .ok (.iinc 3 1, 3) := by decide +kernel
theorem dX3_readTerm_63 : decode cX3_readTerm 63 = .ok (.goto (-55), 3) := by decide +kernel
theorem dX3_readTerm_66 : decode cX3_readTerm 66 = .ok (.iload_n 2, 1) := by decide +kernel
theorem dX3_readTerm_67 : decode cX3_readTerm 67 = .ok (.ireturn, 1) := by decide +kernel
theorem dX3_readPart_0 : decode cX3_readPart 0 = .ok (.aload_n 0, 1) := by decide +kernel
theorem dX3_readPart_1 : decode cX3_readPart 1 = .ok (.getfield 25, 3) := by decide +kernel
theorem dX3_readPart_4 : decode cX3_readPart 4 = .ok (.bipush 91, 2) := by decide +kernel
theorem dX3_readPart_6 : decode cX3_readPart 6 = .ok (.if_icmp .ne 11, 3) := by decide +kernel
theorem dX3_readPart_9 : decode cX3_readPart 9 = .ok (.aload_n 0, 1) := by decide +kernel
theorem dX3_readPart_10 : decode cX3_readPart 10 = .ok (.iload_n 1, 1) := by decide +kernel
theorem dX3_readPart_11 : decode cX3_readPart 11 = .ok (.bipush 93, 2) := by decide +kernel
theorem dX3_readPart_13 : decode cX3_readPart 13 = .ok (.invokevirtual 120, 3) := by decide +kernel
theorem dX3_readPart_16 : decode cX3_readPart 16 = .ok (.ireturn, 1) := by decide +kernel
theorem dX3_readPart_17 : decode cX3_readPart 17 = .ok (.aload_n 0, 1) := by decide +kernel
theorem dX3_readPart_18 : decode cX3_readPart 18 = .ok (.getfield 25, 3) := by decide +kernel
theorem dX3_readPart_21 : decode cX3_readPart 21 = .ok (.bipush (-2), 2) := by decide +kernel
theorem dX3_readPart_23 : decode cX3_readPart 23 = .ok (.if_icmp .eq 23, 3) := by decide +kernel
theorem dX3_readPart_26 : decode cX3_readPart 26 = .ok (.aload_n 0, 1) := by decide +kernel
theorem dX3_readPart_27 : decode cX3_readPart 27 = .ok (.getfield 25, 3) := by decide +kernel
theorem dX3_readPart_30 : decode cX3_readPart 30 = .ok (.sipush 263, 3) := by decide +kernel
theorem dX3_readPart_33 : decode cX3_readPart 33 = .ok (.if_icmp .lt 17, 3) := by decide +kernel
theorem dX3_readPart_36 : decode cX3_readPart 36 = .ok (.aload_n 0, 1) := by decide +kernel
theorem dX3_readPart_37 : decode cX3_readPart 37 = .ok (.getfield 25, 3) := by decide +kernel
theorem dX3_readPart_40 : decode cX3_readPart 40 = .ok (.sipush 273, 3) := by decide +kernel
theorem dX3_readPart_43 : decode cX3_readPart 43 = .ok (.if_icmp .ge 7, 3) := by decide +kernel
theorem dX3_readPart_46 : decode cX3_readPart 46 = .ok (.iconst 1, 1) := by decide +kernel
theorem dX3_readPart_47 : decode cX3_readPart 47 = .ok (.goto 4, 3) := by decide +kernel
theorem dX3_readPart_50 : decode cX3_readPart 50 = .ok (.iconst 0, 1) := by decide +kernel
theorem dX3_readPart_51 : decode cX3_readPart 51 = .ok (.istore_n 2, 1) := by decide +kernel
theorem dX3_readPart_52 : decode cX3_readPart 52 = .ok (.iload_n 2, 1) := by decide +kernel
theorem dX3_readPart_53 : decode cX3_readPart 53 = .ok (.ifCond .eq 14, 3) := by decide +kernel
theorem dX3_readPart_56 : decode cX3_readPart 56 = .ok (.aload_n 0, 1) := by decide +kernel
theorem dX3_readPart_57 : decode cX3_readPart 57 = .ok (.invokevirtual 124, 3) := by decide +kernel
theorem dX3_readPart_60 : decode cX3_readPart 60 = .ok (.ifCond .eq 7, 3) := by decide +kernel
theorem dX3_readPart_63 : decode cX3_readPart 63 = .ok (.iconst 1, 1) := by decide +kernel
theorem dX3_readPart_64 : decode cX3_readPart 64 = .ok (.goto 4, 3) := by decide +kernel
theorem dX3_readPart_67 : decode cX3_readPart 67 = .ok (.iconst 0, 1) := by decide +kernel
theorem dX3_readPart_68 : decode cX3_readPart 68 = .ok (.ireturn, 1) := by decide +kernel
theorem dX3_readBracketed_0 : decode cX3_readBracketed 0 = .ok (.iload_n 1, 1) := by decide +kernel
theorem dX3_readBracketed_1 : decode cX3_readBracketed 1 = .ok (.bipush 8, 2) := by decide +kernel
theorem dX3_readBracketed_3 : decode cX3_readBracketed 3 = .ok (.if_icmp .lt 5, 3) := by decide +kernel
theorem dX3_readBracketed_6 : decode cX3_readBracketed 6 = .ok (.iconst 0, 1) := by decide +kernel
theorem dX3_readBracketed_7 : decode cX3_readBracketed 7 = .ok (.ireturn, 1) := by decide +kernel
theorem dX3_readBracketed_8 : decode cX3_readBracketed 8 = .ok (.aload_n 0, 1) := by decide +kernel
theorem dX3_readBracketed_9 : decode cX3_readBracketed 9 = .ok (.invokevirtual 54, 3) := by decide +kernel
theorem dX3_readBracketed_12 : decode cX3_readBracketed 12 = .ok (.iload_n 2, 1) := by decide +kernel
theorem dX3_readBracketed_13 : decode cX3_readBracketed 13 = .ok (.bipush 41, 2) := by decide +kernel
theorem dX3_readBracketed_15 : decode cX3_readBracketed 15 = .ok (.if_icmp .ne 13, 3) := by decide +kernel
theorem dX3_readBracketed_18 : decode cX3_readBracketed 18 = .ok (.aload_n 0, 1) := by decide +kernel
theorem dX3_readBracketed_19 : decode cX3_readBracketed 19 = .ok (.iload_n 1, 1) := by decide +kernel
theorem dX3_readBracketed_20 : decode cX3_readBracketed 20 = .ok (.iconst 1, 1) := by decide +kernel
theorem dX3_readBracketed_21 : decode cX3_readBracketed 21 = .ok (.iadd, 1) := by decide +kernel
theorem dX3_readBracketed_22 : decode cX3_readBracketed 22 = .ok (.invokevirtual 99, 3) := by decide +kernel
theorem dX3_readBracketed_25 : decode cX3_readBracketed 25 = .ok (.goto 10, 3) := by decide +kernel
theorem dX3_readBracketed_28 : decode cX3_readBracketed 28 = .ok (.aload_n 0, 1) := by decide +kernel
theorem dX3_readBracketed_29 : decode cX3_readBracketed 29 = .ok (.iload_n 1, 1) := by decide +kernel
theorem dX3_readBracketed_30 : decode cX3_readBracketed 30 = .ok (.iconst 1, 1) := by decide +kernel
theorem dX3_readBracketed_31 : decode cX3_readBracketed 31 = .ok (.iadd, 1) := by decide +kernel
theorem dX3_readBracketed_32 : decode cX3_readBracketed 32 = .ok (.invokevirtual 96, 3) := by decide +kernel
theorem dX3_readBracketed_35 : decode cX3_readBracketed 35 = .ok (.istore_n 3, 1) := by decide +kernel
theorem dX3_readBracketed_36 : decode cX3_readBracketed 36 = .ok (.iload_n 3, 1) := by decide +kernel
theorem dX3_readBracketed_37 : decode cX3_readBracketed 37 = .ok (.ifCond .eq 11, 3) := by decide +kernel
theorem dX3_readBracketed_40 : decode cX3_readBracketed 40 = .ok (.aload_n 0, 1) := by decide +kernel
theorem dX3_readBracketed_41 : decode cX3_readBracketed 41 = .ok (.getfield 25, 3) := by decide +kernel
theorem dX3_readBracketed_44 : decode cX3_readBracketed 44 = .ok (.iload_n 2, 1) := by decide +kernel
theorem dX3_readBracketed_45 : decode cX3_readBracketed 45 = .ok (.if_icmp .eq 5, 3) := by decide +kernel
theorem dX3_readBracketed_48 : decode cX3_readBracketed 48 = .ok (.iconst 0, 1) := by decide +kernel
theorem dX3_readBracketed_49 : decode cX3_readBracketed 49 = .ok (.ireturn, 1) := by decide +kernel
theorem dX3_readBracketed_50 : decode cX3_readBracketed 50 = .ok (.aload_n 0, 1) := by decide +kernel
theorem dX3_readBracketed_51 : decode cX3_readBracketed 51 = .ok (.invokevirtual 54, 3) := by decide +kernel
theorem dX3_readBracketed_54 : decode cX3_readBracketed 54 = .ok (.iconst 1, 1) := by decide +kernel
theorem dX3_readBracketed_55 : decode cX3_readBracketed 55 = .ok (.ireturn, 1) := by decide +kernel
theorem dX3_readLeaf_0 : decode cX3_readLeaf 0 = .ok (.aload_n 0, 1) := by decide +kernel
theorem dX3_readLeaf_1 : decode cX3_readLeaf 1 = .ok (.getfield 31, 3) := by decide +kernel
theorem dX3_readLeaf_4 : decode cX3_readLeaf 4 = .ok (.bipush 50, 2) := by decide +kernel
theorem dX3_readLeaf_6 : decode cX3_readLeaf 6 = .ok (.if_icmp .lt 5, 3) := by decide +kernel
theorem dX3_readLeaf_9 : decode cX3_readLeaf 9 = .ok (.iconst 0, 1) := by decide +kernel
theorem dX3_readLeaf_10 : decode cX3_readLeaf 10 = .ok (.ireturn, 1) := by decide +kernel
theorem dX3_readLeaf_11 : decode cX3_readLeaf 11 = .ok (.aload_n 0, 1) := by decide +kernel
theorem dX3_readLeaf_12 : decode cX3_readLeaf 12 = .ok (.dup, 1) := by decide +kernel
theorem dX3_readLeaf_13 : decode cX3_readLeaf 13 = .ok (.getfield 31, 3) := by decide +kernel
theorem dX3_readLeaf_16 : decode cX3_readLeaf 16 = .ok (.iconst 1, 1) := by decide +kernel
theorem dX3_readLeaf_17 : decode cX3_readLeaf 17 = .ok (.iadd, 1) := by decide +kernel
theorem dX3_readLeaf_18 : decode cX3_readLeaf 18 = .ok (.putfield 31, 3) := by decide +kernel
theorem dX3_readLeaf_21 : decode cX3_readLeaf 21 = .ok (.aload_n 0, 1) := by decide +kernel
theorem dX3_readLeaf_22 : decode cX3_readLeaf 22 = .ok (.getfield 25, 3) := by decide +kernel
theorem dX3_readLeaf_25 : decode cX3_readLeaf 25 = .ok (.bipush (-2), 2) := by decide +kernel
theorem dX3_readLeaf_27 : decode cX3_readLeaf 27 = .ok (.if_icmp .ne 15, 3) := by decide +kernel
theorem dX3_readLeaf_30 : decode cX3_readLeaf 30 = .ok (.aload_n 0, 1) := by decide +kernel
theorem dX3_readLeaf_31 : decode cX3_readLeaf 31 = .ok (.iconst 0, 1) := by decide +kernel
theorem dX3_readLeaf_32 : decode cX3_readLeaf 32 = .ok (.aload_n 0, 1) := by decide +kernel
theorem dX3_readLeaf_33 : decode cX3_readLeaf 33 = .ok (.getfield 28, 3) := by decide +kernel
theorem dX3_readLeaf_36 : decode cX3_readLeaf 36 = .ok (.invokevirtual 109, 3) := by decide +kernel
theorem dX3_readLeaf_39 : decode cX3_readLeaf 39 = .ok (.goto 12, 3) := by decide +kernel
theorem dX3_readLeaf_42 : decode cX3_readLeaf 42 = .ok (.aload_n 0, 1) := by decide +kernel
theorem dX3_readLeaf_43 : decode cX3_readLeaf 43 = .ok (.iconst 1, 1) := by decide +kernel
theorem dX3_readLeaf_44 : decode cX3_readLeaf 44 = .ok (.aload_n 0, 1) := by decide +kernel
theorem dX3_readLeaf_45 : decode cX3_readLeaf 45 = .ok (.getfield 25, 3) := by decide +kernel
theorem dX3_readLeaf_48 : decode cX3_readLeaf 48 = .ok (.invokevirtual 109, 3) := by decide +kernel
theorem dX3_readLeaf_51 : decode cX3_readLeaf 51 = .ok (.aload_n 0, 1) := by decide +kernel
theorem dX3_readLeaf_52 : decode cX3_readLeaf 52 = .ok (.invokevirtual 54, 3) := by decide +kernel
theorem dX3_readLeaf_55 : decode cX3_readLeaf 55 = .ok (.iconst 1, 1) := by decide +kernel
theorem dX3_readLeaf_56 : decode cX3_readLeaf 56 = .ok (.ireturn, 1) := by decide +kernel
theorem dX4_init_0 : decode cX4_init 0 = .ok (.aload_n 0, 1) := by decide +kernel
theorem dX4_init_1 : decode cX4_init 1 = .ok (.invokespecial 3, 3) := by decide +kernel
theorem dX4_init_4 : decode cX4_init 4 = .ok (.aload_n 0, 1) := by decide +kernel
theorem dX4_init_5 : decode cX4_init 5 = .ok (.bipush 48, 2) := by decide +kernel
theorem dX4_init_7 : decode cX4_init 7 = .ok (.newarray .int, 2) := by decide +kernel
theorem dX4_init_9 : decode cX4_init 9 = .ok (.putfield 9, 3) := by decide +kernel
theorem dX4_init_12 : decode cX4_init 12 = .ok (.aload_n 0, 1) := by decide +kernel
theorem dX4_init_13 : decode cX4_init 13 = .ok (.bipush 48, 2) := by decide +kernel
theorem dX4_init_15 : decode cX4_init 15 = .ok (.newarray .int, 2) := by decide +kernel
theorem dX4_init_17 : decode cX4_init 17 = .ok (.putfield 15, 3) := by decide +kernel
theorem dX4_init_20 : decode cX4_init 20 = .ok (.aload_n 0, 1) := by decide +kernel
theorem dX4_init_21 : decode cX4_init 21 = .ok (.bipush 48, 2) := by decide +kernel
theorem dX4_init_23 : decode cX4_init 23 = .ok (.newarray .int, 2) := by decide +kernel
theorem dX4_init_25 : decode cX4_init 25 = .ok (.putfield 18, 3) := by decide +kernel
theorem dX4_init_28 : decode cX4_init 28 = .ok (.aload_n 0, 1) := by decide +kernel
theorem dX4_init_29 : decode cX4_init 29 = .ok (.bipush 6, 2) := by decide +kernel
theorem dX4_init_31 : decode cX4_init 31 = .ok (.newarray .int, 2) := by decide +kernel
theorem dX4_init_33 : decode cX4_init 33 = .ok (.putfield 21, 3) := by decide +kernel
theorem dX4_init_36 : decode cX4_init 36 = .ok (.aload_n 0, 1) := by decide +kernel
theorem dX4_init_37 : decode cX4_init 37 = .ok (.bipush 6, 2) := by decide +kernel
theorem dX4_init_39 : decode cX4_init 39 = .ok (.newarray .int, 2) := by decide +kernel
theorem dX4_init_41 : decode cX4_init 41 = .ok (.putfield 24, 3) := by decide +kernel
theorem dX4_init_44 : decode cX4_init 44 = .ok (.aload_n 0, 1) := by decide +kernel
theorem dX4_init_45 : decode cX4_init 45 = .ok (.bipush 9, 2) := by decide +kernel
theorem dX4_init_47 : decode cX4_init 47 = .ok (.newarray .int, 2) := by decide +kernel
theorem dX4_init_49 : decode cX4_init 49 = .ok (.putfield 27, 3) := by decide +kernel
theorem dX4_init_52 : decode cX4_init 52 = .ok (.aload_n 0, 1) := by decide +kernel
theorem dX4_init_53 : decode cX4_init 53 = .ok (.bipush 64, 2) := by decide +kernel
theorem dX4_init_55 : decode cX4_init 55 = .ok (.newarray .int, 2) := by decide +kernel
theorem dX4_init_57 : decode cX4_init 57 = .ok (.putfield 30, 3) := by decide +kernel
theorem dX4_init_60 : decode cX4_init 60 = .ok (.aload_n 0, 1) := by decide +kernel
theorem dX4_init_61 : decode cX4_init 61 = .ok (.new 33, 3) := by decide +kernel
theorem dX4_init_64 : decode cX4_init 64 = .ok (.dup, 1) := by decide +kernel
theorem dX4_init_65 : decode cX4_init 65 = .ok (.iconst 3, 1) := by decide +kernel
theorem dX4_init_66 : decode cX4_init 66 = .ok (.bipush 16, 2) := by decide +kernel
theorem dX4_init_68 : decode cX4_init 68 = .ok (.invokespecial 35, 3) := by decide +kernel
theorem dX4_init_71 : decode cX4_init 71 = .ok (.putfield 38, 3) := by decide +kernel
theorem dX4_init_74 : decode cX4_init 74 = .ok (.aload_n 0, 1) := by decide +kernel
theorem dX4_init_75 : decode cX4_init 75 = .ok (.new 33, 3) := by decide +kernel
theorem dX4_init_78 : decode cX4_init 78 = .ok (.dup, 1) := by decide +kernel
theorem dX4_init_79 : decode cX4_init 79 = .ok (.bipush 6, 2) := by decide +kernel
theorem dX4_init_81 : decode cX4_init 81 = .ok (.bipush 60, 2) := by decide +kernel
theorem dX4_init_83 : decode cX4_init 83 = .ok (.invokespecial 35, 3) := by decide +kernel
theorem dX4_init_86 : decode cX4_init 86 = .ok (.putfield 42, 3) := by decide +kernel
theorem dX4_init_89 : decode cX4_init 89 = .ok (.aload_n 0, 1) := by decide +kernel
theorem dX4_init_90 : decode cX4_init 90 = .ok (.new 33, 3) := by decide +kernel
theorem dX4_init_93 : decode cX4_init 93 = .ok (.dup, 1) := by decide +kernel
theorem dX4_init_94 : decode cX4_init 94 = .ok (.iconst 3, 1) := by decide +kernel
theorem dX4_init_95 : decode cX4_init 95 = .ok (.bipush 32, 2) := by decide +kernel
theorem dX4_init_97 : decode cX4_init 97 = .ok (.invokespecial 35, 3) := by decide +kernel
theorem dX4_init_100 : decode cX4_init 100 = .ok (.putfield 45, 3) := by decide +kernel
theorem dX4_init_103 : decode cX4_init 103 = .ok (.aload_n 0, 1) := by decide +kernel
theorem dX4_init_104 : decode cX4_init 104 = .ok (.new 33, 3) := by decide +kernel
theorem dX4_init_107 : decode cX4_init 107 = .ok (.dup, 1) := by decide +kernel
theorem dX4_init_108 : decode cX4_init 108 = .ok (.bipush 42, 2) := by decide +kernel
theorem dX4_init_110 : decode cX4_init 110 = .ok (.bipush 20, 2) := by decide +kernel
theorem dX4_init_112 : decode cX4_init 112 = .ok (.invokespecial 35, 3) := by decide +kernel
theorem dX4_init_115 : decode cX4_init 115 = .ok (.putfield 48, 3) := by decide +kernel
theorem dX4_init_118 : decode cX4_init 118 = .ok (.aload_n 0, 1) := by decide +kernel
theorem dX4_init_119 : decode cX4_init 119 = .ok (.new 33, 3) := by decide +kernel
theorem dX4_init_122 : decode cX4_init 122 = .ok (.dup, 1) := by decide +kernel
theorem dX4_init_123 : decode cX4_init 123 = .ok (.iconst 5, 1) := by decide +kernel
theorem dX4_init_124 : decode cX4_init 124 = .ok (.bipush 12, 2) := by decide +kernel
theorem dX4_init_126 : decode cX4_init 126 = .ok (.invokespecial 35, 3) := by decide +kernel
theorem dX4_init_129 : decode cX4_init 129 = .ok (.putfield 51, 3) := by decide +kernel
theorem dX4_init_132 : decode cX4_init 132 = .ok (.aload_n 0, 1) := by decide +kernel
theorem dX4_init_133 : decode cX4_init 133 = .ok (.bipush 8, 2) := by decide +kernel
theorem dX4_init_135 : decode cX4_init 135 = .ok (.anewarray 54, 3) := by decide +kernel
theorem dX4_init_138 : decode cX4_init 138 = .ok (.putfield 56, 3) := by decide +kernel
theorem dX4_init_141 : decode cX4_init 141 = .ok (.aload_n 0, 1) := by decide +kernel
theorem dX4_init_142 : decode cX4_init 142 = .ok (.iconst 0, 1) := by decide +kernel
theorem dX4_init_143 : decode cX4_init 143 = .ok (.putfield 60, 3) := by decide +kernel
theorem dX4_init_146 : decode cX4_init 146 = .ok (.aload_n 0, 1) := by decide +kernel
theorem dX4_init_147 : decode cX4_init 147 = .ok (.getfield 9, 3) := by decide +kernel
theorem dX4_init_150 : decode cX4_init 150 = .ok (.iconst 5, 1) := by decide +kernel
theorem dX4_init_151 : decode cX4_init 151 = .ok (.invokestatic 64, 3) := by decide +kernel
theorem dX4_init_154 : decode cX4_init 154 = .ok (.aload_n 0, 1) := by decide +kernel
theorem dX4_init_155 : decode cX4_init 155 = .ok (.getfield 21, 3) := by decide +kernel
theorem dX4_init_158 : decode cX4_init 158 = .ok (.bipush 10, 2) := by decide +kernel
theorem dX4_init_160 : decode cX4_init 160 = .ok (.invokestatic 64, 3) := by decide +kernel
theorem dX4_init_163 : decode cX4_init 163 = .ok (.aload_n 0, 1) := by decide +kernel
theorem dX4_init_164 : decode cX4_init 164 = .ok (.getfield 30, 3) := by decide +kernel
theorem dX4_init_167 : decode cX4_init 167 = .ok (.sipush 10000, 3) := by decide +kernel
theorem dX4_init_170 : decode cX4_init 170 = .ok (.invokestatic 64, 3) := by decide +kernel
theorem dX4_init_173 : decode cX4_init 173 = .ok (.getstatic 70, 3) := by decide +kernel
theorem dX4_init_176 : decode cX4_init 176 = .ok (.iconst 0, 1) := by decide +kernel
theorem dX4_init_177 : decode cX4_init 177 = .ok (.aload_n 0, 1) := by decide +kernel
theorem dX4_init_178 : decode cX4_init 178 = .ok (.getfield 27, 3) := by decide +kernel
theorem dX4_init_181 : decode cX4_init 181 = .ok (.iconst 0, 1) := by decide +kernel
theorem dX4_init_182 : decode cX4_init 182 = .ok (.bipush 9, 2) := by decide +kernel
theorem dX4_init_184 : decode cX4_init 184 = .ok (.invokestatic 73, 3) := by decide +kernel
theorem dX4_init_187 : decode cX4_init 187 = .ok (.return_, 1) := by decide +kernel
theorem dX4_become_0 : decode cX4_become 0 = .ok (.aload_n 1, 1) := by decide +kernel
theorem dX4_become_1 : decode cX4_become 1 = .ok (.getfield 9, 3) := by decide +kernel
theorem dX4_become_4 : decode cX4_become 4 = .ok (.iconst 0, 1) := by decide +kernel
theorem dX4_become_5 : decode cX4_become 5 = .ok (.aload_n 0, 1) := by decide +kernel
theorem dX4_become_6 : decode cX4_become 6 = .ok (.getfield 9, 3) := by decide +kernel
theorem dX4_become_9 : decode cX4_become 9 = .ok (.iconst 0, 1) := by decide +kernel
theorem dX4_become_10 : decode cX4_become 10 = .ok (.bipush 48, 2) := by decide +kernel
theorem dX4_become_12 : decode cX4_become 12 = .ok (.invokestatic 73, 3) := by decide +kernel
theorem dX4_become_15 : decode cX4_become 15 = .ok (.aload_n 1, 1) := by decide +kernel
theorem dX4_become_16 : decode cX4_become 16 = .ok (.getfield 15, 3) := by decide +kernel
theorem dX4_become_19 : decode cX4_become 19 = .ok (.iconst 0, 1) := by decide +kernel
theorem dX4_become_20 : decode cX4_become 20 = .ok (.aload_n 0, 1) := by decide +kernel
theorem dX4_become_21 : decode cX4_become 21 = .ok (.getfield 15, 3) := by decide +kernel
theorem dX4_become_24 : decode cX4_become 24 = .ok (.iconst 0, 1) := by decide +kernel
theorem dX4_become_25 : decode cX4_become 25 = .ok (.bipush 48, 2) := by decide +kernel
theorem dX4_become_27 : decode cX4_become 27 = .ok (.invokestatic 73, 3) := by decide +kernel
theorem dX4_become_30 : decode cX4_become 30 = .ok (.aload_n 1, 1) := by decide +kernel
theorem dX4_become_31 : decode cX4_become 31 = .ok (.getfield 18, 3) := by decide +kernel
theorem dX4_become_34 : decode cX4_become 34 = .ok (.iconst 0, 1) := by decide +kernel
theorem dX4_become_35 : decode cX4_become 35 = .ok (.aload_n 0, 1) := by decide +kernel
theorem dX4_become_36 : decode cX4_become 36 = .ok (.getfield 18, 3) := by decide +kernel
theorem dX4_become_39 : decode cX4_become 39 = .ok (.iconst 0, 1) := by decide +kernel
theorem dX4_become_40 : decode cX4_become 40 = .ok (.bipush 48, 2) := by decide +kernel
theorem dX4_become_42 : decode cX4_become 42 = .ok (.invokestatic 73, 3) := by decide +kernel
theorem dX4_become_45 : decode cX4_become 45 = .ok (.aload_n 1, 1) := by decide +kernel
theorem dX4_become_46 : decode cX4_become 46 = .ok (.getfield 21, 3) := by decide +kernel
theorem dX4_become_49 : decode cX4_become 49 = .ok (.iconst 0, 1) := by decide +kernel
theorem dX4_become_50 : decode cX4_become 50 = .ok (.aload_n 0, 1) := by decide +kernel
theorem dX4_become_51 : decode cX4_become 51 = .ok (.getfield 21, 3) := by decide +kernel
theorem dX4_become_54 : decode cX4_become 54 = .ok (.iconst 0, 1) := by decide +kernel
theorem dX4_become_55 : decode cX4_become 55 = .ok (.bipush 6, 2) := by decide +kernel
theorem dX4_become_57 : decode cX4_become 57 = .ok (.invokestatic 73, 3) := by decide +kernel
theorem dX4_become_60 : decode cX4_become 60 = .ok (.aload_n 1, 1) := by decide +kernel
theorem dX4_become_61 : decode cX4_become 61 = .ok (.getfield 24, 3) := by decide +kernel
theorem dX4_become_64 : decode cX4_become 64 = .ok (.iconst 0, 1) := by decide +kernel
theorem dX4_become_65 : decode cX4_become 65 = .ok (.aload_n 0, 1) := by decide +kernel
theorem dX4_become_66 : decode cX4_become 66 = .ok (.getfield 24, 3) := by decide +kernel
theorem dX4_become_69 : decode cX4_become 69 = .ok (.iconst 0, 1) := by decide +kernel
theorem dX4_become_70 : decode cX4_become 70 = .ok (.bipush 6, 2) := by decide +kernel
theorem dX4_become_72 : decode cX4_become 72 = .ok (.invokestatic 73, 3) := by decide +kernel
theorem dX4_become_75 : decode cX4_become 75 = .ok (.aload_n 1, 1) := by decide +kernel
theorem dX4_become_76 : decode cX4_become 76 = .ok (.getfield 27, 3) := by decide +kernel
theorem dX4_become_79 : decode cX4_become 79 = .ok (.iconst 0, 1) := by decide +kernel
theorem dX4_become_80 : decode cX4_become 80 = .ok (.aload_n 0, 1) := by decide +kernel
theorem dX4_become_81 : decode cX4_become 81 = .ok (.getfield 27, 3) := by decide +kernel
theorem dX4_become_84 : decode cX4_become 84 = .ok (.iconst 0, 1) := by decide +kernel
theorem dX4_become_85 : decode cX4_become 85 = .ok (.bipush 9, 2) := by decide +kernel
theorem dX4_become_87 : decode cX4_become 87 = .ok (.invokestatic 73, 3) := by decide +kernel
theorem dX4_become_90 : decode cX4_become 90 = .ok (.aload_n 1, 1) := by decide +kernel
theorem dX4_become_91 : decode cX4_become 91 = .ok (.getfield 30, 3) := by decide +kernel
theorem dX4_become_94 : decode cX4_become 94 = .ok (.iconst 0, 1) := by decide +kernel
theorem dX4_become_95 : decode cX4_become 95 = .ok (.aload_n 0, 1) := by decide +kernel
theorem dX4_become_96 : decode cX4_become 96 = .ok (.getfield 30, 3) := by decide +kernel
theorem dX4_become_99 : decode cX4_become 99 = .ok (.iconst 0, 1) := by decide +kernel
theorem dX4_become_100 : decode cX4_become 100 = .ok (.bipush 64, 2) := by decide +kernel
theorem dX4_become_102 : decode cX4_become 102 = .ok (.invokestatic 73, 3) := by decide +kernel
theorem dX4_become_105 : decode cX4_become 105 = .ok (.aload_n 0, 1) := by decide +kernel
theorem dX4_become_106 : decode cX4_become 106 = .ok (.getfield 38, 3) := by decide +kernel
theorem dX4_become_109 : decode cX4_become 109 = .ok (.aload_n 1, 1) := by decide +kernel
theorem dX4_become_110 : decode cX4_become 110 = .ok (.getfield 38, 3) := by decide +kernel
theorem dX4_become_113 : decode cX4_become 113 = .ok (.invokevirtual 79, 3) := by decide +kernel
theorem dX4_become_116 : decode cX4_become 116 = .ok (.aload_n 0, 1) := by decide +kernel
theorem dX4_become_117 : decode cX4_become 117 = .ok (.getfield 42, 3) := by decide +kernel
theorem dX4_become_120 : decode cX4_become 120 = .ok (.aload_n 1, 1) := by decide +kernel
theorem dX4_become_121 : decode cX4_become 121 = .ok (.getfield 42, 3) := by decide +kernel
theorem dX4_become_124 : decode cX4_become 124 = .ok (.invokevirtual 79, 3) := by decide +kernel
theorem dX4_become_127 : decode cX4_become 127 = .ok (.aload_n 0, 1) := by decide +kernel
theorem dX4_become_128 : decode cX4_become 128 = .ok (.getfield 45, 3) := by decide +kernel
theorem dX4_become_131 : decode cX4_become 131 = .ok (.aload_n 1, 1) := by decide +kernel
theorem dX4_become_132 : decode cX4_become 132 = .ok (.getfield 45, 3) := by decide +kernel
theorem dX4_become_135 : decode cX4_become 135 = .ok (.invokevirtual 79, 3) := by decide +kernel
theorem dX4_become_138 : decode cX4_become 138 = .ok (.aload_n 0, 1) := by decide +kernel
theorem dX4_become_139 : decode cX4_become 139 = .ok (.getfield 48, 3) := by decide +kernel
theorem dX4_become_142 : decode cX4_become 142 = .ok (.aload_n 1, 1) := by decide +kernel
theorem dX4_become_143 : decode cX4_become 143 = .ok (.getfield 48, 3) := by decide +kernel
theorem dX4_become_146 : decode cX4_become 146 = .ok (.invokevirtual 79, 3) := by decide +kernel
theorem dX4_become_149 : decode cX4_become 149 = .ok (.aload_n 0, 1) := by decide +kernel
theorem dX4_become_150 : decode cX4_become 150 = .ok (.getfield 51, 3) := by decide +kernel
theorem dX4_become_153 : decode cX4_become 153 = .ok (.aload_n 1, 1) := by decide +kernel
theorem dX4_become_154 : decode cX4_become 154 = .ok (.getfield 51, 3) := by decide +kernel
theorem dX4_become_157 : decode cX4_become 157 = .ok (.invokevirtual 79, 3) := by decide +kernel
theorem dX4_become_160 : decode cX4_become 160 = .ok (.iconst 0, 1) := by decide +kernel
theorem dX4_become_161 : decode cX4_become 161 = .ok (.istore_n 2, 1) := by decide +kernel
theorem dX4_become_162 : decode cX4_become 162 = .ok (.iload_n 2, 1) := by decide +kernel
theorem dX4_become_163 : decode cX4_become 163 = .ok (.bipush 8, 2) := by decide +kernel
theorem dX4_become_165 : decode cX4_become 165 = .ok (.if_icmp .ge 21, 3) := by decide +kernel
theorem dX4_become_168 : decode cX4_become 168 = .ok (.aload_n 0, 1) := by decide +kernel
theorem dX4_become_169 : decode cX4_become 169 = .ok (.getfield 56, 3) := by decide +kernel
theorem dX4_become_172 : decode cX4_become 172 = .ok (.iload_n 2, 1) := by decide +kernel
theorem dX4_become_173 : decode cX4_become 173 = .ok (.aload_n 1, 1) := by decide +kernel
theorem dX4_become_174 : decode cX4_become 174 = .ok (.getfield 56, 3) := by decide +kernel
theorem dX4_become_177 : decode cX4_become 177 = .ok (.iload_n 2, 1) := by decide +kernel
theorem dX4_become_178 : decode cX4_become 178 = .ok (.aaload, 1) := by decide +kernel
theorem dX4_become_179 : decode cX4_become 179 = .ok (.aastore, 1) := by decide +kernel
theorem dX4_become_180 : decode cX4_become 180 = .ok (.iinc 2 1, 3) := by decide +kernel
theorem dX4_become_183 : decode cX4_become 183 = .ok (.goto (-21), 3) := by decide +kernel
theorem dX4_become_186 : decode cX4_become 186 = .ok (.aload_n 0, 1) := by decide +kernel
theorem dX4_become_187 : decode cX4_become 187 = .ok (.aload_n 1, 1) := by decide +kernel
theorem dX4_become_188 : decode cX4_become 188 = .ok (.getfield 60, 3) := by decide +kernel
theorem dX4_become_191 : decode cX4_become 191 = .ok (.putfield 60, 3) := by decide +kernel
theorem dX4_become_194 : decode cX4_become 194 = .ok (.return_, 1) := by decide +kernel
theorem dX4_holdOf_0 : decode cX4_holdOf 0 = .ok (.aload_n 0, 1) := by decide +kernel
theorem dX4_holdOf_1 : decode cX4_holdOf 1 = .ok (.getfield 27, 3) := by decide +kernel
theorem dX4_holdOf_4 : decode cX4_holdOf 4 = .ok (.iconst 0, 1) := by decide +kernel
theorem dX4_holdOf_5 : decode cX4_holdOf 5 = .ok (.iaload, 1) := by decide +kernel
theorem dX4_holdOf_6 : decode cX4_holdOf 6 = .ok (.istore_n 2, 1) := by decide +kernel
theorem dX4_holdOf_7 : decode cX4_holdOf 7 = .ok (.aload_n 0, 1) := by decide +kernel
theorem dX4_holdOf_8 : decode cX4_holdOf 8 = .ok (.getfield 27, 3) := by decide +kernel
theorem dX4_holdOf_11 : decode cX4_holdOf 11 = .ok (.iconst 1, 1) := by decide +kernel
theorem dX4_holdOf_12 : decode cX4_holdOf 12 = .ok (.iaload, 1) := by decide +kernel
theorem dX4_holdOf_13 : decode cX4_holdOf 13 = .ok (.istore_n 3, 1) := by decide +kernel
theorem dX4_holdOf_14 : decode cX4_holdOf 14 = .ok (.aload_n 0, 1) := by decide +kernel
theorem dX4_holdOf_15 : decode cX4_holdOf 15 = .ok (.getfield 15, 3) := by decide +kernel
theorem dX4_holdOf_18 : decode cX4_holdOf 18 = .ok (.iload_n 1, 1) := by decide +kernel
theorem dX4_holdOf_19 : decode cX4_holdOf 19 = .ok (.iaload, 1) := by decide +kernel
theorem dX4_holdOf_20 : decode cX4_holdOf 20 = .ok (.ifCond .ne 7, 3) := by decide +kernel
theorem dX4_holdOf_23 : decode cX4_holdOf 23 = .ok (.iload_n 2, 1) := by decide +kernel
theorem dX4_holdOf_24 : decode cX4_holdOf 24 = .ok (.goto 17, 3) := by decide +kernel
theorem dX4_holdOf_27 : decode cX4_holdOf 27 = .ok (.iload_n 3, 1) := by decide +kernel
theorem dX4_holdOf_28 : decode cX4_holdOf 28 = .ok (.iload_n 2, 1) := by decide +kernel
theorem dX4_holdOf_29 : decode cX4_holdOf 29 = .ok (.iload_n 3, 1) := by decide +kernel
theorem dX4_holdOf_30 : decode cX4_holdOf 30 = .ok (.isub, 1) := by decide +kernel
theorem dX4_holdOf_31 : decode cX4_holdOf 31 = .ok (.aload_n 0, 1) := by decide +kernel
theorem dX4_holdOf_32 : decode cX4_holdOf 32 = .ok (.getfield 18, 3) := by decide +kernel
theorem dX4_holdOf_35 : decode cX4_holdOf 35 = .ok (.iload_n 1, 1) := by decide +kernel
theorem dX4_holdOf_36 : decode cX4_holdOf 36 = .ok (.iaload, 1) := by decide +kernel
theorem dX4_holdOf_37 : decode cX4_holdOf 37 = .ok (.imul, 1) := by decide +kernel
theorem dX4_holdOf_38 : decode cX4_holdOf 38 = .ok (.iconst 4, 1) := by decide +kernel
theorem dX4_holdOf_39 : decode cX4_holdOf 39 = .ok (.idiv, 1) := by decide +kernel
theorem dX4_holdOf_40 : decode cX4_holdOf 40 = .ok (.iadd, 1) := by decide +kernel
theorem dX4_holdOf_41 : decode cX4_holdOf 41 = .ok (.ireturn, 1) := by decide +kernel
theorem dX4_isOnFace_0 : decode cX4_isOnFace 0 = .ok (.aload_n 0, 1) := by decide +kernel
theorem dX4_isOnFace_1 : decode cX4_isOnFace 1 = .ok (.getfield 38, 3) := by decide +kernel
theorem dX4_isOnFace_4 : decode cX4_isOnFace 4 = .ok (.iload_n 1, 1) := by decide +kernel
theorem dX4_isOnFace_5 : decode cX4_isOnFace 5 = .ok (.iconst 0, 1) := by decide +kernel
theorem dX4_isOnFace_6 : decode cX4_isOnFace 6 = .ok (.invokevirtual 83, 3) := by decide +kernel
theorem dX4_isOnFace_9 : decode cX4_isOnFace 9 = .ok (.iconst 2, 1) := by decide +kernel
theorem dX4_isOnFace_10 : decode cX4_isOnFace 10 = .ok (.irem, 1) := by decide +kernel
theorem dX4_isOnFace_11 : decode cX4_isOnFace 11 = .ok (.ifCond .ne 7, 3) := by decide +kernel
theorem dX4_isOnFace_14 : decode cX4_isOnFace 14 = .ok (.iconst 1, 1) := by decide +kernel
theorem dX4_isOnFace_15 : decode cX4_isOnFace 15 = .ok (.goto 4, 3) := by decide +kernel
theorem dX4_isOnFace_18 : decode cX4_isOnFace 18 = .ok (.iconst 0, 1) := by decide +kernel
theorem dX4_isOnFace_19 : decode cX4_isOnFace 19 = .ok (.ireturn, 1) := by decide +kernel
theorem dX4_currents_0 : decode cX4_currents 0 = .ok (.aload_n 0, 1) := by decide +kernel
theorem dX4_currents_1 : decode cX4_currents 1 = .ok (.getfield 27, 3) := by decide +kernel
theorem dX4_currents_4 : decode cX4_currents 4 = .ok (.iconst 4, 1) := by decide +kernel
theorem dX4_currents_5 : decode cX4_currents 5 = .ok (.iaload, 1) := by decide +kernel
theorem dX4_currents_6 : decode cX4_currents 6 = .ok (.ifCond .ne 8, 3) := by decide +kernel
theorem dX4_currents_9 : decode cX4_currents 9 = .ok (.ldc 87, 2) := by decide +kernel
theorem dX4_currents_11 : decode cX4_currents 11 = .ok (.goto 4, 3) := by decide +kernel
theorem dX4_currents_14 : decode cX4_currents 14 = .ok (.iconst (-1), 1) := by decide +kernel
theorem dX4_currents_15 : decode cX4_currents 15 = .ok (.ireturn, 1) := by decide +kernel
theorem dX4_yearOf_0 : decode cX4_yearOf 0 = .ok (.iconst 0, 1) := by decide +kernel
theorem dX4_yearOf_1 : decode cX4_yearOf 1 = .ok (.istore_n 3, 1) := by decide +kernel
theorem dX4_yearOf_2 : decode cX4_yearOf 2 = .ok (.iconst 0, 1) := by decide +kernel
theorem dX4_yearOf_3 : decode cX4_yearOf 3 = .ok (.istore 4, 2) := by decide +kernel
theorem dX4_yearOf_5 : decode cX4_yearOf 5 = .ok (.iload 4, 2) := by decide +kernel
theorem dX4_yearOf_7 : decode cX4_yearOf 7 = .ok (.aload_n 0, 1) := by decide +kernel
theorem dX4_yearOf_8 : decode cX4_yearOf 8 = .ok (.getfield 38, 3) := by decide +kernel
theorem dX4_yearOf_11 : decode cX4_yearOf 11 = .ok (.getfield 88, 3) := by decide +kernel
theorem dX4_yearOf_14 : decode cX4_yearOf 14 = .ok (.if_icmp .ge 71, 3) := by decide +kernel
theorem dX4_yearOf_17 : decode cX4_yearOf 17 = .ok (.iload_n 1, 1) := by decide +kernel
theorem dX4_yearOf_18 : decode cX4_yearOf 18 = .ok (.iconst 2, 1) := by decide +kernel
theorem dX4_yearOf_19 : decode cX4_yearOf 19 = .ok (.iload 4, 2) := by decide +kernel
theorem dX4_yearOf_21 : decode cX4_yearOf 21 = .ok (.imul, 1) := by decide +kernel
theorem dX4_yearOf_22 : decode cX4_yearOf 22 = .ok (.iconst 1, 1) := by decide +kernel
theorem dX4_yearOf_23 : decode cX4_yearOf 23 = .ok (.iadd, 1) := by decide +kernel
theorem dX4_yearOf_24 : decode cX4_yearOf 24 = .ok (.iushr, 1) := by decide +kernel
theorem dX4_yearOf_25 : decode cX4_yearOf 25 = .ok (.iconst 1, 1) := by decide +kernel
theorem dX4_yearOf_26 : decode cX4_yearOf 26 = .ok (.iand, 1) := by decide +kernel
theorem dX4_yearOf_27 : decode cX4_yearOf 27 = .ok (.istore 5, 2) := by decide +kernel
theorem dX4_yearOf_29 : decode cX4_yearOf 29 = .ok (.aload_n 0, 1) := by decide +kernel
theorem dX4_yearOf_30 : decode cX4_yearOf 30 = .ok (.getfield 27, 3) := by decide +kernel
theorem dX4_yearOf_33 : decode cX4_yearOf 33 = .ok (.iconst 4, 1) := by decide +kernel
theorem dX4_yearOf_34 : decode cX4_yearOf 34 = .ok (.iaload, 1) := by decide +kernel
theorem dX4_yearOf_35 : decode cX4_yearOf 35 = .ok (.ifCond .ne 8, 3) := by decide +kernel
theorem dX4_yearOf_38 : decode cX4_yearOf 38 = .ok (.iload 5, 2) := by decide +kernel
theorem dX4_yearOf_40 : decode cX4_yearOf 40 = .ok (.goto 11, 3) := by decide +kernel
theorem dX4_yearOf_43 : decode cX4_yearOf 43 = .ok (.iload_n 1, 1) := by decide +kernel
theorem dX4_yearOf_44 : decode cX4_yearOf 44 = .ok (.iconst 2, 1) := by decide +kernel
theorem dX4_yearOf_45 : decode cX4_yearOf 45 = .ok (.iload 4, 2) := by decide +kernel
theorem dX4_yearOf_47 : decode cX4_yearOf 47 = .ok (.imul, 1) := by decide +kernel
theorem dX4_yearOf_48 : decode cX4_yearOf 48 = .ok (.iushr, 1) := by decide +kernel
theorem dX4_yearOf_49 : decode cX4_yearOf 49 = .ok (.iconst 1, 1) := by decide +kernel
theorem dX4_yearOf_50 : decode cX4_yearOf 50 = .ok (.iand, 1) := by decide +kernel
theorem dX4_yearOf_51 : decode cX4_yearOf 51 = .ok (.istore 6, 2) := by decide +kernel
theorem dX4_yearOf_53 : decode cX4_yearOf 53 = .ok (.iload_n 3, 1) := by decide +kernel
theorem dX4_yearOf_54 : decode cX4_yearOf 54 = .ok (.aload_n 0, 1) := by decide +kernel
theorem dX4_yearOf_55 : decode cX4_yearOf 55 = .ok (.getfield 38, 3) := by decide +kernel
theorem dX4_yearOf_58 : decode cX4_yearOf 58 = .ok (.iload 4, 2) := by decide +kernel
theorem dX4_yearOf_60 : decode cX4_yearOf 60 = .ok (.iconst 2, 1) := by decide +kernel
theorem dX4_yearOf_61 : decode cX4_yearOf 61 = .ok (.invokevirtual 83, 3) := by decide +kernel
theorem dX4_yearOf_64 : decode cX4_yearOf 64 = .ok (.iload 5, 2) := by decide +kernel
theorem dX4_yearOf_66 : decode cX4_yearOf 66 = .ok (.bipush 100, 2) := by decide +kernel
theorem dX4_yearOf_68 : decode cX4_yearOf 68 = .ok (.iload_n 2, 1) := by decide +kernel
theorem dX4_yearOf_69 : decode cX4_yearOf 69 = .ok (.isub, 1) := by decide +kernel
theorem dX4_yearOf_70 : decode cX4_yearOf 70 = .ok (.imul, 1) := by decide +kernel
theorem dX4_yearOf_71 : decode cX4_yearOf 71 = .ok (.iload 6, 2) := by decide +kernel
theorem dX4_yearOf_73 : decode cX4_yearOf 73 = .ok (.iload_n 2, 1) := by decide +kernel
theorem dX4_yearOf_74 : decode cX4_yearOf 74 = .ok (.imul, 1) := by decide +kernel
theorem dX4_yearOf_75 : decode cX4_yearOf 75 = .ok (.iadd, 1) := by decide +kernel
theorem dX4_yearOf_76 : decode cX4_yearOf 76 = .ok (.imul, 1) := by decide +kernel
theorem dX4_yearOf_77 : decode cX4_yearOf 77 = .ok (.iadd, 1) := by decide +kernel
theorem dX4_yearOf_78 : decode cX4_yearOf 78 = .ok (.istore_n 3, 1) := by decide +kernel
theorem dX4_yearOf_79 : decode cX4_yearOf 79 = .ok (.iinc 4 1, 3) := by decide +kernel
theorem dX4_yearOf_82 : decode cX4_yearOf 82 = .ok (.goto (-77), 3) := by decide +kernel
theorem dX4_yearOf_85 : decode cX4_yearOf 85 = .ok (.iload_n 3, 1) := by decide +kernel
theorem dX4_yearOf_86 : decode cX4_yearOf 86 = .ok (.ireturn, 1) := by decide +kernel
theorem dX4_learn_0 : decode cX4_learn 0 = .ok (.iload_n 1, 1) := by decide +kernel
theorem dX4_learn_1 : decode cX4_learn 1 = .ok (.bipush 8, 2) := by decide +kernel
theorem dX4_learn_3 : decode cX4_learn 3 = .ok (.imul, 1) := by decide +kernel
theorem dX4_learn_4 : decode cX4_learn 4 = .ok (.iload_n 2, 1) := by decide +kernel
theorem dX4_learn_5 : decode cX4_learn 5 = .ok (.iadd, 1) := by decide +kernel
theorem dX4_learn_6 : decode cX4_learn 6 = .ok (.istore 4, 2) := by decide +kernel
theorem dX4_learn_8 : decode cX4_learn 8 = .ok (.aload_n 0, 1) := by decide +kernel
theorem dX4_learn_9 : decode cX4_learn 9 = .ok (.getfield 30, 3) := by decide +kernel
theorem dX4_learn_12 : decode cX4_learn 12 = .ok (.iload 4, 2) := by decide +kernel
theorem dX4_learn_14 : decode cX4_learn 14 = .ok (.aload_n 0, 1) := by decide +kernel
theorem dX4_learn_15 : decode cX4_learn 15 = .ok (.getfield 30, 3) := by decide +kernel
theorem dX4_learn_18 : decode cX4_learn 18 = .ok (.iload 4, 2) := by decide +kernel
theorem dX4_learn_20 : decode cX4_learn 20 = .ok (.iaload, 1) := by decide +kernel
theorem dX4_learn_21 : decode cX4_learn 21 = .ok (.iload_n 3, 1) := by decide +kernel
theorem dX4_learn_22 : decode cX4_learn 22 = .ok (.invokestatic 91, 3) := by decide +kernel
theorem dX4_learn_25 : decode cX4_learn 25 = .ok (.iastore, 1) := by decide +kernel
theorem dX4_learn_26 : decode cX4_learn 26 = .ok (.return_, 1) := by decide +kernel
theorem dX4_firstOfOthers_0 : decode cX4_firstOfOthers 0 = .ok (.sipush 10000, 3) := by decide +kernel
theorem dX4_firstOfOthers_3 : decode cX4_firstOfOthers 3 = .ok (.istore_n 3, 1) := by decide +kernel
theorem dX4_firstOfOthers_4 : decode cX4_firstOfOthers 4 = .ok (.iconst 0, 1) := by decide +kernel
theorem dX4_firstOfOthers_5 : decode cX4_firstOfOthers 5 = .ok (.istore 4, 2) := by decide +kernel
theorem dX4_firstOfOthers_7 : decode cX4_firstOfOthers 7 = .ok (.iload 4, 2) := by decide +kernel
theorem dX4_firstOfOthers_9 : decode cX4_firstOfOthers 9 = .ok (.bipush 8, 2) := by decide +kernel
theorem dX4_firstOfOthers_11 : decode cX4_firstOfOthers 11 = .ok (.if_icmp .ge 32, 3) := by decide +kernel
theorem dX4_firstOfOthers_14 : decode cX4_firstOfOthers 14 = .ok (.iload 4, 2) := by decide +kernel
theorem dX4_firstOfOthers_16 : decode cX4_firstOfOthers 16 = .ok (.iload_n 1, 1) := by decide +kernel
theorem dX4_firstOfOthers_17 : decode cX4_firstOfOthers 17 = .ok (.if_icmp .eq 20, 3) := by decide +kernel
theorem dX4_firstOfOthers_20 : decode cX4_firstOfOthers 20 = .ok (.iload_n 3, 1) := by decide +kernel
theorem dX4_firstOfOthers_21 : decode cX4_firstOfOthers 21 = .ok (.aload_n 0, 1) := by decide +kernel
theorem dX4_firstOfOthers_22 : decode cX4_firstOfOthers 22 = .ok (.getfield 30, 3) := by decide +kernel
theorem dX4_firstOfOthers_25 : decode cX4_firstOfOthers 25 = .ok (.iload 4, 2) := by decide +kernel
theorem dX4_firstOfOthers_27 : decode cX4_firstOfOthers 27 = .ok (.bipush 8, 2) := by decide +kernel
theorem dX4_firstOfOthers_29 : decode cX4_firstOfOthers 29 = .ok (.imul, 1) := by decide +kernel
theorem dX4_firstOfOthers_30 : decode cX4_firstOfOthers 30 = .ok (.iload_n 2, 1) := by decide +kernel
theorem dX4_firstOfOthers_31 : decode cX4_firstOfOthers 31 = .ok (.iadd, 1) := by decide +kernel
theorem dX4_firstOfOthers_32 : decode cX4_firstOfOthers 32 = .ok (.iaload, 1) := by decide +kernel
theorem dX4_firstOfOthers_33 : decode cX4_firstOfOthers 33 = .ok (.invokestatic 91, 3) := by decide +kernel
theorem dX4_firstOfOthers_36 : decode cX4_firstOfOthers 36 = .ok (.istore_n 3, 1) := by decide +kernel
theorem dX4_firstOfOthers_37 : decode cX4_firstOfOthers 37 = .ok (.iinc 4 1, 3) := by decide +kernel
theorem dX4_firstOfOthers_40 : decode cX4_firstOfOthers 40 = .ok (.goto (-33), 3) := by decide +kernel
theorem dX4_firstOfOthers_43 : decode cX4_firstOfOthers 43 = .ok (.iload_n 3, 1) := by decide +kernel
theorem dX4_firstOfOthers_44 : decode cX4_firstOfOthers 44 = .ok (.ireturn, 1) := by decide +kernel
theorem dX4_peopleUnder_0 : decode cX4_peopleUnder 0 = .ok (.iconst 0, 1) := by decide +kernel
theorem dX4_peopleUnder_1 : decode cX4_peopleUnder 1 = .ok (.istore_n 3, 1) := by decide +kernel
theorem dX4_peopleUnder_2 : decode cX4_peopleUnder 2 = .ok (.iconst 0, 1) := by decide +kernel
theorem dX4_peopleUnder_3 : decode cX4_peopleUnder 3 = .ok (.istore 4, 2) := by decide +kernel
theorem dX4_peopleUnder_5 : decode cX4_peopleUnder 5 = .ok (.iload 4, 2) := by decide +kernel
theorem dX4_peopleUnder_7 : decode cX4_peopleUnder 7 = .ok (.aload_n 0, 1) := by decide +kernel
theorem dX4_peopleUnder_8 : decode cX4_peopleUnder 8 = .ok (.getfield 45, 3) := by decide +kernel
theorem dX4_peopleUnder_11 : decode cX4_peopleUnder 11 = .ok (.getfield 88, 3) := by decide +kernel
theorem dX4_peopleUnder_14 : decode cX4_peopleUnder 14 = .ok (.if_icmp .ge 85, 3) := by decide +kernel
theorem dX4_peopleUnder_17 : decode cX4_peopleUnder 17 = .ok (.aload_n 0, 1) := by decide +kernel
theorem dX4_peopleUnder_18 : decode cX4_peopleUnder 18 = .ok (.getfield 45, 3) := by decide +kernel
theorem dX4_peopleUnder_21 : decode cX4_peopleUnder 21 = .ok (.iload 4, 2) := by decide +kernel
theorem dX4_peopleUnder_23 : decode cX4_peopleUnder 23 = .ok (.iconst 0, 1) := by decide +kernel
theorem dX4_peopleUnder_24 : decode cX4_peopleUnder 24 = .ok (.invokevirtual 83, 3) := by decide +kernel
theorem dX4_peopleUnder_27 : decode cX4_peopleUnder 27 = .ok (.iload_n 1, 1) := by decide +kernel
theorem dX4_peopleUnder_28 : decode cX4_peopleUnder 28 = .ok (.isub, 1) := by decide +kernel
theorem dX4_peopleUnder_29 : decode cX4_peopleUnder 29 = .ok (.bipush 7, 2) := by decide +kernel
theorem dX4_peopleUnder_31 : decode cX4_peopleUnder 31 = .ok (.iand, 1) := by decide +kernel
theorem dX4_peopleUnder_32 : decode cX4_peopleUnder 32 = .ok (.istore 5, 2) := by decide +kernel
theorem dX4_peopleUnder_34 : decode cX4_peopleUnder 34 = .ok (.iload 5, 2) := by decide +kernel
theorem dX4_peopleUnder_36 : decode cX4_peopleUnder 36 = .ok (.ifCond .ne 7, 3) := by decide +kernel
theorem dX4_peopleUnder_39 : decode cX4_peopleUnder 39 = .ok (.iload_n 2, 1) := by decide +kernel
theorem dX4_peopleUnder_40 : decode cX4_peopleUnder 40 = .ok (.goto 23, 3) := by decide +kernel
theorem dX4_peopleUnder_43 : decode cX4_peopleUnder 43 = .ok (.iload 5, 2) := by decide +kernel
theorem dX4_peopleUnder_45 : decode cX4_peopleUnder 45 = .ok (.iconst 1, 1) := by decide +kernel
theorem dX4_peopleUnder_46 : decode cX4_peopleUnder 46 = .ok (.if_icmp .eq 10, 3) := by decide +kernel
theorem dX4_peopleUnder_49 : decode cX4_peopleUnder 49 = .ok (.iload 5, 2) := by decide +kernel
theorem dX4_peopleUnder_51 : decode cX4_peopleUnder 51 = .ok (.bipush 7, 2) := by decide +kernel
theorem dX4_peopleUnder_53 : decode cX4_peopleUnder 53 = .ok (.if_icmp .ne 9, 3) := by decide +kernel
theorem dX4_peopleUnder_56 : decode cX4_peopleUnder 56 = .ok (.iload_n 2, 1) := by decide +kernel
theorem dX4_peopleUnder_57 : decode cX4_peopleUnder 57 = .ok (.iconst 2, 1) := by decide +kernel
theorem dX4_peopleUnder_58 : decode cX4_peopleUnder 58 = .ok (.idiv, 1) := by decide +kernel
theorem dX4_peopleUnder_59 : decode cX4_peopleUnder 59 = .ok (.goto 4, 3) := by decide +kernel
theorem dX4_peopleUnder_62 : decode cX4_peopleUnder 62 = .ok (.iconst 0, 1) := by decide +kernel
theorem dX4_peopleUnder_63 : decode cX4_peopleUnder 63 = .ok (.istore 6, 2) := by decide +kernel
theorem dX4_peopleUnder_65 : decode cX4_peopleUnder 65 = .ok (.aload_n 0, 1) := by decide +kernel
theorem dX4_peopleUnder_66 : decode cX4_peopleUnder 66 = .ok (.getfield 45, 3) := by decide +kernel
theorem dX4_peopleUnder_69 : decode cX4_peopleUnder 69 = .ok (.iload 4, 2) := by decide +kernel
theorem dX4_peopleUnder_71 : decode cX4_peopleUnder 71 = .ok (.iconst 1, 1) := by decide +kernel
theorem dX4_peopleUnder_72 : decode cX4_peopleUnder 72 = .ok (.invokevirtual 83, 3) := by decide +kernel
theorem dX4_peopleUnder_75 : decode cX4_peopleUnder 75 = .ok (.iload 6, 2) := by decide +kernel
theorem dX4_peopleUnder_77 : decode cX4_peopleUnder 77 = .ok (.if_icmp .gt 16, 3) := by decide +kernel
theorem dX4_peopleUnder_80 : decode cX4_peopleUnder 80 = .ok (.iload_n 3, 1) := by decide +kernel
theorem dX4_peopleUnder_81 : decode cX4_peopleUnder 81 = .ok (.aload_n 0, 1) := by decide +kernel
theorem dX4_peopleUnder_82 : decode cX4_peopleUnder 82 = .ok (.getfield 45, 3) := by decide +kernel
theorem dX4_peopleUnder_85 : decode cX4_peopleUnder 85 = .ok (.iload 4, 2) := by decide +kernel
theorem dX4_peopleUnder_87 : decode cX4_peopleUnder 87 = .ok (.iconst 2, 1) := by decide +kernel
theorem dX4_peopleUnder_88 : decode cX4_peopleUnder 88 = .ok (.invokevirtual 83, 3) := by decide +kernel
theorem dX4_peopleUnder_91 : decode cX4_peopleUnder 91 = .ok (.iadd, 1) := by decide +kernel
theorem dX4_peopleUnder_92 : decode cX4_peopleUnder 92 = .ok (.istore_n 3, 1) := by decide +kernel
theorem dX4_peopleUnder_93 : decode cX4_peopleUnder 93 = .ok (.iinc 4 1, 3) := by decide +kernel
theorem dX4_peopleUnder_96 : decode cX4_peopleUnder 96 = .ok (.goto (-91), 3) := by decide +kernel
theorem dX4_peopleUnder_99 : decode cX4_peopleUnder 99 = .ok (.iload_n 3, 1) := by decide +kernel
theorem dX4_peopleUnder_100 : decode cX4_peopleUnder 100 = .ok (.ireturn, 1) := by decide +kernel
theorem dX4_costAt_0 : decode cX4_costAt 0 = .ok (.iconst 0, 1) := by decide +kernel
theorem dX4_costAt_1 : decode cX4_costAt 1 = .ok (.istore_n 2, 1) := by decide +kernel
theorem dX4_costAt_2 : decode cX4_costAt 2 = .ok (.iconst 0, 1) := by decide +kernel
theorem dX4_costAt_3 : decode cX4_costAt 3 = .ok (.istore_n 3, 1) := by decide +kernel
theorem dX4_costAt_4 : decode cX4_costAt 4 = .ok (.iload_n 3, 1) := by decide +kernel
theorem dX4_costAt_5 : decode cX4_costAt 5 = .ok (.aload_n 0, 1) := by decide +kernel
theorem dX4_costAt_6 : decode cX4_costAt 6 = .ok (.getfield 48, 3) := by decide +kernel
theorem dX4_costAt_9 : decode cX4_costAt 9 = .ok (.getfield 88, 3) := by decide +kernel
theorem dX4_costAt_12 : decode cX4_costAt 12 = .ok (.if_icmp .ge 67, 3) := by decide +kernel
theorem dX4_costAt_15 : decode cX4_costAt 15 = .ok (.aload_n 0, 1) := by decide +kernel
theorem dX4_costAt_16 : decode cX4_costAt 16 = .ok (.iload_n 3, 1) := by decide +kernel
theorem dX4_costAt_17 : decode cX4_costAt 17 = .ok (.iload_n 1, 1) := by decide +kernel
theorem dX4_costAt_18 : decode cX4_costAt 18 = .ok (.invokevirtual 96, 3) := by decide +kernel
theorem dX4_costAt_21 : decode cX4_costAt 21 = .ok (.istore 4, 2) := by decide +kernel
theorem dX4_costAt_23 : decode cX4_costAt 23 = .ok (.iload 4, 2) := by decide +kernel
theorem dX4_costAt_25 : decode cX4_costAt 25 = .ok (.ifCond .le 13, 3) := by decide +kernel
theorem dX4_costAt_28 : decode cX4_costAt 28 = .ok (.iload_n 2, 1) := by decide +kernel
theorem dX4_costAt_29 : decode cX4_costAt 29 = .ok (.aload_n 0, 1) := by decide +kernel
theorem dX4_costAt_30 : decode cX4_costAt 30 = .ok (.getfield 27, 3) := by decide +kernel
theorem dX4_costAt_33 : decode cX4_costAt 33 = .ok (.bipush 6, 2) := by decide +kernel
theorem dX4_costAt_35 : decode cX4_costAt 35 = .ok (.iaload, 1) := by decide +kernel
theorem dX4_costAt_36 : decode cX4_costAt 36 = .ok (.iadd, 1) := by decide +kernel
theorem dX4_costAt_37 : decode cX4_costAt 37 = .ok (.istore_n 2, 1) := by decide +kernel
theorem dX4_costAt_38 : decode cX4_costAt 38 = .ok (.aload_n 0, 1) := by decide +kernel
theorem dX4_costAt_39 : decode cX4_costAt 39 = .ok (.getfield 48, 3) := by decide +kernel
theorem dX4_costAt_42 : decode cX4_costAt 42 = .ok (.iload_n 3, 1) := by decide +kernel
theorem dX4_costAt_43 : decode cX4_costAt 43 = .ok (.iconst 0, 1) := by decide +kernel
theorem dX4_costAt_44 : decode cX4_costAt 44 = .ok (.invokevirtual 83, 3) := by decide +kernel
theorem dX4_costAt_47 : decode cX4_costAt 47 = .ok (.iconst 1, 1) := by decide +kernel
theorem dX4_costAt_48 : decode cX4_costAt 48 = .ok (.if_icmp .ne 25, 3) := by decide +kernel
theorem dX4_costAt_51 : decode cX4_costAt 51 = .ok (.iload 4, 2) := by decide +kernel
theorem dX4_costAt_53 : decode cX4_costAt 53 = .ok (.aload_n 0, 1) := by decide +kernel
theorem dX4_costAt_54 : decode cX4_costAt 54 = .ok (.getfield 27, 3) := by decide +kernel
theorem dX4_costAt_57 : decode cX4_costAt 57 = .ok (.bipush 8, 2) := by decide +kernel
theorem dX4_costAt_59 : decode cX4_costAt 59 = .ok (.iaload, 1) := by decide +kernel
theorem dX4_costAt_60 : decode cX4_costAt 60 = .ok (.if_icmp .ge 13, 3) := by decide +kernel
theorem dX4_costAt_63 : decode cX4_costAt 63 = .ok (.iload_n 2, 1) := by decide +kernel
theorem dX4_costAt_64 : decode cX4_costAt 64 = .ok (.aload_n 0, 1) := by decide +kernel
theorem dX4_costAt_65 : decode cX4_costAt 65 = .ok (.getfield 27, 3) := by decide +kernel
theorem dX4_costAt_68 : decode cX4_costAt 68 = .ok (.bipush 7, 2) := by decide +kernel
theorem dX4_costAt_70 : decode cX4_costAt 70 = .ok (.iaload, 1) := by decide +kernel
theorem dX4_costAt_71 : decode cX4_costAt 71 = .ok (.iadd, 1) := by decide +kernel
theorem dX4_costAt_72 : decode cX4_costAt 72 = .ok (.istore_n 2, 1) := by decide +kernel
theorem dX4_costAt_73 : decode cX4_costAt 73 = .ok (.iinc 3 1, 3) := by decide +kernel
theorem dX4_costAt_76 : decode cX4_costAt 76 = .ok (.goto (-72), 3) := by decide +kernel
theorem dX4_costAt_79 : decode cX4_costAt 79 = .ok (.iload_n 2, 1) := by decide +kernel
theorem dX4_costAt_80 : decode cX4_costAt 80 = .ok (.ireturn, 1) := by decide +kernel
theorem dX4_hoursLeft_0 : decode cX4_hoursLeft 0 = .ok (.aload_n 0, 1) := by decide +kernel
theorem dX4_hoursLeft_1 : decode cX4_hoursLeft 1 = .ok (.getfield 48, 3) := by decide +kernel
theorem dX4_hoursLeft_4 : decode cX4_hoursLeft 4 = .ok (.iload_n 1, 1) := by decide +kernel
theorem dX4_hoursLeft_5 : decode cX4_hoursLeft 5 = .ok (.iconst 1, 1) := by decide +kernel
theorem dX4_hoursLeft_6 : decode cX4_hoursLeft 6 = .ok (.invokevirtual 83, 3) := by decide +kernel
theorem dX4_hoursLeft_9 : decode cX4_hoursLeft 9 = .ok (.istore_n 3, 1) := by decide +kernel
theorem dX4_hoursLeft_10 : decode cX4_hoursLeft 10 = .ok (.iconst 0, 1) := by decide +kernel
theorem dX4_hoursLeft_11 : decode cX4_hoursLeft 11 = .ok (.istore 4, 2) := by decide +kernel
theorem dX4_hoursLeft_13 : decode cX4_hoursLeft 13 = .ok (.iload 4, 2) := by decide +kernel
theorem dX4_hoursLeft_15 : decode cX4_hoursLeft 15 = .ok (.iload_n 3, 1) := by decide +kernel
theorem dX4_hoursLeft_16 : decode cX4_hoursLeft 16 = .ok (.if_icmp .ge 30, 3) := by decide +kernel
theorem dX4_hoursLeft_19 : decode cX4_hoursLeft 19 = .ok (.aload_n 0, 1) := by decide +kernel
theorem dX4_hoursLeft_20 : decode cX4_hoursLeft 20 = .ok (.getfield 48, 3) := by decide +kernel
theorem dX4_hoursLeft_23 : decode cX4_hoursLeft 23 = .ok (.iload_n 1, 1) := by decide +kernel
theorem dX4_hoursLeft_24 : decode cX4_hoursLeft 24 = .ok (.iconst 2, 1) := by decide +kernel
theorem dX4_hoursLeft_25 : decode cX4_hoursLeft 25 = .ok (.iload 4, 2) := by decide +kernel
theorem dX4_hoursLeft_27 : decode cX4_hoursLeft 27 = .ok (.iadd, 1) := by decide +kernel
theorem dX4_hoursLeft_28 : decode cX4_hoursLeft 28 = .ok (.invokevirtual 83, 3) := by decide +kernel
theorem dX4_hoursLeft_31 : decode cX4_hoursLeft 31 = .ok (.iload_n 2, 1) := by decide +kernel
theorem dX4_hoursLeft_32 : decode cX4_hoursLeft 32 = .ok (.if_icmp .lt 8, 3) := by decide +kernel
theorem dX4_hoursLeft_35 : decode cX4_hoursLeft 35 = .ok (.iload_n 3, 1) := by decide +kernel
theorem dX4_hoursLeft_36 : decode cX4_hoursLeft 36 = .ok (.iload 4, 2) := by decide +kernel
theorem dX4_hoursLeft_38 : decode cX4_hoursLeft 38 = .ok (.isub, 1) := by decide +kernel
theorem dX4_hoursLeft_39 : decode cX4_hoursLeft 39 = .ok (.ireturn, 1) := by decide +kernel
theorem dX4_hoursLeft_40 : decode cX4_hoursLeft 40 = .ok (.iinc 4 1, 3) := by decide +kernel
theorem dX4_hoursLeft_43 : decode cX4_hoursLeft 43 = .ok (.goto (-30), 3) := by decide +kernel
theorem dX4_hoursLeft_46 : decode cX4_hoursLeft 46 = .ok (.iconst 0, 1) := by decide +kernel
theorem dX4_hoursLeft_47 : decode cX4_hoursLeft 47 = .ok (.ireturn, 1) := by decide +kernel
theorem dX5_init_0 : decode cX5_init 0 = .ok (.aload_n 0, 1) := by decide +kernel
theorem dX5_init_1 : decode cX5_init 1 = .ok (.invokespecial 1, 3) := by decide +kernel
theorem dX5_init_4 : decode cX5_init 4 = .ok (.aload_n 0, 1) := by decide +kernel
theorem dX5_init_5 : decode cX5_init 5 = .ok (.iconst 0, 1) := by decide +kernel
theorem dX5_init_6 : decode cX5_init 6 = .ok (.putfield 7, 3) := by decide +kernel
theorem dX5_init_9 : decode cX5_init 9 = .ok (.aload_n 0, 1) := by decide +kernel
theorem dX5_init_10 : decode cX5_init 10 = .ok (.iload_n 1, 1) := by decide +kernel
theorem dX5_init_11 : decode cX5_init 11 = .ok (.putfield 13, 3) := by decide +kernel
theorem dX5_init_14 : decode cX5_init 14 = .ok (.aload_n 0, 1) := by decide +kernel
theorem dX5_init_15 : decode cX5_init 15 = .ok (.iload_n 1, 1) := by decide +kernel
theorem dX5_init_16 : decode cX5_init 16 = .ok (.iload_n 2, 1) := by decide +kernel
theorem dX5_init_17 : decode cX5_init 17 = .ok (.imul, 1) := by decide +kernel
theorem dX5_init_18 : decode cX5_init 18 = .ok (.newarray .int, 2) := by decide +kernel
theorem dX5_init_20 : decode cX5_init 20 = .ok (.putfield 16, 3) := by decide +kernel
theorem dX5_init_23 : decode cX5_init 23 = .ok (.return_, 1) := by decide +kernel
theorem dX5_isFull_0 : decode cX5_isFull 0 = .ok (.aload_n 0, 1) := by decide +kernel
theorem dX5_isFull_1 : decode cX5_isFull 1 = .ok (.getfield 7, 3) := by decide +kernel
theorem dX5_isFull_4 : decode cX5_isFull 4 = .ok (.iconst 1, 1) := by decide +kernel
theorem dX5_isFull_5 : decode cX5_isFull 5 = .ok (.iadd, 1) := by decide +kernel
theorem dX5_isFull_6 : decode cX5_isFull 6 = .ok (.aload_n 0, 1) := by decide +kernel
theorem dX5_isFull_7 : decode cX5_isFull 7 = .ok (.getfield 13, 3) := by decide +kernel
theorem dX5_isFull_10 : decode cX5_isFull 10 = .ok (.imul, 1) := by decide +kernel
theorem dX5_isFull_11 : decode cX5_isFull 11 = .ok (.aload_n 0, 1) := by decide +kernel
theorem dX5_isFull_12 : decode cX5_isFull 12 = .ok (.getfield 16, 3) := by decide +kernel
theorem dX5_isFull_15 : decode cX5_isFull 15 = .ok (.arraylength, 1) := by decide +kernel
theorem dX5_isFull_16 : decode cX5_isFull 16 = .ok (.if_icmp .le 7, 3) := by decide +kernel
theorem dX5_isFull_19 : decode cX5_isFull 19 = .ok (.iconst 1, 1) := by decide +kernel
theorem dX5_isFull_20 : decode cX5_isFull 20 = .ok (.goto 4, 3) := by decide +kernel
theorem dX5_isFull_23 : decode cX5_isFull 23 = .ok (.iconst 0, 1) := by decide +kernel
theorem dX5_isFull_24 : decode cX5_isFull 24 = .ok (.ireturn, 1) := by decide +kernel
theorem dX5_open_0 : decode cX5_open 0 = .ok (.aload_n 0, 1) := by decide +kernel
theorem dX5_open_1 : decode cX5_open 1 = .ok (.invokevirtual 20, 3) := by decide +kernel
theorem dX5_open_4 : decode cX5_open 4 = .ok (.ifCond .ne 13, 3) := by decide +kernel
theorem dX5_open_7 : decode cX5_open 7 = .ok (.aload_n 0, 1) := by decide +kernel
theorem dX5_open_8 : decode cX5_open 8 = .ok (.dup, 1) := by decide +kernel
theorem dX5_open_9 : decode cX5_open 9 = .ok (.getfield 7, 3) := by decide +kernel
theorem dX5_open_12 : decode cX5_open 12 = .ok (.iconst 1, 1) := by decide +kernel
theorem dX5_open_13 : decode cX5_open 13 = .ok (.iadd, 1) := by decide +kernel
theorem dX5_open_14 : decode cX5_open 14 = .ok (.putfield 7, 3) := by decide +kernel
theorem dX5_open_17 : decode cX5_open 17 = .ok (.return_, 1) := by decide +kernel
theorem dX5_put_0 : decode cX5_put 0 = .ok (.aload_n 0, 1) := by decide +kernel
theorem dX5_put_1 : decode cX5_put 1 = .ok (.getfield 7, 3) := by decide +kernel
theorem dX5_put_4 : decode cX5_put 4 = .ok (.ifCond .le 34, 3) := by decide +kernel
theorem dX5_put_7 : decode cX5_put 7 = .ok (.iload_n 1, 1) := by decide +kernel
theorem dX5_put_8 : decode cX5_put 8 = .ok (.ifCond .lt 30, 3) := by decide +kernel
theorem dX5_put_11 : decode cX5_put 11 = .ok (.iload_n 1, 1) := by decide +kernel
theorem dX5_put_12 : decode cX5_put 12 = .ok (.aload_n 0, 1) := by decide +kernel
theorem dX5_put_13 : decode cX5_put 13 = .ok (.getfield 13, 3) := by decide +kernel
theorem dX5_put_16 : decode cX5_put 16 = .ok (.if_icmp .ge 22, 3) := by decide +kernel
theorem dX5_put_19 : decode cX5_put 19 = .ok (.aload_n 0, 1) := by decide +kernel
theorem dX5_put_20 : decode cX5_put 20 = .ok (.getfield 16, 3) := by decide +kernel
theorem dX5_put_23 : decode cX5_put 23 = .ok (.aload_n 0, 1) := by decide +kernel
theorem dX5_put_24 : decode cX5_put 24 = .ok (.getfield 7, 3) := by decide +kernel
theorem dX5_put_27 : decode cX5_put 27 = .ok (.iconst 1, 1) := by decide +kernel
theorem dX5_put_28 : decode cX5_put 28 = .ok (.isub, 1) := by decide +kernel
theorem dX5_put_29 : decode cX5_put 29 = .ok (.aload_n 0, 1) := by decide +kernel
theorem dX5_put_30 : decode cX5_put 30 = .ok (.getfield 13, 3) := by decide +kernel
theorem dX5_put_33 : decode cX5_put 33 = .ok (.imul, 1) := by decide +kernel
theorem dX5_put_34 : decode cX5_put 34 = .ok (.iload_n 1, 1) := by decide +kernel
theorem dX5_put_35 : decode cX5_put 35 = .ok (.iadd, 1) := by decide +kernel
theorem dX5_put_36 : decode cX5_put 36 = .ok (.iload_n 2, 1) := by decide +kernel
theorem dX5_put_37 : decode cX5_put 37 = .ok (.iastore, 1) := by decide +kernel
theorem dX5_put_38 : decode cX5_put 38 = .ok (.return_, 1) := by decide +kernel
theorem dX5_cell_0 : decode cX5_cell 0 = .ok (.iload_n 1, 1) := by decide +kernel
theorem dX5_cell_1 : decode cX5_cell 1 = .ok (.ifCond .lt 23, 3) := by decide +kernel
theorem dX5_cell_4 : decode cX5_cell 4 = .ok (.iload_n 1, 1) := by decide +kernel
theorem dX5_cell_5 : decode cX5_cell 5 = .ok (.aload_n 0, 1) := by decide +kernel
theorem dX5_cell_6 : decode cX5_cell 6 = .ok (.getfield 7, 3) := by decide +kernel
theorem dX5_cell_9 : decode cX5_cell 9 = .ok (.if_icmp .ge 15, 3) := by decide +kernel
theorem dX5_cell_12 : decode cX5_cell 12 = .ok (.iload_n 2, 1) := by decide +kernel
theorem dX5_cell_13 : decode cX5_cell 13 = .ok (.ifCond .lt 11, 3) := by decide +kernel
theorem dX5_cell_16 : decode cX5_cell 16 = .ok (.iload_n 2, 1) := by decide +kernel
theorem dX5_cell_17 : decode cX5_cell 17 = .ok (.aload_n 0, 1) := by decide +kernel
theorem dX5_cell_18 : decode cX5_cell 18 = .ok (.getfield 13, 3) := by decide +kernel
theorem dX5_cell_21 : decode cX5_cell 21 = .ok (.if_icmp .lt 5, 3) := by decide +kernel
theorem dX5_cell_24 : decode cX5_cell 24 = .ok (.iconst 0, 1) := by decide +kernel
theorem dX5_cell_25 : decode cX5_cell 25 = .ok (.ireturn, 1) := by decide +kernel
theorem dX5_cell_26 : decode cX5_cell 26 = .ok (.aload_n 0, 1) := by decide +kernel
theorem dX5_cell_27 : decode cX5_cell 27 = .ok (.getfield 16, 3) := by decide +kernel
theorem dX5_cell_30 : decode cX5_cell 30 = .ok (.iload_n 1, 1) := by decide +kernel
theorem dX5_cell_31 : decode cX5_cell 31 = .ok (.aload_n 0, 1) := by decide +kernel
theorem dX5_cell_32 : decode cX5_cell 32 = .ok (.getfield 13, 3) := by decide +kernel
theorem dX5_cell_35 : decode cX5_cell 35 = .ok (.imul, 1) := by decide +kernel
theorem dX5_cell_36 : decode cX5_cell 36 = .ok (.iload_n 2, 1) := by decide +kernel
theorem dX5_cell_37 : decode cX5_cell 37 = .ok (.iadd, 1) := by decide +kernel
theorem dX5_cell_38 : decode cX5_cell 38 = .ok (.iaload, 1) := by decide +kernel
theorem dX5_cell_39 : decode cX5_cell 39 = .ok (.ireturn, 1) := by decide +kernel
theorem dX5_become_0 : decode cX5_become 0 = .ok (.aload_n 0, 1) := by decide +kernel
theorem dX5_become_1 : decode cX5_become 1 = .ok (.getfield 16, 3) := by decide +kernel
theorem dX5_become_4 : decode cX5_become 4 = .ok (.arraylength, 1) := by decide +kernel
theorem dX5_become_5 : decode cX5_become 5 = .ok (.aload_n 1, 1) := by decide +kernel
theorem dX5_become_6 : decode cX5_become 6 = .ok (.getfield 7, 3) := by decide +kernel
theorem dX5_become_9 : decode cX5_become 9 = .ok (.aload_n 1, 1) := by decide +kernel
theorem dX5_become_10 : decode cX5_become 10 = .ok (.getfield 13, 3) := by decide +kernel
theorem dX5_become_13 : decode cX5_become 13 = .ok (.imul, 1) := by decide +kernel
theorem dX5_become_14 : decode cX5_become 14 = .ok (.invokestatic 24, 3) := by decide +kernel
theorem dX5_become_17 : decode cX5_become 17 = .ok (.istore_n 2, 1) := by decide +kernel
theorem dX5_become_18 : decode cX5_become 18 = .ok (.aload_n 1, 1) := by decide +kernel
theorem dX5_become_19 : decode cX5_become 19 = .ok (.getfield 16, 3) := by decide +kernel
theorem dX5_become_22 : decode cX5_become 22 = .ok (.iconst 0, 1) := by decide +kernel
theorem dX5_become_23 : decode cX5_become 23 = .ok (.aload_n 0, 1) := by decide +kernel
theorem dX5_become_24 : decode cX5_become 24 = .ok (.getfield 16, 3) := by decide +kernel
theorem dX5_become_27 : decode cX5_become 27 = .ok (.iconst 0, 1) := by decide +kernel
theorem dX5_become_28 : decode cX5_become 28 = .ok (.iload_n 2, 1) := by decide +kernel
theorem dX5_become_29 : decode cX5_become 29 = .ok (.invokestatic 30, 3) := by decide +kernel
theorem dX5_become_32 : decode cX5_become 32 = .ok (.aload_n 0, 1) := by decide +kernel
theorem dX5_become_33 : decode cX5_become 33 = .ok (.aload_n 1, 1) := by decide +kernel
theorem dX5_become_34 : decode cX5_become 34 = .ok (.getfield 7, 3) := by decide +kernel
theorem dX5_become_37 : decode cX5_become 37 = .ok (.putfield 7, 3) := by decide +kernel
theorem dX5_become_40 : decode cX5_become 40 = .ok (.return_, 1) := by decide +kernel
theorem dX6_init_0 : decode cX6_init 0 = .ok (.aload_n 0, 1) := by decide +kernel
theorem dX6_init_1 : decode cX6_init 1 = .ok (.invokespecial 1, 3) := by decide +kernel
theorem dX6_init_4 : decode cX6_init 4 = .ok (.aload_n 0, 1) := by decide +kernel
theorem dX6_init_5 : decode cX6_init 5 = .ok (.aload_n 1, 1) := by decide +kernel
theorem dX6_init_6 : decode cX6_init 6 = .ok (.putfield 7, 3) := by decide +kernel
theorem dX6_init_9 : decode cX6_init 9 = .ok (.aload_n 0, 1) := by decide +kernel
theorem dX6_init_10 : decode cX6_init 10 = .ok (.aload_n 2, 1) := by decide +kernel
theorem dX6_init_11 : decode cX6_init 11 = .ok (.putfield 13, 3) := by decide +kernel
theorem dX6_init_14 : decode cX6_init 14 = .ok (.return_, 1) := by decide +kernel
theorem dJ6_bitCount_0f7a4_0 : decode cJ6_bitCount_0f7a4 0 = .ok (.iload_n 0, 1) := by decide +kernel
theorem dJ6_bitCount_0f7a4_1 : decode cJ6_bitCount_0f7a4 1 = .ok (.iload_n 0, 1) := by decide +kernel
theorem dJ6_bitCount_0f7a4_2 : decode cJ6_bitCount_0f7a4 2 = .ok (.iconst 1, 1) := by decide +kernel
theorem dJ6_bitCount_0f7a4_3 : decode cJ6_bitCount_0f7a4 3 = .ok (.iushr, 1) := by decide +kernel
theorem dJ6_bitCount_0f7a4_4 : decode cJ6_bitCount_0f7a4 4 = .ok (.ldc_w 265, 3) := by decide +kernel
theorem dJ6_bitCount_0f7a4_7 : decode cJ6_bitCount_0f7a4 7 = .ok (.iand, 1) := by decide +kernel
theorem dJ6_bitCount_0f7a4_8 : decode cJ6_bitCount_0f7a4 8 = .ok (.isub, 1) := by decide +kernel
theorem dJ6_bitCount_0f7a4_9 : decode cJ6_bitCount_0f7a4 9 = .ok (.istore_n 0, 1) := by decide +kernel
theorem dJ6_bitCount_0f7a4_10 : decode cJ6_bitCount_0f7a4 10 = .ok (.iload_n 0, 1) := by decide +kernel
theorem dJ6_bitCount_0f7a4_11 : decode cJ6_bitCount_0f7a4 11 = .ok (.ldc_w 266, 3) := by decide +kernel
theorem dJ6_bitCount_0f7a4_14 : decode cJ6_bitCount_0f7a4 14 = .ok (.iand, 1) := by decide +kernel
theorem dJ6_bitCount_0f7a4_15 : decode cJ6_bitCount_0f7a4 15 = .ok (.iload_n 0, 1) := by decide +kernel
theorem dJ6_bitCount_0f7a4_16 : decode cJ6_bitCount_0f7a4 16 = .ok (.iconst 2, 1) := by decide +kernel
theorem dJ6_bitCount_0f7a4_17 : decode cJ6_bitCount_0f7a4 17 = .ok (.iushr, 1) := by decide +kernel
theorem dJ6_bitCount_0f7a4_18 : decode cJ6_bitCount_0f7a4 18 = .ok (.ldc_w 266, 3) := by decide +kernel
theorem dJ6_bitCount_0f7a4_21 : decode cJ6_bitCount_0f7a4 21 = .ok (.iand, 1) := by decide +kernel
theorem dJ6_bitCount_0f7a4_22 : decode cJ6_bitCount_0f7a4 22 = .ok (.iadd, 1) := by decide +kernel
theorem dJ6_bitCount_0f7a4_23 : decode cJ6_bitCount_0f7a4 23 = .ok (.istore_n 0, 1) := by decide +kernel
theorem dJ6_bitCount_0f7a4_24 : decode cJ6_bitCount_0f7a4 24 = .ok (.iload_n 0, 1) := by decide +kernel
theorem dJ6_bitCount_0f7a4_25 : decode cJ6_bitCount_0f7a4 25 = .ok (.iload_n 0, 1) := by decide +kernel
theorem dJ6_bitCount_0f7a4_26 : decode cJ6_bitCount_0f7a4 26 = .ok (.iconst 4, 1) := by decide +kernel
theorem dJ6_bitCount_0f7a4_27 : decode cJ6_bitCount_0f7a4 27 = .ok (.iushr, 1) := by decide +kernel
theorem dJ6_bitCount_0f7a4_28 : decode cJ6_bitCount_0f7a4 28 = .ok (.iadd, 1) := by decide +kernel
theorem dJ6_bitCount_0f7a4_29 : decode cJ6_bitCount_0f7a4 29 = .ok (.ldc_w 267, 3) := by decide +kernel
theorem dJ6_bitCount_0f7a4_32 : decode cJ6_bitCount_0f7a4 32 = .ok (.iand, 1) := by decide +kernel
theorem dJ6_bitCount_0f7a4_33 : decode cJ6_bitCount_0f7a4 33 = .ok (.istore_n 0, 1) := by decide +kernel
theorem dJ6_bitCount_0f7a4_34 : decode cJ6_bitCount_0f7a4 34 = .ok (.iload_n 0, 1) := by decide +kernel
theorem dJ6_bitCount_0f7a4_35 : decode cJ6_bitCount_0f7a4 35 = .ok (.iload_n 0, 1) := by decide +kernel
theorem dJ6_bitCount_0f7a4_36 : decode cJ6_bitCount_0f7a4 36 = .ok (.bipush 8, 2) := by decide +kernel
theorem dJ6_bitCount_0f7a4_38 : decode cJ6_bitCount_0f7a4 38 = .ok (.iushr, 1) := by decide +kernel
theorem dJ6_bitCount_0f7a4_39 : decode cJ6_bitCount_0f7a4 39 = .ok (.iadd, 1) := by decide +kernel
theorem dJ6_bitCount_0f7a4_40 : decode cJ6_bitCount_0f7a4 40 = .ok (.istore_n 0, 1) := by decide +kernel
theorem dJ6_bitCount_0f7a4_41 : decode cJ6_bitCount_0f7a4 41 = .ok (.iload_n 0, 1) := by decide +kernel
theorem dJ6_bitCount_0f7a4_42 : decode cJ6_bitCount_0f7a4 42 = .ok (.iload_n 0, 1) := by decide +kernel
theorem dJ6_bitCount_0f7a4_43 : decode cJ6_bitCount_0f7a4 43 = .ok (.bipush 16, 2) := by decide +kernel
theorem dJ6_bitCount_0f7a4_45 : decode cJ6_bitCount_0f7a4 45 = .ok (.iushr, 1) := by decide +kernel
theorem dJ6_bitCount_0f7a4_46 : decode cJ6_bitCount_0f7a4 46 = .ok (.iadd, 1) := by decide +kernel
theorem dJ6_bitCount_0f7a4_47 : decode cJ6_bitCount_0f7a4 47 = .ok (.istore_n 0, 1) := by decide +kernel
theorem dJ6_bitCount_0f7a4_48 : decode cJ6_bitCount_0f7a4 48 = .ok (.iload_n 0, 1) := by decide +kernel
theorem dJ6_bitCount_0f7a4_49 : decode cJ6_bitCount_0f7a4 49 = .ok (.bipush 63, 2) := by decide +kernel
theorem dJ6_bitCount_0f7a4_51 : decode cJ6_bitCount_0f7a4 51 = .ok (.iand, 1) := by decide +kernel
theorem dJ6_bitCount_0f7a4_52 : decode cJ6_bitCount_0f7a4 52 = .ok (.ireturn, 1) := by decide +kernel
theorem dJ9_max_7cf53_0 : decode cJ9_max_7cf53 0 = .ok (.iload_n 0, 1) := by decide +kernel
theorem dJ9_max_7cf53_1 : decode cJ9_max_7cf53 1 = .ok (.iload_n 1, 1) := by decide +kernel
theorem dJ9_max_7cf53_2 : decode cJ9_max_7cf53 2 = .ok (.if_icmp .lt 7, 3) := by decide +kernel
theorem dJ9_max_7cf53_5 : decode cJ9_max_7cf53 5 = .ok (.iload_n 0, 1) := by decide +kernel
theorem dJ9_max_7cf53_6 : decode cJ9_max_7cf53 6 = .ok (.goto 4, 3) := by decide +kernel
theorem dJ9_max_7cf53_9 : decode cJ9_max_7cf53 9 = .ok (.iload_n 1, 1) := by decide +kernel
theorem dJ9_max_7cf53_10 : decode cJ9_max_7cf53 10 = .ok (.ireturn, 1) := by decide +kernel
theorem dJ9_max_f86c9_0 : decode cJ9_max_f86c9 0 = .ok (.lload_n 0, 1) := by decide +kernel
theorem dJ9_max_f86c9_1 : decode cJ9_max_f86c9 1 = .ok (.lload_n 2, 1) := by decide +kernel
theorem dJ9_max_f86c9_2 : decode cJ9_max_f86c9 2 = .ok (.lcmp, 1) := by decide +kernel
theorem dJ9_max_f86c9_3 : decode cJ9_max_f86c9 3 = .ok (.ifCond .lt 7, 3) := by decide +kernel
theorem dJ9_max_f86c9_6 : decode cJ9_max_f86c9 6 = .ok (.lload_n 0, 1) := by decide +kernel
theorem dJ9_max_f86c9_7 : decode cJ9_max_f86c9 7 = .ok (.goto 4, 3) := by decide +kernel
theorem dJ9_max_f86c9_10 : decode cJ9_max_f86c9 10 = .ok (.lload_n 2, 1) := by decide +kernel
theorem dJ9_max_f86c9_11 : decode cJ9_max_f86c9 11 = .ok (.lreturn, 1) := by decide +kernel
theorem dJ9_min_7cf53_0 : decode cJ9_min_7cf53 0 = .ok (.iload_n 0, 1) := by decide +kernel
theorem dJ9_min_7cf53_1 : decode cJ9_min_7cf53 1 = .ok (.iload_n 1, 1) := by decide +kernel
theorem dJ9_min_7cf53_2 : decode cJ9_min_7cf53 2 = .ok (.if_icmp .gt 7, 3) := by decide +kernel
theorem dJ9_min_7cf53_5 : decode cJ9_min_7cf53 5 = .ok (.iload_n 0, 1) := by decide +kernel
theorem dJ9_min_7cf53_6 : decode cJ9_min_7cf53 6 = .ok (.goto 4, 3) := by decide +kernel
theorem dJ9_min_7cf53_9 : decode cJ9_min_7cf53 9 = .ok (.iload_n 1, 1) := by decide +kernel
theorem dJ9_min_7cf53_10 : decode cJ9_min_7cf53 10 = .ok (.ireturn, 1) := by decide +kernel
theorem dJ0_charAt_5068e_0 : decode cJ0_charAt_5068e 0 = .ok (.aload_n 0, 1) := by decide +kernel
theorem dJ0_charAt_5068e_1 : decode cJ0_charAt_5068e 1 = .ok (.invokevirtual 492, 3) := by decide +kernel
theorem dJ0_charAt_5068e_4 : decode cJ0_charAt_5068e 4 = .ok (.ifCond .eq 12, 3) := by decide +kernel
theorem dJ0_charAt_5068e_7 : decode cJ0_charAt_5068e 7 = .ok (.aload_n 0, 1) := by decide +kernel
theorem dJ0_charAt_5068e_8 : decode cJ0_charAt_5068e 8 = .ok (.getfield 9, 3) := by decide +kernel
theorem dJ0_charAt_5068e_11 : decode cJ0_charAt_5068e 11 = .ok (.iload_n 1, 1) := by decide +kernel
theorem dJ0_charAt_5068e_12 : decode cJ0_charAt_5068e 12 = .ok (.invokestatic 495, 3) := by decide +kernel
theorem dJ0_charAt_5068e_15 : decode cJ0_charAt_5068e 15 = .ok (.ireturn, 1) := by decide +kernel
theorem dJ0_charAt_5068e_16 : decode cJ0_charAt_5068e 16 = .ok (.aload_n 0, 1) := by decide +kernel
theorem dJ0_charAt_5068e_17 : decode cJ0_charAt_5068e 17 = .ok (.getfield 9, 3) := by decide +kernel
theorem dJ0_charAt_5068e_20 : decode cJ0_charAt_5068e 20 = .ok (.iload_n 1, 1) := by decide +kernel
theorem dJ0_charAt_5068e_21 : decode cJ0_charAt_5068e 21 = .ok (.invokestatic 498, 3) := by decide +kernel
theorem dJ0_charAt_5068e_24 : decode cJ0_charAt_5068e 24 = .ok (.ireturn, 1) := by decide +kernel
theorem dJ0_isLatin1_aae02_0 : decode cJ0_isLatin1_aae02 0 = .ok (.getstatic 38, 3) := by decide +kernel
theorem dJ0_isLatin1_aae02_3 : decode cJ0_isLatin1_aae02 3 = .ok (.ifCond .eq 14, 3) := by decide +kernel
theorem dJ0_isLatin1_aae02_6 : decode cJ0_isLatin1_aae02 6 = .ok (.aload_n 0, 1) := by decide +kernel
theorem dJ0_isLatin1_aae02_7 : decode cJ0_isLatin1_aae02 7 = .ok (.getfield 15, 3) := by decide +kernel
theorem dJ0_isLatin1_aae02_10 : decode cJ0_isLatin1_aae02 10 = .ok (.ifCond .ne 7, 3) := by decide +kernel
theorem dJ0_isLatin1_aae02_13 : decode cJ0_isLatin1_aae02 13 = .ok (.iconst 1, 1) := by decide +kernel
theorem dJ0_isLatin1_aae02_14 : decode cJ0_isLatin1_aae02 14 = .ok (.goto 4, 3) := by decide +kernel
theorem dJ0_isLatin1_aae02_17 : decode cJ0_isLatin1_aae02 17 = .ok (.iconst 0, 1) := by decide +kernel
theorem dJ0_isLatin1_aae02_18 : decode cJ0_isLatin1_aae02 18 = .ok (.ireturn, 1) := by decide +kernel
theorem dJ0_checkIndex_df160_0 : decode cJ0_checkIndex_df160 0 = .ok (.iload_n 0, 1) := by decide +kernel
theorem dJ0_checkIndex_df160_1 : decode cJ0_checkIndex_df160 1 = .ok (.iload_n 1, 1) := by decide +kernel
theorem dJ0_checkIndex_df160_2 : decode cJ0_checkIndex_df160 2 = .ok (.getstatic 1053, 3) := by decide +kernel
theorem dJ0_checkIndex_df160_5 : decode cJ0_checkIndex_df160 5 = .ok (.invokestatic 1059, 3) := by decide +kernel
theorem dJ0_checkIndex_df160_8 : decode cJ0_checkIndex_df160 8 = .ok (.pop, 1) := by decide +kernel
theorem dJ0_checkIndex_df160_9 : decode cJ0_checkIndex_df160 9 = .ok (.return_, 1) := by decide +kernel
theorem dJ1_charAt_3b067_0 : decode cJ1_charAt_3b067 0 = .ok (.iload_n 1, 1) := by decide +kernel
theorem dJ1_charAt_3b067_1 : decode cJ1_charAt_3b067 1 = .ok (.aload_n 0, 1) := by decide +kernel
theorem dJ1_charAt_3b067_2 : decode cJ1_charAt_3b067 2 = .ok (.arraylength, 1) := by decide +kernel
theorem dJ1_charAt_3b067_3 : decode cJ1_charAt_3b067 3 = .ok (.invokestatic 9, 3) := by decide +kernel
theorem dJ1_charAt_3b067_6 : decode cJ1_charAt_3b067 6 = .ok (.aload_n 0, 1) := by decide +kernel
theorem dJ1_charAt_3b067_7 : decode cJ1_charAt_3b067 7 = .ok (.iload_n 1, 1) := by decide +kernel
theorem dJ1_charAt_3b067_8 : decode cJ1_charAt_3b067 8 = .ok (.baload, 1) := by decide +kernel
theorem dJ1_charAt_3b067_9 : decode cJ1_charAt_3b067 9 = .ok (.sipush 255, 3) := by decide +kernel
theorem dJ1_charAt_3b067_12 : decode cJ1_charAt_3b067 12 = .ok (.iand, 1) := by decide +kernel
theorem dJ1_charAt_3b067_13 : decode cJ1_charAt_3b067 13 = .ok (.i2c, 1) := by decide +kernel
theorem dJ1_charAt_3b067_14 : decode cJ1_charAt_3b067 14 = .ok (.ireturn, 1) := by decide +kernel
theorem dJ2_getChar_3b067_0 : decode cJ2_getChar_3b067 0 = .ok (.getstatic 44, 3) := by decide +kernel
theorem dJ2_getChar_3b067_3 : decode cJ2_getChar_3b067 3 = .ok (.ifCond .ne 25, 3) := by decide +kernel
theorem dJ2_getChar_3b067_6 : decode cJ2_getChar_3b067 6 = .ok (.iload_n 1, 1) := by decide +kernel
theorem dJ2_getChar_3b067_7 : decode cJ2_getChar_3b067 7 = .ok (.ifCond .lt 11, 3) := by decide +kernel
theorem dJ2_getChar_3b067_10 : decode cJ2_getChar_3b067 10 = .ok (.iload_n 1, 1) := by decide +kernel
theorem dJ2_getChar_3b067_11 : decode cJ2_getChar_3b067 11 = .ok (.aload_n 0, 1) := by decide +kernel
theorem dJ2_getChar_3b067_12 : decode cJ2_getChar_3b067 12 = .ok (.invokestatic 48, 3) := by decide +kernel
theorem dJ2_getChar_3b067_15 : decode cJ2_getChar_3b067 15 = .ok (.if_icmp .lt 13, 3) := by decide +kernel
theorem dJ2_getChar_3b067_18 : decode cJ2_getChar_3b067 18 = .ok (.new 52, 3) := by decide +kernel
theorem dJ2_getChar_3b067_21 : decode cJ2_getChar_3b067 21 = .ok (.dup, 1) := by decide +kernel
theorem dJ2_getChar_3b067_22 : decode cJ2_getChar_3b067 22 = .ok (.ldc 54, 2) := by decide +kernel
theorem dJ2_getChar_3b067_24 : decode cJ2_getChar_3b067 24 = .ok (.invokespecial 56, 3) := by decide +kernel
theorem dJ2_getChar_3b067_27 : decode cJ2_getChar_3b067 27 = .ok (.athrow, 1) := by decide +kernel
theorem dJ2_getChar_3b067_28 : decode cJ2_getChar_3b067 28 = .ok (.iload_n 1, 1) := by decide +kernel
theorem dJ2_getChar_3b067_29 : decode cJ2_getChar_3b067 29 = .ok (.iconst 1, 1) := by decide +kernel
theorem dJ2_getChar_3b067_30 : decode cJ2_getChar_3b067 30 = .ok (.ishl, 1) := by decide +kernel
theorem dJ2_getChar_3b067_31 : decode cJ2_getChar_3b067 31 = .ok (.istore_n 1, 1) := by decide +kernel
theorem dJ2_getChar_3b067_32 : decode cJ2_getChar_3b067 32 = .ok (.aload_n 0, 1) := by decide +kernel
theorem dJ2_getChar_3b067_33 : decode cJ2_getChar_3b067 33 = .ok (.iload_n 1, 1) := by decide +kernel
theorem dJ2_getChar_3b067_34 : decode cJ2_getChar_3b067 34 = .ok (.iinc 1 1, 3) := by decide +kernel
theorem dJ2_getChar_3b067_37 : decode cJ2_getChar_3b067 37 = .ok (.baload, 1) := by decide +kernel
theorem dJ2_getChar_3b067_38 : decode cJ2_getChar_3b067 38 = .ok (.sipush 255, 3) := by decide +kernel
theorem dJ2_getChar_3b067_41 : decode cJ2_getChar_3b067 41 = .ok (.iand, 1) := by decide +kernel
theorem dJ2_getChar_3b067_42 : decode cJ2_getChar_3b067 42 = .ok (.getstatic 59, 3) := by decide +kernel
theorem dJ2_getChar_3b067_45 : decode cJ2_getChar_3b067 45 = .ok (.ishl, 1) := by decide +kernel
theorem dJ2_getChar_3b067_46 : decode cJ2_getChar_3b067 46 = .ok (.aload_n 0, 1) := by decide +kernel
theorem dJ2_getChar_3b067_47 : decode cJ2_getChar_3b067 47 = .ok (.iload_n 1, 1) := by decide +kernel
theorem dJ2_getChar_3b067_48 : decode cJ2_getChar_3b067 48 = .ok (.baload, 1) := by decide +kernel
theorem dJ2_getChar_3b067_49 : decode cJ2_getChar_3b067 49 = .ok (.sipush 255, 3) := by decide +kernel
theorem dJ2_getChar_3b067_52 : decode cJ2_getChar_3b067 52 = .ok (.iand, 1) := by decide +kernel
theorem dJ2_getChar_3b067_53 : decode cJ2_getChar_3b067 53 = .ok (.getstatic 63, 3) := by decide +kernel
theorem dJ2_getChar_3b067_56 : decode cJ2_getChar_3b067 56 = .ok (.ishl, 1) := by decide +kernel
theorem dJ2_getChar_3b067_57 : decode cJ2_getChar_3b067 57 = .ok (.ior, 1) := by decide +kernel
theorem dJ2_getChar_3b067_58 : decode cJ2_getChar_3b067 58 = .ok (.i2c, 1) := by decide +kernel
theorem dJ2_getChar_3b067_59 : decode cJ2_getChar_3b067 59 = .ok (.ireturn, 1) := by decide +kernel
theorem dJ2_length_9d52b_0 : decode cJ2_length_9d52b 0 = .ok (.aload_n 0, 1) := by decide +kernel
theorem dJ2_length_9d52b_1 : decode cJ2_length_9d52b 1 = .ok (.arraylength, 1) := by decide +kernel
theorem dJ2_length_9d52b_2 : decode cJ2_length_9d52b 2 = .ok (.iconst 1, 1) := by decide +kernel
theorem dJ2_length_9d52b_3 : decode cJ2_length_9d52b 3 = .ok (.ishr, 1) := by decide +kernel
theorem dJ2_length_9d52b_4 : decode cJ2_length_9d52b 4 = .ok (.ireturn, 1) := by decide +kernel
theorem dJ2_charAt_3b067_0 : decode cJ2_charAt_3b067 0 = .ok (.iload_n 1, 1) := by decide +kernel
theorem dJ2_charAt_3b067_1 : decode cJ2_charAt_3b067 1 = .ok (.aload_n 0, 1) := by decide +kernel
theorem dJ2_charAt_3b067_2 : decode cJ2_charAt_3b067 2 = .ok (.invokestatic 67, 3) := by decide +kernel
theorem dJ2_charAt_3b067_5 : decode cJ2_charAt_3b067 5 = .ok (.aload_n 0, 1) := by decide +kernel
theorem dJ2_charAt_3b067_6 : decode cJ2_charAt_3b067 6 = .ok (.iload_n 1, 1) := by decide +kernel
theorem dJ2_charAt_3b067_7 : decode cJ2_charAt_3b067 7 = .ok (.invokestatic 71, 3) := by decide +kernel
theorem dJ2_charAt_3b067_10 : decode cJ2_charAt_3b067 10 = .ok (.ireturn, 1) := by decide +kernel
theorem dJ2_checkIndex_2214a_0 : decode cJ2_checkIndex_2214a 0 = .ok (.iload_n 0, 1) := by decide +kernel
theorem dJ2_checkIndex_2214a_1 : decode cJ2_checkIndex_2214a 1 = .ok (.aload_n 1, 1) := by decide +kernel
theorem dJ2_checkIndex_2214a_2 : decode cJ2_checkIndex_2214a 2 = .ok (.invokestatic 48, 3) := by decide +kernel
theorem dJ2_checkIndex_2214a_5 : decode cJ2_checkIndex_2214a 5 = .ok (.invokestatic 414, 3) := by decide +kernel
theorem dJ2_checkIndex_2214a_8 : decode cJ2_checkIndex_2214a 8 = .ok (.return_, 1) := by decide +kernel
theorem dJ7_fill_53178_0 : decode cJ7_fill_53178 0 = .ok (.iconst 0, 1) := by decide +kernel
theorem dJ7_fill_53178_1 : decode cJ7_fill_53178 1 = .ok (.istore_n 2, 1) := by decide +kernel
theorem dJ7_fill_53178_2 : decode cJ7_fill_53178 2 = .ok (.aload_n 0, 1) := by decide +kernel
theorem dJ7_fill_53178_3 : decode cJ7_fill_53178 3 = .ok (.arraylength, 1) := by decide +kernel
theorem dJ7_fill_53178_4 : decode cJ7_fill_53178 4 = .ok (.istore_n 3, 1) := by decide +kernel
theorem dJ7_fill_53178_5 : decode cJ7_fill_53178 5 = .ok (.iload_n 2, 1) := by decide +kernel
theorem dJ7_fill_53178_6 : decode cJ7_fill_53178 6 = .ok (.iload_n 3, 1) := by decide +kernel
theorem dJ7_fill_53178_7 : decode cJ7_fill_53178 7 = .ok (.if_icmp .ge 13, 3) := by decide +kernel
theorem dJ7_fill_53178_10 : decode cJ7_fill_53178 10 = .ok (.aload_n 0, 1) := by decide +kernel
theorem dJ7_fill_53178_11 : decode cJ7_fill_53178 11 = .ok (.iload_n 2, 1) := by decide +kernel
theorem dJ7_fill_53178_12 : decode cJ7_fill_53178 12 = .ok (.iload_n 1, 1) := by decide +kernel
theorem dJ7_fill_53178_13 : decode cJ7_fill_53178 13 = .ok (.iastore, 1) := by decide +kernel
theorem dJ7_fill_53178_14 : decode cJ7_fill_53178 14 = .ok (.iinc 2 1, 3) := by decide +kernel
theorem dJ7_fill_53178_17 : decode cJ7_fill_53178 17 = .ok (.goto (-12), 3) := by decide +kernel
theorem dJ7_fill_53178_20 : decode cJ7_fill_53178 20 = .ok (.return_, 1) := by decide +kernel
theorem dJ7_copyOf_59c91_0 : decode cJ7_copyOf_59c91 0 = .ok (.iload_n 1, 1) := by decide +kernel
theorem dJ7_copyOf_59c91_1 : decode cJ7_copyOf_59c91 1 = .ok (.aload_n 0, 1) := by decide +kernel
theorem dJ7_copyOf_59c91_2 : decode cJ7_copyOf_59c91 2 = .ok (.arraylength, 1) := by decide +kernel
theorem dJ7_copyOf_59c91_3 : decode cJ7_copyOf_59c91 3 = .ok (.if_icmp .ne 11, 3) := by decide +kernel
theorem dJ7_copyOf_59c91_6 : decode cJ7_copyOf_59c91 6 = .ok (.aload_n 0, 1) := by decide +kernel
theorem dJ7_copyOf_59c91_7 : decode cJ7_copyOf_59c91 7 = .ok (.invokevirtual 316, 3) := by decide +kernel
theorem dJ7_copyOf_59c91_10 : decode cJ7_copyOf_59c91 10 = .ok (.checkcast 317, 3) := by decide +kernel
theorem dJ7_copyOf_59c91_13 : decode cJ7_copyOf_59c91 13 = .ok (.areturn, 1) := by decide +kernel
theorem dJ7_copyOf_59c91_14 : decode cJ7_copyOf_59c91 14 = .ok (.iload_n 1, 1) := by decide +kernel
theorem dJ7_copyOf_59c91_15 : decode cJ7_copyOf_59c91 15 = .ok (.newarray .int, 2) := by decide +kernel
theorem dJ7_copyOf_59c91_17 : decode cJ7_copyOf_59c91 17 = .ok (.astore_n 2, 1) := by decide +kernel
theorem dJ7_copyOf_59c91_18 : decode cJ7_copyOf_59c91 18 = .ok (.aload_n 0, 1) := by decide +kernel
theorem dJ7_copyOf_59c91_19 : decode cJ7_copyOf_59c91 19 = .ok (.iconst 0, 1) := by decide +kernel
theorem dJ7_copyOf_59c91_20 : decode cJ7_copyOf_59c91 20 = .ok (.aload_n 2, 1) := by decide +kernel
theorem dJ7_copyOf_59c91_21 : decode cJ7_copyOf_59c91 21 = .ok (.iconst 0, 1) := by decide +kernel
theorem dJ7_copyOf_59c91_22 : decode cJ7_copyOf_59c91 22 = .ok (.aload_n 0, 1) := by decide +kernel
theorem dJ7_copyOf_59c91_23 : decode cJ7_copyOf_59c91 23 = .ok (.arraylength, 1) := by decide +kernel
theorem dJ7_copyOf_59c91_24 : decode cJ7_copyOf_59c91 24 = .ok (.iload_n 1, 1) := by decide +kernel
theorem dJ7_copyOf_59c91_25 : decode cJ7_copyOf_59c91 25 = .ok (.invokestatic 304, 3) := by decide +kernel
theorem dJ7_copyOf_59c91_28 : decode cJ7_copyOf_59c91 28 = .ok (.invokestatic 150, 3) := by decide +kernel
theorem dJ7_copyOf_59c91_31 : decode cJ7_copyOf_59c91 31 = .ok (.aload_n 2, 1) := by decide +kernel
theorem dJ7_copyOf_59c91_32 : decode cJ7_copyOf_59c91 32 = .ok (.areturn, 1) := by decide +kernel
theorem dJ3_checkIndex_8e157_0 : decode cJ3_checkIndex_8e157 0 = .ok (.iload_n 0, 1) := by decide +kernel
theorem dJ3_checkIndex_8e157_1 : decode cJ3_checkIndex_8e157 1 = .ok (.ifCond .lt 8, 3) := by decide +kernel
theorem dJ3_checkIndex_8e157_4 : decode cJ3_checkIndex_8e157 4 = .ok (.iload_n 0, 1) := by decide +kernel
theorem dJ3_checkIndex_8e157_5 : decode cJ3_checkIndex_8e157 5 = .ok (.iload_n 1, 1) := by decide +kernel
theorem dJ3_checkIndex_8e157_6 : decode cJ3_checkIndex_8e157 6 = .ok (.if_icmp .lt 10, 3) := by decide +kernel
theorem dJ3_checkIndex_8e157_9 : decode cJ3_checkIndex_8e157 9 = .ok (.aload_n 2, 1) := by decide +kernel
theorem dJ3_checkIndex_8e157_10 : decode cJ3_checkIndex_8e157 10 = .ok (.iload_n 0, 1) := by decide +kernel
theorem dJ3_checkIndex_8e157_11 : decode cJ3_checkIndex_8e157 11 = .ok (.iload_n 1, 1) := by decide +kernel
theorem dJ3_checkIndex_8e157_12 : decode cJ3_checkIndex_8e157 12 = .ok (.invokestatic 95, 3) := by decide +kernel
theorem dJ3_checkIndex_8e157_15 : decode cJ3_checkIndex_8e157 15 = .ok (.athrow, 1) := by decide +kernel
theorem dJ3_checkIndex_8e157_16 : decode cJ3_checkIndex_8e157 16 = .ok (.iload_n 0, 1) := by decide +kernel
theorem dJ3_checkIndex_8e157_17 : decode cJ3_checkIndex_8e157 17 = .ok (.ireturn, 1) := by decide +kernel
