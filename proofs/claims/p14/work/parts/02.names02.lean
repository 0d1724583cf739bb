theorem dX0_init_0 : decode cX0_init 0 = .ok (.aload_n 0, 1) := by decide +kernel
theorem dX0_init_1 : decode cX0_init 1 = .ok (.invokespecial 3, 3) := by decide +kernel
theorem dX0_init_4 : decode cX0_init 4 = .ok (.aload_n 0, 1) := by decide +kernel
theorem dX0_init_5 : decode cX0_init 5 = .ok (.iconst 5, 1) := by decide +kernel
theorem dX0_init_6 : decode cX0_init 6 = .ok (.newarray .int, 2) := by decide +kernel
theorem dX0_init_8 : decode cX0_init 8 = .ok (.putfield 9, 3) := by decide +kernel
theorem dX0_init_11 : decode cX0_init 11 = .ok (.aload_n 0, 1) := by decide +kernel
theorem dX0_init_12 : decode cX0_init 12 = .ok (.bipush 14, 2) := by decide +kernel
theorem dX0_init_14 : decode cX0_init 14 = .ok (.newarray .int, 2) := by decide +kernel
theorem dX0_init_16 : decode cX0_init 16 = .ok (.putfield 15, 3) := by decide +kernel
theorem dX0_init_19 : decode cX0_init 19 = .ok (.aload_n 0, 1) := by decide +kernel
theorem dX0_init_20 : decode cX0_init 20 = .ok (.bipush 14, 2) := by decide +kernel
theorem dX0_init_22 : decode cX0_init 22 = .ok (.newarray .boolean, 2) := by decide +kernel
theorem dX0_init_24 : decode cX0_init 24 = .ok (.putfield 18, 3) := by decide +kernel
theorem dX0_init_27 : decode cX0_init 27 = .ok (.aload_n 0, 1) := by decide +kernel
theorem dX0_init_28 : decode cX0_init 28 = .ok (.bipush (-6), 2) := by decide +kernel
theorem dX0_init_30 : decode cX0_init 30 = .ok (.putfield 22, 3) := by decide +kernel
theorem dX0_init_33 : decode cX0_init 33 = .ok (.aload_n 0, 1) := by decide +kernel
theorem dX0_init_34 : decode cX0_init 34 = .ok (.bipush 6, 2) := by decide +kernel
theorem dX0_init_36 : decode cX0_init 36 = .ok (.newarray .int, 2) := by decide +kernel
theorem dX0_init_38 : decode cX0_init 38 = .ok (.putfield 26, 3) := by decide +kernel
theorem dX0_init_41 : decode cX0_init 41 = .ok (.aload_n 0, 1) := by decide +kernel
theorem dX0_init_42 : decode cX0_init 42 = .ok (.bipush 6, 2) := by decide +kernel
theorem dX0_init_44 : decode cX0_init 44 = .ok (.newarray .int, 2) := by decide +kernel
theorem dX0_init_46 : decode cX0_init 46 = .ok (.putfield 29, 3) := by decide +kernel
theorem dX0_init_49 : decode cX0_init 49 = .ok (.aload_n 0, 1) := by decide +kernel
theorem dX0_init_50 : decode cX0_init 50 = .ok (.bipush 6, 2) := by decide +kernel
theorem dX0_init_52 : decode cX0_init 52 = .ok (.newarray .int, 2) := by decide +kernel
theorem dX0_init_54 : decode cX0_init 54 = .ok (.putfield 32, 3) := by decide +kernel
theorem dX0_init_57 : decode cX0_init 57 = .ok (.aload_n 0, 1) := by decide +kernel
theorem dX0_init_58 : decode cX0_init 58 = .ok (.bipush 8, 2) := by decide +kernel
theorem dX0_init_60 : decode cX0_init 60 = .ok (.newarray .int, 2) := by decide +kernel
theorem dX0_init_62 : decode cX0_init 62 = .ok (.putfield 35, 3) := by decide +kernel
theorem dX0_init_65 : decode cX0_init 65 = .ok (.aload_n 0, 1) := by decide +kernel
theorem dX0_init_66 : decode cX0_init 66 = .ok (.bipush 8, 2) := by decide +kernel
theorem dX0_init_68 : decode cX0_init 68 = .ok (.newarray .int, 2) := by decide +kernel
theorem dX0_init_70 : decode cX0_init 70 = .ok (.putfield 38, 3) := by decide +kernel
theorem dX0_init_73 : decode cX0_init 73 = .ok (.aload_n 0, 1) := by decide +kernel
theorem dX0_init_74 : decode cX0_init 74 = .ok (.getfield 9, 3) := by decide +kernel
theorem dX0_init_77 : decode cX0_init 77 = .ok (.iconst 0, 1) := by decide +kernel
theorem dX0_init_78 : decode cX0_init 78 = .ok (.sipush 800, 3) := by decide +kernel
theorem dX0_init_81 : decode cX0_init 81 = .ok (.iastore, 1) := by decide +kernel
theorem dX0_init_82 : decode cX0_init 82 = .ok (.return_, 1) := by decide +kernel
theorem dX0_copyFrom_0 : decode cX0_copyFrom 0 = .ok (.aload_n 1, 1) := by decide +kernel
theorem dX0_copyFrom_1 : decode cX0_copyFrom 1 = .ok (.getfield 9, 3) := by decide +kernel
theorem dX0_copyFrom_4 : decode cX0_copyFrom 4 = .ok (.iconst 0, 1) := by decide +kernel
theorem dX0_copyFrom_5 : decode cX0_copyFrom 5 = .ok (.aload_n 0, 1) := by decide +kernel
theorem dX0_copyFrom_6 : decode cX0_copyFrom 6 = .ok (.getfield 9, 3) := by decide +kernel
theorem dX0_copyFrom_9 : decode cX0_copyFrom 9 = .ok (.iconst 0, 1) := by decide +kernel
theorem dX0_copyFrom_10 : decode cX0_copyFrom 10 = .ok (.iconst 5, 1) := by decide +kernel
theorem dX0_copyFrom_11 : decode cX0_copyFrom 11 = .ok (.invokestatic 41, 3) := by decide +kernel
theorem dX0_copyFrom_14 : decode cX0_copyFrom 14 = .ok (.aload_n 1, 1) := by decide +kernel
theorem dX0_copyFrom_15 : decode cX0_copyFrom 15 = .ok (.getfield 15, 3) := by decide +kernel
theorem dX0_copyFrom_18 : decode cX0_copyFrom 18 = .ok (.iconst 0, 1) := by decide +kernel
theorem dX0_copyFrom_19 : decode cX0_copyFrom 19 = .ok (.aload_n 0, 1) := by decide +kernel
theorem dX0_copyFrom_20 : decode cX0_copyFrom 20 = .ok (.getfield 15, 3) := by decide +kernel
theorem dX0_copyFrom_23 : decode cX0_copyFrom 23 = .ok (.iconst 0, 1) := by decide +kernel
theorem dX0_copyFrom_24 : decode cX0_copyFrom 24 = .ok (.bipush 14, 2) := by decide +kernel
theorem dX0_copyFrom_26 : decode cX0_copyFrom 26 = .ok (.invokestatic 41, 3) := by decide +kernel
theorem dX0_copyFrom_29 : decode cX0_copyFrom 29 = .ok (.iconst 0, 1) := by decide +kernel
theorem dX0_copyFrom_30 : decode cX0_copyFrom 30 = .ok (.istore_n 2, 1) := by decide +kernel
theorem dX0_copyFrom_31 : decode cX0_copyFrom 31 = .ok (.iload_n 2, 1) := by decide +kernel
theorem dX0_copyFrom_32 : decode cX0_copyFrom 32 = .ok (.bipush 14, 2) := by decide +kernel
theorem dX0_copyFrom_34 : decode cX0_copyFrom 34 = .ok (.if_icmp .ge 21, 3) := by decide +kernel
theorem dX0_copyFrom_37 : decode cX0_copyFrom 37 = .ok (.aload_n 0, 1) := by decide +kernel
theorem dX0_copyFrom_38 : decode cX0_copyFrom 38 = .ok (.getfield 18, 3) := by decide +kernel
theorem dX0_copyFrom_41 : decode cX0_copyFrom 41 = .ok (.iload_n 2, 1) := by decide +kernel
theorem dX0_copyFrom_42 : decode cX0_copyFrom 42 = .ok (.aload_n 1, 1) := by decide +kernel
theorem dX0_copyFrom_43 : decode cX0_copyFrom 43 = .ok (.getfield 18, 3) := by decide +kernel
theorem dX0_copyFrom_46 : decode cX0_copyFrom 46 = .ok (.iload_n 2, 1) := by decide +kernel
theorem dX0_copyFrom_47 : decode cX0_copyFrom 47 = .ok (.baload, 1) := by decide +kernel
theorem dX0_copyFrom_48 : decode cX0_copyFrom 48 = .ok (.bastore, 1) := by decide +kernel
theorem dX0_copyFrom_49 : decode cX0_copyFrom 49 = .ok (.iinc 2 1, 3) := by decide +kernel
theorem dX0_copyFrom_52 : decode cX0_copyFrom 52 = .ok (.goto (-21), 3) := by decide +kernel
theorem dX0_copyFrom_55 : decode cX0_copyFrom 55 = .ok (.aload_n 0, 1) := by decide +kernel
theorem dX0_copyFrom_56 : decode cX0_copyFrom 56 = .ok (.aload_n 1, 1) := by decide +kernel
theorem dX0_copyFrom_57 : decode cX0_copyFrom 57 = .ok (.getfield 22, 3) := by decide +kernel
theorem dX0_copyFrom_60 : decode cX0_copyFrom 60 = .ok (.putfield 22, 3) := by decide +kernel
theorem dX0_copyFrom_63 : decode cX0_copyFrom 63 = .ok (.aload_n 0, 1) := by decide +kernel
theorem dX0_copyFrom_64 : decode cX0_copyFrom 64 = .ok (.aload_n 1, 1) := by decide +kernel
theorem dX0_copyFrom_65 : decode cX0_copyFrom 65 = .ok (.getfield 47, 3) := by decide +kernel
theorem dX0_copyFrom_68 : decode cX0_copyFrom 68 = .ok (.putfield 47, 3) := by decide +kernel
theorem dX0_copyFrom_71 : decode cX0_copyFrom 71 = .ok (.aload_n 0, 1) := by decide +kernel
theorem dX0_copyFrom_72 : decode cX0_copyFrom 72 = .ok (.aload_n 1, 1) := by decide +kernel
theorem dX0_copyFrom_73 : decode cX0_copyFrom 73 = .ok (.getfield 50, 3) := by decide +kernel
theorem dX0_copyFrom_76 : decode cX0_copyFrom 76 = .ok (.putfield 50, 3) := by decide +kernel
theorem dX0_copyFrom_79 : decode cX0_copyFrom 79 = .ok (.aload_n 1, 1) := by decide +kernel
theorem dX0_copyFrom_80 : decode cX0_copyFrom 80 = .ok (.getfield 26, 3) := by decide +kernel
theorem dX0_copyFrom_83 : decode cX0_copyFrom 83 = .ok (.iconst 0, 1) := by decide +kernel
theorem dX0_copyFrom_84 : decode cX0_copyFrom 84 = .ok (.aload_n 0, 1) := by decide +kernel
theorem dX0_copyFrom_85 : decode cX0_copyFrom 85 = .ok (.getfield 26, 3) := by decide +kernel
theorem dX0_copyFrom_88 : decode cX0_copyFrom 88 = .ok (.iconst 0, 1) := by decide +kernel
theorem dX0_copyFrom_89 : decode cX0_copyFrom 89 = .ok (.bipush 6, 2) := by decide +kernel
theorem dX0_copyFrom_91 : decode cX0_copyFrom 91 = .ok (.invokestatic 41, 3) := by decide +kernel
theorem dX0_copyFrom_94 : decode cX0_copyFrom 94 = .ok (.aload_n 1, 1) := by decide +kernel
theorem dX0_copyFrom_95 : decode cX0_copyFrom 95 = .ok (.getfield 29, 3) := by decide +kernel
theorem dX0_copyFrom_98 : decode cX0_copyFrom 98 = .ok (.iconst 0, 1) := by decide +kernel
theorem dX0_copyFrom_99 : decode cX0_copyFrom 99 = .ok (.aload_n 0, 1) := by decide +kernel
theorem dX0_copyFrom_100 : decode cX0_copyFrom 100 = .ok (.getfield 29, 3) := by decide +kernel
theorem dX0_copyFrom_103 : decode cX0_copyFrom 103 = .ok (.iconst 0, 1) := by decide +kernel
theorem dX0_copyFrom_104 : decode cX0_copyFrom 104 = .ok (.bipush 6, 2) := by decide +kernel
theorem dX0_copyFrom_106 : decode cX0_copyFrom 106 = .ok (.invokestatic 41, 3) := by decide +kernel
theorem dX0_copyFrom_109 : decode cX0_copyFrom 109 = .ok (.aload_n 1, 1) := by decide +kernel
theorem dX0_copyFrom_110 : decode cX0_copyFrom 110 = .ok (.getfield 32, 3) := by decide +kernel
theorem dX0_copyFrom_113 : decode cX0_copyFrom 113 = .ok (.iconst 0, 1) := by decide +kernel
theorem dX0_copyFrom_114 : decode cX0_copyFrom 114 = .ok (.aload_n 0, 1) := by decide +kernel
theorem dX0_copyFrom_115 : decode cX0_copyFrom 115 = .ok (.getfield 32, 3) := by decide +kernel
theorem dX0_copyFrom_118 : decode cX0_copyFrom 118 = .ok (.iconst 0, 1) := by decide +kernel
theorem dX0_copyFrom_119 : decode cX0_copyFrom 119 = .ok (.bipush 6, 2) := by decide +kernel
theorem dX0_copyFrom_121 : decode cX0_copyFrom 121 = .ok (.invokestatic 41, 3) := by decide +kernel
theorem dX0_copyFrom_124 : decode cX0_copyFrom 124 = .ok (.aload_n 0, 1) := by decide +kernel
theorem dX0_copyFrom_125 : decode cX0_copyFrom 125 = .ok (.aload_n 1, 1) := by decide +kernel
theorem dX0_copyFrom_126 : decode cX0_copyFrom 126 = .ok (.getfield 53, 3) := by decide +kernel
theorem dX0_copyFrom_129 : decode cX0_copyFrom 129 = .ok (.putfield 53, 3) := by decide +kernel
theorem dX0_copyFrom_132 : decode cX0_copyFrom 132 = .ok (.aload_n 1, 1) := by decide +kernel
theorem dX0_copyFrom_133 : decode cX0_copyFrom 133 = .ok (.getfield 35, 3) := by decide +kernel
theorem dX0_copyFrom_136 : decode cX0_copyFrom 136 = .ok (.iconst 0, 1) := by decide +kernel
theorem dX0_copyFrom_137 : decode cX0_copyFrom 137 = .ok (.aload_n 0, 1) := by decide +kernel
theorem dX0_copyFrom_138 : decode cX0_copyFrom 138 = .ok (.getfield 35, 3) := by decide +kernel
theorem dX0_copyFrom_141 : decode cX0_copyFrom 141 = .ok (.iconst 0, 1) := by decide +kernel
theorem dX0_copyFrom_142 : decode cX0_copyFrom 142 = .ok (.bipush 8, 2) := by decide +kernel
theorem dX0_copyFrom_144 : decode cX0_copyFrom 144 = .ok (.invokestatic 41, 3) := by decide +kernel
theorem dX0_copyFrom_147 : decode cX0_copyFrom 147 = .ok (.aload_n 1, 1) := by decide +kernel
theorem dX0_copyFrom_148 : decode cX0_copyFrom 148 = .ok (.getfield 38, 3) := by decide +kernel
theorem dX0_copyFrom_151 : decode cX0_copyFrom 151 = .ok (.iconst 0, 1) := by decide +kernel
theorem dX0_copyFrom_152 : decode cX0_copyFrom 152 = .ok (.aload_n 0, 1) := by decide +kernel
theorem dX0_copyFrom_153 : decode cX0_copyFrom 153 = .ok (.getfield 38, 3) := by decide +kernel
theorem dX0_copyFrom_156 : decode cX0_copyFrom 156 = .ok (.iconst 0, 1) := by decide +kernel
theorem dX0_copyFrom_157 : decode cX0_copyFrom 157 = .ok (.bipush 8, 2) := by decide +kernel
theorem dX0_copyFrom_159 : decode cX0_copyFrom 159 = .ok (.invokestatic 41, 3) := by decide +kernel
theorem dX0_copyFrom_162 : decode cX0_copyFrom 162 = .ok (.return_, 1) := by decide +kernel
theorem dX0_has_0 : decode cX0_has 0 = .ok (.iload_n 1, 1) := by decide +kernel
theorem dX0_has_1 : decode cX0_has 1 = .ok (.iconst 0, 1) := by decide +kernel
theorem dX0_has_2 : decode cX0_has 2 = .ok (.iconst 5, 1) := by decide +kernel
theorem dX0_has_3 : decode cX0_has 3 = .ok (.invokestatic 56, 3) := by decide +kernel
theorem dX0_has_6 : decode cX0_has 6 = .ok (.ifCond .eq 19, 3) := by decide +kernel
theorem dX0_has_9 : decode cX0_has 9 = .ok (.aload_n 0, 1) := by decide +kernel
theorem dX0_has_10 : decode cX0_has 10 = .ok (.getfield 50, 3) := by decide +kernel
theorem dX0_has_13 : decode cX0_has 13 = .ok (.iload_n 1, 1) := by decide +kernel
theorem dX0_has_14 : decode cX0_has 14 = .ok (.ishr, 1) := by decide +kernel
theorem dX0_has_15 : decode cX0_has 15 = .ok (.iconst 1, 1) := by decide +kernel
theorem dX0_has_16 : decode cX0_has 16 = .ok (.iand, 1) := by decide +kernel
theorem dX0_has_17 : decode cX0_has 17 = .ok (.iconst 1, 1) := by decide +kernel
theorem dX0_has_18 : decode cX0_has 18 = .ok (.if_icmp .ne 7, 3) := by decide +kernel
theorem dX0_has_21 : decode cX0_has 21 = .ok (.iconst 1, 1) := by decide +kernel
theorem dX0_has_22 : decode cX0_has 22 = .ok (.goto 4, 3) := by decide +kernel
theorem dX0_has_25 : decode cX0_has 25 = .ok (.iconst 0, 1) := by decide +kernel
theorem dX0_has_26 : decode cX0_has 26 = .ok (.ireturn, 1) := by decide +kernel
theorem dX0_boilsAt_0 : decode cX0_boilsAt 0 = .ok (.bipush 100, 2) := by decide +kernel
theorem dX0_boilsAt_2 : decode cX0_boilsAt 2 = .ok (.aload_n 0, 1) := by decide +kernel
theorem dX0_boilsAt_3 : decode cX0_boilsAt 3 = .ok (.getfield 9, 3) := by decide +kernel
theorem dX0_boilsAt_6 : decode cX0_boilsAt 6 = .ok (.iconst 1, 1) := by decide +kernel
theorem dX0_boilsAt_7 : decode cX0_boilsAt 7 = .ok (.iaload, 1) := by decide +kernel
theorem dX0_boilsAt_8 : decode cX0_boilsAt 8 = .ok (.iconst 3, 1) := by decide +kernel
theorem dX0_boilsAt_9 : decode cX0_boilsAt 9 = .ok (.idiv, 1) := by decide +kernel
theorem dX0_boilsAt_10 : decode cX0_boilsAt 10 = .ok (.isub, 1) := by decide +kernel
theorem dX0_boilsAt_11 : decode cX0_boilsAt 11 = .ok (.ireturn, 1) := by decide +kernel
theorem dX0_isHot_0 : decode cX0_isHot 0 = .ok (.aload_n 0, 1) := by decide +kernel
theorem dX0_isHot_1 : decode cX0_isHot 1 = .ok (.getfield 32, 3) := by decide +kernel
theorem dX0_isHot_4 : decode cX0_isHot 4 = .ok (.iload_n 1, 1) := by decide +kernel
theorem dX0_isHot_5 : decode cX0_isHot 5 = .ok (.iaload, 1) := by decide +kernel
theorem dX0_isHot_6 : decode cX0_isHot 6 = .ok (.aload_n 0, 1) := by decide +kernel
theorem dX0_isHot_7 : decode cX0_isHot 7 = .ok (.invokevirtual 60, 3) := by decide +kernel
theorem dX0_isHot_10 : decode cX0_isHot 10 = .ok (.if_icmp .gt 7, 3) := by decide +kernel
theorem dX0_isHot_13 : decode cX0_isHot 13 = .ok (.iconst 1, 1) := by decide +kernel
theorem dX0_isHot_14 : decode cX0_isHot 14 = .ok (.goto 4, 3) := by decide +kernel
theorem dX0_isHot_17 : decode cX0_isHot 17 = .ok (.iconst 0, 1) := by decide +kernel
theorem dX0_isHot_18 : decode cX0_isHot 18 = .ok (.ireturn, 1) := by decide +kernel
theorem dX0_isShopShut_0 : decode cX0_isShopShut 0 = .ok (.iload_n 1, 1) := by decide +kernel
theorem dX0_isShopShut_1 : decode cX0_isShopShut 1 = .ok (.bipush 7, 2) := by decide +kernel
theorem dX0_isShopShut_3 : decode cX0_isShopShut 3 = .ok (.irem, 1) := by decide +kernel
theorem dX0_isShopShut_4 : decode cX0_isShopShut 4 = .ok (.aload_n 0, 1) := by decide +kernel
theorem dX0_isShopShut_5 : decode cX0_isShopShut 5 = .ok (.getfield 9, 3) := by decide +kernel
theorem dX0_isShopShut_8 : decode cX0_isShopShut 8 = .ok (.iconst 2, 1) := by decide +kernel
theorem dX0_isShopShut_9 : decode cX0_isShopShut 9 = .ok (.iaload, 1) := by decide +kernel
theorem dX0_isShopShut_10 : decode cX0_isShopShut 10 = .ok (.if_icmp .ne 7, 3) := by decide +kernel
theorem dX0_isShopShut_13 : decode cX0_isShopShut 13 = .ok (.iconst 1, 1) := by decide +kernel
theorem dX0_isShopShut_14 : decode cX0_isShopShut 14 = .ok (.goto 4, 3) := by decide +kernel
theorem dX0_isShopShut_17 : decode cX0_isShopShut 17 = .ok (.iconst 0, 1) := by decide +kernel
theorem dX0_isShopShut_18 : decode cX0_isShopShut 18 = .ok (.ireturn, 1) := by decide +kernel
theorem dX0_windOn_0 : decode cX0_windOn 0 = .ok (.aload_n 0, 1) := by decide +kernel
theorem dX0_windOn_1 : decode cX0_windOn 1 = .ok (.getfield 15, 3) := by decide +kernel
theorem dX0_windOn_4 : decode cX0_windOn 4 = .ok (.iload_n 1, 1) := by decide +kernel
theorem dX0_windOn_5 : decode cX0_windOn 5 = .ok (.iaload, 1) := by decide +kernel
theorem dX0_windOn_6 : decode cX0_windOn 6 = .ok (.iload_n 2, 1) := by decide +kernel
theorem dX0_windOn_7 : decode cX0_windOn 7 = .ok (.iadd, 1) := by decide +kernel
theorem dX0_windOn_8 : decode cX0_windOn 8 = .ok (.iconst 4, 1) := by decide +kernel
theorem dX0_windOn_9 : decode cX0_windOn 9 = .ok (.invokestatic 64, 3) := by decide +kernel
theorem dX0_windOn_12 : decode cX0_windOn 12 = .ok (.istore_n 3, 1) := by decide +kernel
theorem dX0_windOn_13 : decode cX0_windOn 13 = .ok (.aload_n 0, 1) := by decide +kernel
theorem dX0_windOn_14 : decode cX0_windOn 14 = .ok (.getfield 9, 3) := by decide +kernel
theorem dX0_windOn_17 : decode cX0_windOn 17 = .ok (.iconst 3, 1) := by decide +kernel
theorem dX0_windOn_18 : decode cX0_windOn 18 = .ok (.iaload, 1) := by decide +kernel
theorem dX0_windOn_19 : decode cX0_windOn 19 = .ok (.iconst 1, 1) := by decide +kernel
theorem dX0_windOn_20 : decode cX0_windOn 20 = .ok (.if_icmp .ne 13, 3) := by decide +kernel
theorem dX0_windOn_23 : decode cX0_windOn 23 = .ok (.iload_n 3, 1) := by decide +kernel
theorem dX0_windOn_24 : decode cX0_windOn 24 = .ok (.iconst 2, 1) := by decide +kernel
theorem dX0_windOn_25 : decode cX0_windOn 25 = .ok (.isub, 1) := by decide +kernel
theorem dX0_windOn_26 : decode cX0_windOn 26 = .ok (.iconst 0, 1) := by decide +kernel
theorem dX0_windOn_27 : decode cX0_windOn 27 = .ok (.invokestatic 70, 3) := by decide +kernel
theorem dX0_windOn_30 : decode cX0_windOn 30 = .ok (.goto 4, 3) := by decide +kernel
theorem dX0_windOn_33 : decode cX0_windOn 33 = .ok (.iload_n 3, 1) := by decide +kernel
theorem dX0_windOn_34 : decode cX0_windOn 34 = .ok (.ireturn, 1) := by decide +kernel
theorem dX0_toBoil_0 : decode cX0_toBoil 0 = .ok (.iconst 4, 1) := by decide +kernel
theorem dX0_toBoil_1 : decode cX0_toBoil 1 = .ok (.iload_n 2, 1) := by decide +kernel
theorem dX0_toBoil_2 : decode cX0_toBoil 2 = .ok (.iadd, 1) := by decide +kernel
theorem dX0_toBoil_3 : decode cX0_toBoil 3 = .ok (.istore 4, 2) := by decide +kernel
theorem dX0_toBoil_5 : decode cX0_toBoil 5 = .ok (.iconst 1, 1) := by decide +kernel
theorem dX0_toBoil_6 : decode cX0_toBoil 6 = .ok (.istore 5, 2) := by decide +kernel
theorem dX0_toBoil_8 : decode cX0_toBoil 8 = .ok (.iload_n 3, 1) := by decide +kernel
theorem dX0_toBoil_9 : decode cX0_toBoil 9 = .ok (.iconst 2, 1) := by decide +kernel
theorem dX0_toBoil_10 : decode cX0_toBoil 10 = .ok (.iand, 1) := by decide +kernel
theorem dX0_toBoil_11 : decode cX0_toBoil 11 = .ok (.ifCond .eq 6, 3) := by decide +kernel
theorem dX0_toBoil_14 : decode cX0_toBoil 14 = .ok (.iinc 4 1, 3) := by decide +kernel
theorem dX0_toBoil_17 : decode cX0_toBoil 17 = .ok (.iload_n 3, 1) := by decide +kernel
theorem dX0_toBoil_18 : decode cX0_toBoil 18 = .ok (.iconst 4, 1) := by decide +kernel
theorem dX0_toBoil_19 : decode cX0_toBoil 19 = .ok (.iand, 1) := by decide +kernel
theorem dX0_toBoil_20 : decode cX0_toBoil 20 = .ok (.ifCond .eq 9, 3) := by decide +kernel
theorem dX0_toBoil_23 : decode cX0_toBoil 23 = .ok (.iinc 4 1, 3) := by decide +kernel
theorem dX0_toBoil_26 : decode cX0_toBoil 26 = .ok (.iconst 2, 1) := by decide +kernel
theorem dX0_toBoil_27 : decode cX0_toBoil 27 = .ok (.istore 5, 2) := by decide +kernel
theorem dX0_toBoil_29 : decode cX0_toBoil 29 = .ok (.iload_n 3, 1) := by decide +kernel
theorem dX0_toBoil_30 : decode cX0_toBoil 30 = .ok (.bipush 8, 2) := by decide +kernel
theorem dX0_toBoil_32 : decode cX0_toBoil 32 = .ok (.iand, 1) := by decide +kernel
theorem dX0_toBoil_33 : decode cX0_toBoil 33 = .ok (.ifCond .eq 6, 3) := by decide +kernel
theorem dX0_toBoil_36 : decode cX0_toBoil 36 = .ok (.iconst 0, 1) := by decide +kernel
theorem dX0_toBoil_37 : decode cX0_toBoil 37 = .ok (.istore 5, 2) := by decide +kernel
theorem dX0_toBoil_39 : decode cX0_toBoil 39 = .ok (.aload_n 0, 1) := by decide +kernel
theorem dX0_toBoil_40 : decode cX0_toBoil 40 = .ok (.iload_n 1, 1) := by decide +kernel
theorem dX0_toBoil_41 : decode cX0_toBoil 41 = .ok (.iload_n 3, 1) := by decide +kernel
theorem dX0_toBoil_42 : decode cX0_toBoil 42 = .ok (.invokevirtual 73, 3) := by decide +kernel
theorem dX0_toBoil_45 : decode cX0_toBoil 45 = .ok (.iload 4, 2) := by decide +kernel
theorem dX0_toBoil_47 : decode cX0_toBoil 47 = .ok (.imul, 1) := by decide +kernel
theorem dX0_toBoil_48 : decode cX0_toBoil 48 = .ok (.iload 5, 2) := by decide +kernel
theorem dX0_toBoil_50 : decode cX0_toBoil 50 = .ok (.aload_n 0, 1) := by decide +kernel
theorem dX0_toBoil_51 : decode cX0_toBoil 51 = .ok (.getfield 29, 3) := by decide +kernel
theorem dX0_toBoil_54 : decode cX0_toBoil 54 = .ok (.iload_n 1, 1) := by decide +kernel
theorem dX0_toBoil_55 : decode cX0_toBoil 55 = .ok (.iaload, 1) := by decide +kernel
theorem dX0_toBoil_56 : decode cX0_toBoil 56 = .ok (.imul, 1) := by decide +kernel
theorem dX0_toBoil_57 : decode cX0_toBoil 57 = .ok (.iadd, 1) := by decide +kernel
theorem dX0_toBoil_58 : decode cX0_toBoil 58 = .ok (.ireturn, 1) := by decide +kernel
theorem dX0_byWind_0 : decode cX0_byWind 0 = .ok (.aload_n 0, 1) := by decide +kernel
theorem dX0_byWind_1 : decode cX0_byWind 1 = .ok (.iload_n 1, 1) := by decide +kernel
theorem dX0_byWind_2 : decode cX0_byWind 2 = .ok (.iload_n 3, 1) := by decide +kernel
theorem dX0_byWind_3 : decode cX0_byWind 3 = .ok (.invokevirtual 73, 3) := by decide +kernel
theorem dX0_byWind_6 : decode cX0_byWind 6 = .ok (.iload_n 2, 1) := by decide +kernel
theorem dX0_byWind_7 : decode cX0_byWind 7 = .ok (.imul, 1) := by decide +kernel
theorem dX0_byWind_8 : decode cX0_byWind 8 = .ok (.ireturn, 1) := by decide +kernel
theorem dX0_toBoilOn_0 : decode cX0_toBoilOn 0 = .ok (.aload_n 0, 1) := by decide +kernel
theorem dX0_toBoilOn_1 : decode cX0_toBoilOn 1 = .ok (.iload_n 1, 1) := by decide +kernel
theorem dX0_toBoilOn_2 : decode cX0_toBoilOn 2 = .ok (.aload_n 0, 1) := by decide +kernel
theorem dX0_toBoilOn_3 : decode cX0_toBoilOn 3 = .ok (.iload_n 2, 1) := by decide +kernel
theorem dX0_toBoilOn_4 : decode cX0_toBoilOn 4 = .ok (.iconst 0, 1) := by decide +kernel
theorem dX0_toBoilOn_5 : decode cX0_toBoilOn 5 = .ok (.invokevirtual 76, 3) := by decide +kernel
theorem dX0_toBoilOn_8 : decode cX0_toBoilOn 8 = .ok (.iload_n 3, 1) := by decide +kernel
theorem dX0_toBoilOn_9 : decode cX0_toBoilOn 9 = .ok (.invokevirtual 79, 3) := by decide +kernel
theorem dX0_toBoilOn_12 : decode cX0_toBoilOn 12 = .ok (.ireturn, 1) := by decide +kernel
theorem dX0_water_0 : decode cX0_water 0 = .ok (.bipush 11, 2) := by decide +kernel
theorem dX0_water_2 : decode cX0_water 2 = .ok (.aload_n 0, 1) := by decide +kernel
theorem dX0_water_3 : decode cX0_water 3 = .ok (.getfield 26, 3) := by decide +kernel
theorem dX0_water_6 : decode cX0_water 6 = .ok (.iload_n 1, 1) := by decide +kernel
theorem dX0_water_7 : decode cX0_water 7 = .ok (.iaload, 1) := by decide +kernel
theorem dX0_water_8 : decode cX0_water 8 = .ok (.imul, 1) := by decide +kernel
theorem dX0_water_9 : decode cX0_water 9 = .ok (.istore_n 3, 1) := by decide +kernel
theorem dX0_water_10 : decode cX0_water 10 = .ok (.iload_n 2, 1) := by decide +kernel
theorem dX0_water_11 : decode cX0_water 11 = .ok (.iconst 1, 1) := by decide +kernel
theorem dX0_water_12 : decode cX0_water 12 = .ok (.iand, 1) := by decide +kernel
theorem dX0_water_13 : decode cX0_water 13 = .ok (.ifCond .eq 9, 3) := by decide +kernel
theorem dX0_water_16 : decode cX0_water 16 = .ok (.iconst 2, 1) := by decide +kernel
theorem dX0_water_17 : decode cX0_water 17 = .ok (.iload_n 3, 1) := by decide +kernel
theorem dX0_water_18 : decode cX0_water 18 = .ok (.imul, 1) := by decide +kernel
theorem dX0_water_19 : decode cX0_water 19 = .ok (.goto 4, 3) := by decide +kernel
theorem dX0_water_22 : decode cX0_water 22 = .ok (.iload_n 3, 1) := by decide +kernel
theorem dX0_water_23 : decode cX0_water 23 = .ok (.ireturn, 1) := by decide +kernel
theorem dX1_init_0 : decode cX1_init 0 = .ok (.aload_n 0, 1) := by decide +kernel
theorem dX1_init_1 : decode cX1_init 1 = .ok (.invokespecial 3, 3) := by decide +kernel
theorem dX1_init_4 : decode cX1_init 4 = .ok (.aload_n 0, 1) := by decide +kernel
theorem dX1_init_5 : decode cX1_init 5 = .ok (.bipush 60, 2) := by decide +kernel
theorem dX1_init_7 : decode cX1_init 7 = .ok (.newarray .int, 2) := by decide +kernel
theorem dX1_init_9 : decode cX1_init 9 = .ok (.putfield 9, 3) := by decide +kernel
theorem dX1_init_12 : decode cX1_init 12 = .ok (.aload_n 0, 1) := by decide +kernel
theorem dX1_init_13 : decode cX1_init 13 = .ok (.bipush 60, 2) := by decide +kernel
theorem dX1_init_15 : decode cX1_init 15 = .ok (.newarray .int, 2) := by decide +kernel
theorem dX1_init_17 : decode cX1_init 17 = .ok (.putfield 15, 3) := by decide +kernel
theorem dX1_init_20 : decode cX1_init 20 = .ok (.aload_n 0, 1) := by decide +kernel
theorem dX1_init_21 : decode cX1_init 21 = .ok (.bipush 60, 2) := by decide +kernel
theorem dX1_init_23 : decode cX1_init 23 = .ok (.newarray .int, 2) := by decide +kernel
theorem dX1_init_25 : decode cX1_init 25 = .ok (.putfield 18, 3) := by decide +kernel
theorem dX1_init_28 : decode cX1_init 28 = .ok (.aload_n 0, 1) := by decide +kernel
theorem dX1_init_29 : decode cX1_init 29 = .ok (.bipush 61, 2) := by decide +kernel
theorem dX1_init_31 : decode cX1_init 31 = .ok (.newarray .int, 2) := by decide +kernel
theorem dX1_init_33 : decode cX1_init 33 = .ok (.putfield 21, 3) := by decide +kernel
theorem dX1_init_36 : decode cX1_init 36 = .ok (.aload_n 0, 1) := by decide +kernel
theorem dX1_init_37 : decode cX1_init 37 = .ok (.aload_n 1, 1) := by decide +kernel
theorem dX1_init_38 : decode cX1_init 38 = .ok (.putfield 24, 3) := by decide +kernel
theorem dX1_init_41 : decode cX1_init 41 = .ok (.aload_n 0, 1) := by decide +kernel
theorem dX1_init_42 : decode cX1_init 42 = .ok (.aload_n 2, 1) := by decide +kernel
theorem dX1_init_43 : decode cX1_init 43 = .ok (.putfield 28, 3) := by decide +kernel
theorem dX1_init_46 : decode cX1_init 46 = .ok (.return_, 1) := by decide +kernel
theorem dX1_run_0 : decode cX1_run 0 = .ok (.aload_n 0, 1) := by decide +kernel
theorem dX1_run_1 : decode cX1_run 1 = .ok (.bipush (-6), 2) := by decide +kernel
theorem dX1_run_3 : decode cX1_run 3 = .ok (.putfield 32, 3) := by decide +kernel
theorem dX1_run_6 : decode cX1_run 6 = .ok (.aload_n 0, 1) := by decide +kernel
theorem dX1_run_7 : decode cX1_run 7 = .ok (.bipush (-6), 2) := by decide +kernel
theorem dX1_run_9 : decode cX1_run 9 = .ok (.putfield 36, 3) := by decide +kernel
theorem dX1_run_12 : decode cX1_run 12 = .ok (.aload_n 0, 1) := by decide +kernel
theorem dX1_run_13 : decode cX1_run 13 = .ok (.aload_n 0, 1) := by decide +kernel
theorem dX1_run_14 : decode cX1_run 14 = .ok (.getfield 24, 3) := by decide +kernel
theorem dX1_run_17 : decode cX1_run 17 = .ok (.getfield 39, 3) := by decide +kernel
theorem dX1_run_20 : decode cX1_run 20 = .ok (.iconst 0, 1) := by decide +kernel
theorem dX1_run_21 : decode cX1_run 21 = .ok (.iaload, 1) := by decide +kernel
theorem dX1_run_22 : decode cX1_run 22 = .ok (.putfield 44, 3) := by decide +kernel
theorem dX1_run_25 : decode cX1_run 25 = .ok (.aload_n 0, 1) := by decide +kernel
theorem dX1_run_26 : decode cX1_run 26 = .ok (.aload_n 0, 1) := by decide +kernel
theorem dX1_run_27 : decode cX1_run 27 = .ok (.getfield 24, 3) := by decide +kernel
theorem dX1_run_30 : decode cX1_run 30 = .ok (.getfield 39, 3) := by decide +kernel
theorem dX1_run_33 : decode cX1_run 33 = .ok (.iconst 4, 1) := by decide +kernel
theorem dX1_run_34 : decode cX1_run 34 = .ok (.iaload, 1) := by decide +kernel
theorem dX1_run_35 : decode cX1_run 35 = .ok (.putfield 47, 3) := by decide +kernel
theorem dX1_run_38 : decode cX1_run 38 = .ok (.aload_n 0, 1) := by decide +kernel
theorem dX1_run_39 : decode cX1_run 39 = .ok (.aload_n 0, 1) := by decide +kernel
theorem dX1_run_40 : decode cX1_run 40 = .ok (.getfield 24, 3) := by decide +kernel
theorem dX1_run_43 : decode cX1_run 43 = .ok (.getfield 50, 3) := by decide +kernel
theorem dX1_run_46 : decode cX1_run 46 = .ok (.putfield 53, 3) := by decide +kernel
theorem dX1_run_49 : decode cX1_run 49 = .ok (.aload_n 0, 1) := by decide +kernel
theorem dX1_run_50 : decode cX1_run 50 = .ok (.aload_n 0, 1) := by decide +kernel
theorem dX1_run_51 : decode cX1_run 51 = .ok (.getfield 24, 3) := by decide +kernel
theorem dX1_run_54 : decode cX1_run 54 = .ok (.getfield 54, 3) := by decide +kernel
theorem dX1_run_57 : decode cX1_run 57 = .ok (.putfield 57, 3) := by decide +kernel
theorem dX1_run_60 : decode cX1_run 60 = .ok (.aload_n 0, 1) := by decide +kernel
theorem dX1_run_61 : decode cX1_run 61 = .ok (.iconst 0, 1) := by decide +kernel
theorem dX1_run_62 : decode cX1_run 62 = .ok (.putfield 58, 3) := by decide +kernel
theorem dX1_run_65 : decode cX1_run 65 = .ok (.aload_n 0, 1) := by decide +kernel
theorem dX1_run_66 : decode cX1_run 66 = .ok (.iconst 0, 1) := by decide +kernel
theorem dX1_run_67 : decode cX1_run 67 = .ok (.putfield 61, 3) := by decide +kernel
theorem dX1_run_70 : decode cX1_run 70 = .ok (.aload_n 0, 1) := by decide +kernel
theorem dX1_run_71 : decode cX1_run 71 = .ok (.getfield 21, 3) := by decide +kernel
theorem dX1_run_74 : decode cX1_run 74 = .ok (.iconst 0, 1) := by decide +kernel
theorem dX1_run_75 : decode cX1_run 75 = .ok (.aload_n 0, 1) := by decide +kernel
theorem dX1_run_76 : decode cX1_run 76 = .ok (.getfield 44, 3) := by decide +kernel
theorem dX1_run_79 : decode cX1_run 79 = .ok (.iastore, 1) := by decide +kernel
theorem dX1_run_80 : decode cX1_run 80 = .ok (.iconst 0, 1) := by decide +kernel
theorem dX1_run_81 : decode cX1_run 81 = .ok (.istore_n 2, 1) := by decide +kernel
theorem dX1_run_82 : decode cX1_run 82 = .ok (.iload_n 2, 1) := by decide +kernel
theorem dX1_run_83 : decode cX1_run 83 = .ok (.aload_n 0, 1) := by decide +kernel
theorem dX1_run_84 : decode cX1_run 84 = .ok (.getfield 28, 3) := by decide +kernel
theorem dX1_run_87 : decode cX1_run 87 = .ok (.getfield 64, 3) := by decide +kernel
theorem dX1_run_90 : decode cX1_run 90 = .ok (.if_icmp .ge 52, 3) := by decide +kernel
theorem dX1_run_93 : decode cX1_run 93 = .ok (.aload_n 0, 1) := by decide +kernel
theorem dX1_run_94 : decode cX1_run 94 = .ok (.getfield 32, 3) := by decide +kernel
theorem dX1_run_97 : decode cX1_run 97 = .ok (.bipush (-6), 2) := by decide +kernel
theorem dX1_run_99 : decode cX1_run 99 = .ok (.if_icmp .ne 43, 3) := by decide +kernel
theorem dX1_run_102 : decode cX1_run 102 = .ok (.aload_n 0, 1) := by decide +kernel
theorem dX1_run_103 : decode cX1_run 103 = .ok (.iload_n 2, 1) := by decide +kernel
theorem dX1_run_104 : decode cX1_run 104 = .ok (.invokevirtual 69, 3) := by decide +kernel
theorem dX1_run_107 : decode cX1_run 107 = .ok (.aload_n 0, 1) := by decide +kernel
theorem dX1_run_108 : decode cX1_run 108 = .ok (.iload_n 2, 1) := by decide +kernel
theorem dX1_run_109 : decode cX1_run 109 = .ok (.iload_n 1, 1) := by decide +kernel
theorem dX1_run_110 : decode cX1_run 110 = .ok (.invokevirtual 73, 3) := by decide +kernel
theorem dX1_run_113 : decode cX1_run 113 = .ok (.istore_n 3, 1) := by decide +kernel
theorem dX1_run_114 : decode cX1_run 114 = .ok (.iload_n 3, 1) := by decide +kernel
theorem dX1_run_115 : decode cX1_run 115 = .ok (.ifCond .eq 16, 3) := by decide +kernel
theorem dX1_run_118 : decode cX1_run 118 = .ok (.aload_n 0, 1) := by decide +kernel
theorem dX1_run_119 : decode cX1_run 119 = .ok (.iload_n 2, 1) := by decide +kernel
theorem dX1_run_120 : decode cX1_run 120 = .ok (.putfield 32, 3) := by decide +kernel
theorem dX1_run_123 : decode cX1_run 123 = .ok (.aload_n 0, 1) := by decide +kernel
theorem dX1_run_124 : decode cX1_run 124 = .ok (.iload_n 3, 1) := by decide +kernel
theorem dX1_run_125 : decode cX1_run 125 = .ok (.putfield 36, 3) := by decide +kernel
theorem dX1_run_128 : decode cX1_run 128 = .ok (.goto 8, 3) := by decide +kernel
theorem dX1_run_131 : decode cX1_run 131 = .ok (.aload_n 0, 1) := by decide +kernel
theorem dX1_run_132 : decode cX1_run 132 = .ok (.iload_n 2, 1) := by decide +kernel
theorem dX1_run_133 : decode cX1_run 133 = .ok (.invokevirtual 77, 3) := by decide +kernel
theorem dX1_run_136 : decode cX1_run 136 = .ok (.iinc 2 1, 3) := by decide +kernel
theorem dX1_run_139 : decode cX1_run 139 = .ok (.goto (-57), 3) := by decide +kernel
theorem dX1_run_142 : decode cX1_run 142 = .ok (.return_, 1) := by decide +kernel
theorem dX1_burntOn_0 : decode cX1_burntOn 0 = .ok (.iconst 0, 1) := by decide +kernel
theorem dX1_burntOn_1 : decode cX1_burntOn 1 = .ok (.istore_n 2, 1) := by decide +kernel
theorem dX1_burntOn_2 : decode cX1_burntOn 2 = .ok (.iconst 0, 1) := by decide +kernel
theorem dX1_burntOn_3 : decode cX1_burntOn 3 = .ok (.istore_n 3, 1) := by decide +kernel
theorem dX1_burntOn_4 : decode cX1_burntOn 4 = .ok (.iload_n 3, 1) := by decide +kernel
theorem dX1_burntOn_5 : decode cX1_burntOn 5 = .ok (.aload_n 0, 1) := by decide +kernel
theorem dX1_burntOn_6 : decode cX1_burntOn 6 = .ok (.getfield 28, 3) := by decide +kernel
theorem dX1_burntOn_9 : decode cX1_burntOn 9 = .ok (.getfield 64, 3) := by decide +kernel
theorem dX1_burntOn_12 : decode cX1_burntOn 12 = .ok (.if_icmp .ge 28, 3) := by decide +kernel
theorem dX1_burntOn_15 : decode cX1_burntOn 15 = .ok (.aload_n 0, 1) := by decide +kernel
theorem dX1_burntOn_16 : decode cX1_burntOn 16 = .ok (.getfield 9, 3) := by decide +kernel
theorem dX1_burntOn_19 : decode cX1_burntOn 19 = .ok (.iload_n 3, 1) := by decide +kernel
theorem dX1_burntOn_20 : decode cX1_burntOn 20 = .ok (.iaload, 1) := by decide +kernel
theorem dX1_burntOn_21 : decode cX1_burntOn 21 = .ok (.iload_n 1, 1) := by decide +kernel
theorem dX1_burntOn_22 : decode cX1_burntOn 22 = .ok (.if_icmp .ne 12, 3) := by decide +kernel
theorem dX1_burntOn_25 : decode cX1_burntOn 25 = .ok (.iload_n 2, 1) := by decide +kernel
theorem dX1_burntOn_26 : decode cX1_burntOn 26 = .ok (.aload_n 0, 1) := by decide +kernel
theorem dX1_burntOn_27 : decode cX1_burntOn 27 = .ok (.getfield 15, 3) := by decide +kernel
theorem dX1_burntOn_30 : decode cX1_burntOn 30 = .ok (.iload_n 3, 1) := by decide +kernel
theorem dX1_burntOn_31 : decode cX1_burntOn 31 = .ok (.iaload, 1) := by decide +kernel
theorem dX1_burntOn_32 : decode cX1_burntOn 32 = .ok (.iadd, 1) := by decide +kernel
theorem dX1_burntOn_33 : decode cX1_burntOn 33 = .ok (.istore_n 2, 1) := by decide +kernel
theorem dX1_burntOn_34 : decode cX1_burntOn 34 = .ok (.iinc 3 1, 3) := by decide +kernel
theorem dX1_burntOn_37 : decode cX1_burntOn 37 = .ok (.goto (-33), 3) := by decide +kernel
theorem dX1_burntOn_40 : decode cX1_burntOn 40 = .ok (.iload_n 2, 1) := by decide +kernel
theorem dX1_burntOn_41 : decode cX1_burntOn 41 = .ok (.ireturn, 1) := by decide +kernel
theorem dX1_isCold_0 : decode cX1_isCold 0 = .ok (.aload_n 0, 1) := by decide +kernel
theorem dX1_isCold_1 : decode cX1_isCold 1 = .ok (.getfield 24, 3) := by decide +kernel
theorem dX1_isCold_4 : decode cX1_isCold 4 = .ok (.getfield 80, 3) := by decide +kernel
theorem dX1_isCold_7 : decode cX1_isCold 7 = .ok (.aload_n 0, 1) := by decide +kernel
theorem dX1_isCold_8 : decode cX1_isCold 8 = .ok (.getfield 47, 3) := by decide +kernel
theorem dX1_isCold_11 : decode cX1_isCold 11 = .ok (.baload, 1) := by decide +kernel
theorem dX1_isCold_12 : decode cX1_isCold 12 = .ok (.ifCond .eq 18, 3) := by decide +kernel
theorem dX1_isCold_15 : decode cX1_isCold 15 = .ok (.aload_n 0, 1) := by decide +kernel
theorem dX1_isCold_16 : decode cX1_isCold 16 = .ok (.getfield 47, 3) := by decide +kernel
theorem dX1_isCold_19 : decode cX1_isCold 19 = .ok (.aload_n 0, 1) := by decide +kernel
theorem dX1_isCold_20 : decode cX1_isCold 20 = .ok (.getfield 53, 3) := by decide +kernel
theorem dX1_isCold_23 : decode cX1_isCold 23 = .ok (.if_icmp .eq 7, 3) := by decide +kernel
theorem dX1_isCold_26 : decode cX1_isCold 26 = .ok (.iconst 1, 1) := by decide +kernel
theorem dX1_isCold_27 : decode cX1_isCold 27 = .ok (.goto 4, 3) := by decide +kernel
theorem dX1_isCold_30 : decode cX1_isCold 30 = .ok (.iconst 0, 1) := by decide +kernel
theorem dX1_isCold_31 : decode cX1_isCold 31 = .ok (.ireturn, 1) := by decide +kernel
theorem dX1_ready_0 : decode cX1_ready 0 = .ok (.aload_n 0, 1) := by decide +kernel
theorem dX1_ready_1 : decode cX1_ready 1 = .ok (.getfield 28, 3) := by decide +kernel
theorem dX1_ready_4 : decode cX1_ready 4 = .ok (.getfield 84, 3) := by decide +kernel
theorem dX1_ready_7 : decode cX1_ready 7 = .ok (.iload_n 1, 1) := by decide +kernel
theorem dX1_ready_8 : decode cX1_ready 8 = .ok (.iaload, 1) := by decide +kernel
theorem dX1_ready_9 : decode cX1_ready 9 = .ok (.istore_n 2, 1) := by decide +kernel
theorem dX1_ready_10 : decode cX1_ready 10 = .ok (.aload_n 0, 1) := by decide +kernel
theorem dX1_ready_11 : decode cX1_ready 11 = .ok (.getfield 24, 3) := by decide +kernel
theorem dX1_ready_14 : decode cX1_ready 14 = .ok (.iload_n 2, 1) := by decide +kernel
theorem dX1_ready_15 : decode cX1_ready 15 = .ok (.invokevirtual 87, 3) := by decide +kernel
theorem dX1_ready_18 : decode cX1_ready 18 = .ok (.istore_n 3, 1) := by decide +kernel
theorem dX1_ready_19 : decode cX1_ready 19 = .ok (.aload_n 0, 1) := by decide +kernel
theorem dX1_ready_20 : decode cX1_ready 20 = .ok (.getfield 24, 3) := by decide +kernel
theorem dX1_ready_23 : decode cX1_ready 23 = .ok (.aload_n 0, 1) := by decide +kernel
theorem dX1_ready_24 : decode cX1_ready 24 = .ok (.getfield 47, 3) := by decide +kernel
theorem dX1_ready_27 : decode cX1_ready 27 = .ok (.iconst 0, 1) := by decide +kernel
theorem dX1_ready_28 : decode cX1_ready 28 = .ok (.invokevirtual 91, 3) := by decide +kernel
theorem dX1_ready_31 : decode cX1_ready 31 = .ok (.istore 4, 2) := by decide +kernel
theorem dX1_ready_33 : decode cX1_ready 33 = .ok (.aload_n 0, 1) := by decide +kernel
theorem dX1_ready_34 : decode cX1_ready 34 = .ok (.getfield 9, 3) := by decide +kernel
theorem dX1_ready_37 : decode cX1_ready 37 = .ok (.iload_n 1, 1) := by decide +kernel
theorem dX1_ready_38 : decode cX1_ready 38 = .ok (.aload_n 0, 1) := by decide +kernel
theorem dX1_ready_39 : decode cX1_ready 39 = .ok (.getfield 47, 3) := by decide +kernel
theorem dX1_ready_42 : decode cX1_ready 42 = .ok (.iastore, 1) := by decide +kernel
theorem dX1_ready_43 : decode cX1_ready 43 = .ok (.aload_n 0, 1) := by decide +kernel
theorem dX1_ready_44 : decode cX1_ready 44 = .ok (.getfield 15, 3) := by decide +kernel
theorem dX1_ready_47 : decode cX1_ready 47 = .ok (.iload_n 1, 1) := by decide +kernel
theorem dX1_ready_48 : decode cX1_ready 48 = .ok (.iload_n 3, 1) := by decide +kernel
theorem dX1_ready_49 : decode cX1_ready 49 = .ok (.ifCond .eq 25, 3) := by decide +kernel
theorem dX1_ready_52 : decode cX1_ready 52 = .ok (.aload_n 0, 1) := by decide +kernel
theorem dX1_ready_53 : decode cX1_ready 53 = .ok (.getfield 24, 3) := by decide +kernel
theorem dX1_ready_56 : decode cX1_ready 56 = .ok (.iload_n 2, 1) := by decide +kernel
theorem dX1_ready_57 : decode cX1_ready 57 = .ok (.iload 4, 2) := by decide +kernel
theorem dX1_ready_59 : decode cX1_ready 59 = .ok (.aload_n 0, 1) := by decide +kernel
theorem dX1_ready_60 : decode cX1_ready 60 = .ok (.getfield 28, 3) := by decide +kernel
theorem dX1_ready_63 : decode cX1_ready 63 = .ok (.getfield 95, 3) := by decide +kernel
theorem dX1_ready_66 : decode cX1_ready 66 = .ok (.iload_n 1, 1) := by decide +kernel
theorem dX1_ready_67 : decode cX1_ready 67 = .ok (.iaload, 1) := by decide +kernel
theorem dX1_ready_68 : decode cX1_ready 68 = .ok (.invokevirtual 98, 3) := by decide +kernel
theorem dX1_ready_71 : decode cX1_ready 71 = .ok (.goto 4, 3) := by decide +kernel
theorem dX1_ready_74 : decode cX1_ready 74 = .ok (.iconst 0, 1) := by decide +kernel
theorem dX1_ready_75 : decode cX1_ready 75 = .ok (.iastore, 1) := by decide +kernel
theorem dX1_ready_76 : decode cX1_ready 76 = .ok (.aload_n 0, 1) := by decide +kernel
theorem dX1_ready_77 : decode cX1_ready 77 = .ok (.getfield 18, 3) := by decide +kernel
theorem dX1_ready_80 : decode cX1_ready 80 = .ok (.iload_n 1, 1) := by decide +kernel
theorem dX1_ready_81 : decode cX1_ready 81 = .ok (.iload_n 3, 1) := by decide +kernel
theorem dX1_ready_82 : decode cX1_ready 82 = .ok (.ifCond .eq 25, 3) := by decide +kernel
theorem dX1_ready_85 : decode cX1_ready 85 = .ok (.aload_n 0, 1) := by decide +kernel
theorem dX1_ready_86 : decode cX1_ready 86 = .ok (.getfield 24, 3) := by decide +kernel
theorem dX1_ready_89 : decode cX1_ready 89 = .ok (.iload_n 2, 1) := by decide +kernel
theorem dX1_ready_90 : decode cX1_ready 90 = .ok (.iload 4, 2) := by decide +kernel
theorem dX1_ready_92 : decode cX1_ready 92 = .ok (.aload_n 0, 1) := by decide +kernel
theorem dX1_ready_93 : decode cX1_ready 93 = .ok (.getfield 28, 3) := by decide +kernel
theorem dX1_ready_96 : decode cX1_ready 96 = .ok (.getfield 95, 3) := by decide +kernel
theorem dX1_ready_99 : decode cX1_ready 99 = .ok (.iload_n 1, 1) := by decide +kernel
theorem dX1_ready_100 : decode cX1_ready 100 = .ok (.iaload, 1) := by decide +kernel
theorem dX1_ready_101 : decode cX1_ready 101 = .ok (.invokevirtual 102, 3) := by decide +kernel
theorem dX1_ready_104 : decode cX1_ready 104 = .ok (.goto 4, 3) := by decide +kernel
theorem dX1_ready_107 : decode cX1_ready 107 = .ok (.iconst 0, 1) := by decide +kernel
theorem dX1_ready_108 : decode cX1_ready 108 = .ok (.iastore, 1) := by decide +kernel
theorem dX1_ready_109 : decode cX1_ready 109 = .ok (.return_, 1) := by decide +kernel
theorem dX1_hindrance_0 : decode cX1_hindrance 0 = .ok (.aload_n 0, 1) := by decide +kernel
theorem dX1_hindrance_1 : decode cX1_hindrance 1 = .ok (.getfield 28, 3) := by decide +kernel
theorem dX1_hindrance_4 : decode cX1_hindrance 4 = .ok (.getfield 84, 3) := by decide +kernel
theorem dX1_hindrance_7 : decode cX1_hindrance 7 = .ok (.iload_n 1, 1) := by decide +kernel
theorem dX1_hindrance_8 : decode cX1_hindrance 8 = .ok (.iaload, 1) := by decide +kernel
theorem dX1_hindrance_9 : decode cX1_hindrance 9 = .ok (.istore_n 3, 1) := by decide +kernel
theorem dX1_hindrance_10 : decode cX1_hindrance 10 = .ok (.iload_n 3, 1) := by decide +kernel
theorem dX1_hindrance_11 : decode cX1_hindrance 11 = .ok (.tableswitch 63 6 8 #[25, 41, 43], 25) := by decide +kernel
theorem dX1_hindrance_36 : decode cX1_hindrance 36 = .ok (.aload_n 0, 1) := by decide +kernel
theorem dX1_hindrance_37 : decode cX1_hindrance 37 = .ok (.getfield 47, 3) := by decide +kernel
theorem dX1_hindrance_40 : decode cX1_hindrance 40 = .ok (.bipush 13, 2) := by decide +kernel
theorem dX1_hindrance_42 : decode cX1_hindrance 42 = .ok (.if_icmp .ne 8, 3) := by decide +kernel
theorem dX1_hindrance_45 : decode cX1_hindrance 45 = .ok (.bipush 6, 2) := by decide +kernel
theorem dX1_hindrance_47 : decode cX1_hindrance 47 = .ok (.goto 4, 3) := by decide +kernel
theorem dX1_hindrance_50 : decode cX1_hindrance 50 = .ok (.iconst 0, 1) := by decide +kernel
theorem dX1_hindrance_51 : decode cX1_hindrance 51 = .ok (.ireturn, 1) := by decide +kernel
theorem dX1_hindrance_52 : decode cX1_hindrance 52 = .ok (.iconst 0, 1) := by decide +kernel
theorem dX1_hindrance_53 : decode cX1_hindrance 53 = .ok (.ireturn, 1) := by decide +kernel
theorem dX1_hindrance_54 : decode cX1_hindrance 54 = .ok (.aload_n 0, 1) := by decide +kernel
theorem dX1_hindrance_55 : decode cX1_hindrance 55 = .ok (.getfield 24, 3) := by decide +kernel
theorem dX1_hindrance_58 : decode cX1_hindrance 58 = .ok (.aload_n 0, 1) := by decide +kernel
theorem dX1_hindrance_59 : decode cX1_hindrance 59 = .ok (.getfield 47, 3) := by decide +kernel
theorem dX1_hindrance_62 : decode cX1_hindrance 62 = .ok (.invokevirtual 104, 3) := by decide +kernel
theorem dX1_hindrance_65 : decode cX1_hindrance 65 = .ok (.ifCond .eq 7, 3) := by decide +kernel
theorem dX1_hindrance_68 : decode cX1_hindrance 68 = .ok (.iconst 5, 1) := by decide +kernel
theorem dX1_hindrance_69 : decode cX1_hindrance 69 = .ok (.goto 4, 3) := by decide +kernel
theorem dX1_hindrance_72 : decode cX1_hindrance 72 = .ok (.iconst 0, 1) := by decide +kernel
theorem dX1_hindrance_73 : decode cX1_hindrance 73 = .ok (.ireturn, 1) := by decide +kernel
theorem dX1_hindrance_74 : decode cX1_hindrance 74 = .ok (.aload_n 0, 1) := by decide +kernel
theorem dX1_hindrance_75 : decode cX1_hindrance 75 = .ok (.getfield 24, 3) := by decide +kernel
theorem dX1_hindrance_78 : decode cX1_hindrance 78 = .ok (.iload_n 3, 1) := by decide +kernel
theorem dX1_hindrance_79 : decode cX1_hindrance 79 = .ok (.invokevirtual 87, 3) := by decide +kernel
theorem dX1_hindrance_82 : decode cX1_hindrance 82 = .ok (.ifCond .ne 5, 3) := by decide +kernel
theorem dX1_hindrance_85 : decode cX1_hindrance 85 = .ok (.iconst 1, 1) := by decide +kernel
theorem dX1_hindrance_86 : decode cX1_hindrance 86 = .ok (.ireturn, 1) := by decide +kernel
theorem dX1_hindrance_87 : decode cX1_hindrance 87 = .ok (.aload_n 0, 1) := by decide +kernel
theorem dX1_hindrance_88 : decode cX1_hindrance 88 = .ok (.getfield 24, 3) := by decide +kernel
theorem dX1_hindrance_91 : decode cX1_hindrance 91 = .ok (.iload_n 3, 1) := by decide +kernel
theorem dX1_hindrance_92 : decode cX1_hindrance 92 = .ok (.invokevirtual 107, 3) := by decide +kernel
theorem dX1_hindrance_95 : decode cX1_hindrance 95 = .ok (.ifCond .ne 5, 3) := by decide +kernel
theorem dX1_hindrance_98 : decode cX1_hindrance 98 = .ok (.iconst 2, 1) := by decide +kernel
theorem dX1_hindrance_99 : decode cX1_hindrance 99 = .ok (.ireturn, 1) := by decide +kernel
theorem dX1_hindrance_100 : decode cX1_hindrance 100 = .ok (.aload_n 0, 1) := by decide +kernel
theorem dX1_hindrance_101 : decode cX1_hindrance 101 = .ok (.invokevirtual 110, 3) := by decide +kernel
theorem dX1_hindrance_104 : decode cX1_hindrance 104 = .ok (.ifCond .eq 19, 3) := by decide +kernel
theorem dX1_hindrance_107 : decode cX1_hindrance 107 = .ok (.aload_n 0, 1) := by decide +kernel
theorem dX1_hindrance_108 : decode cX1_hindrance 108 = .ok (.getfield 28, 3) := by decide +kernel
theorem dX1_hindrance_111 : decode cX1_hindrance 111 = .ok (.getfield 95, 3) := by decide +kernel
theorem dX1_hindrance_114 : decode cX1_hindrance 114 = .ok (.iload_n 1, 1) := by decide +kernel
theorem dX1_hindrance_115 : decode cX1_hindrance 115 = .ok (.iaload, 1) := by decide +kernel
theorem dX1_hindrance_116 : decode cX1_hindrance 116 = .ok (.iconst 4, 1) := by decide +kernel
theorem dX1_hindrance_117 : decode cX1_hindrance 117 = .ok (.iand, 1) := by decide +kernel
theorem dX1_hindrance_118 : decode cX1_hindrance 118 = .ok (.ifCond .eq 5, 3) := by decide +kernel
theorem dX1_hindrance_121 : decode cX1_hindrance 121 = .ok (.iconst 3, 1) := by decide +kernel
theorem dX1_hindrance_122 : decode cX1_hindrance 122 = .ok (.ireturn, 1) := by decide +kernel
theorem dX1_hindrance_123 : decode cX1_hindrance 123 = .ok (.iload_n 2, 1) := by decide +kernel
theorem dX1_hindrance_124 : decode cX1_hindrance 124 = .ok (.ifCond .ne 20, 3) := by decide +kernel
theorem dX1_hindrance_127 : decode cX1_hindrance 127 = .ok (.aload_n 0, 1) := by decide +kernel
theorem dX1_hindrance_128 : decode cX1_hindrance 128 = .ok (.getfield 15, 3) := by decide +kernel
theorem dX1_hindrance_131 : decode cX1_hindrance 131 = .ok (.iload_n 1, 1) := by decide +kernel
theorem dX1_hindrance_132 : decode cX1_hindrance 132 = .ok (.iaload, 1) := by decide +kernel
theorem dX1_hindrance_133 : decode cX1_hindrance 133 = .ok (.aload_n 0, 1) := by decide +kernel
theorem dX1_hindrance_134 : decode cX1_hindrance 134 = .ok (.getfield 44, 3) := by decide +kernel
theorem dX1_hindrance_137 : decode cX1_hindrance 137 = .ok (.if_icmp .le 7, 3) := by decide +kernel
theorem dX1_hindrance_140 : decode cX1_hindrance 140 = .ok (.iconst 4, 1) := by decide +kernel
theorem dX1_hindrance_141 : decode cX1_hindrance 141 = .ok (.goto 4, 3) := by decide +kernel
theorem dX1_hindrance_144 : decode cX1_hindrance 144 = .ok (.iconst 0, 1) := by decide +kernel
theorem dX1_hindrance_145 : decode cX1_hindrance 145 = .ok (.ireturn, 1) := by decide +kernel
theorem dX1_carryOut_0 : decode cX1_carryOut 0 = .ok (.aload_n 0, 1) := by decide +kernel
theorem dX1_carryOut_1 : decode cX1_carryOut 1 = .ok (.getfield 28, 3) := by decide +kernel
theorem dX1_carryOut_4 : decode cX1_carryOut 4 = .ok (.getfield 84, 3) := by decide +kernel
theorem dX1_carryOut_7 : decode cX1_carryOut 7 = .ok (.iload_n 1, 1) := by decide +kernel
theorem dX1_carryOut_8 : decode cX1_carryOut 8 = .ok (.iaload, 1) := by decide +kernel
theorem dX1_carryOut_9 : decode cX1_carryOut 9 = .ok (.tableswitch 114 6 8 #[27, 75, 93], 27) := by decide +kernel
theorem dX1_carryOut_36 : decode cX1_carryOut 36 = .ok (.aload_n 0, 1) := by decide +kernel
theorem dX1_carryOut_37 : decode cX1_carryOut 37 = .ok (.aload_n 0, 1) := by decide +kernel
theorem dX1_carryOut_38 : decode cX1_carryOut 38 = .ok (.getfield 57, 3) := by decide +kernel
theorem dX1_carryOut_41 : decode cX1_carryOut 41 = .ok (.aload_n 0, 1) := by decide +kernel
theorem dX1_carryOut_42 : decode cX1_carryOut 42 = .ok (.getfield 47, 3) := by decide +kernel
theorem dX1_carryOut_45 : decode cX1_carryOut 45 = .ok (.ishr, 1) := by decide +kernel
theorem dX1_carryOut_46 : decode cX1_carryOut 46 = .ok (.iconst 1, 1) := by decide +kernel
theorem dX1_carryOut_47 : decode cX1_carryOut 47 = .ok (.iand, 1) := by decide +kernel
theorem dX1_carryOut_48 : decode cX1_carryOut 48 = .ok (.iconst 1, 1) := by decide +kernel
theorem dX1_carryOut_49 : decode cX1_carryOut 49 = .ok (.if_icmp .ne 12, 3) := by decide +kernel
theorem dX1_carryOut_52 : decode cX1_carryOut 52 = .ok (.aload_n 0, 1) := by decide +kernel
theorem dX1_carryOut_53 : decode cX1_carryOut 53 = .ok (.getfield 47, 3) := by decide +kernel
theorem dX1_carryOut_56 : decode cX1_carryOut 56 = .ok (.iconst 1, 1) := by decide +kernel
theorem dX1_carryOut_57 : decode cX1_carryOut 57 = .ok (.iadd, 1) := by decide +kernel
theorem dX1_carryOut_58 : decode cX1_carryOut 58 = .ok (.goto 5, 3) := by decide +kernel
theorem dX1_carryOut_61 : decode cX1_carryOut 61 = .ok (.bipush (-6), 2) := by decide +kernel
theorem dX1_carryOut_63 : decode cX1_carryOut 63 = .ok (.putfield 53, 3) := by decide +kernel
theorem dX1_carryOut_66 : decode cX1_carryOut 66 = .ok (.aload_n 0, 1) := by decide +kernel
theorem dX1_carryOut_67 : decode cX1_carryOut 67 = .ok (.iconst 0, 1) := by decide +kernel
theorem dX1_carryOut_68 : decode cX1_carryOut 68 = .ok (.putfield 57, 3) := by decide +kernel
theorem dX1_carryOut_71 : decode cX1_carryOut 71 = .ok (.aload_n 0, 1) := by decide +kernel
theorem dX1_carryOut_72 : decode cX1_carryOut 72 = .ok (.dup, 1) := by decide +kernel
theorem dX1_carryOut_73 : decode cX1_carryOut 73 = .ok (.getfield 47, 3) := by decide +kernel
theorem dX1_carryOut_76 : decode cX1_carryOut 76 = .ok (.iconst 1, 1) := by decide +kernel
theorem dX1_carryOut_77 : decode cX1_carryOut 77 = .ok (.iadd, 1) := by decide +kernel
theorem dX1_carryOut_78 : decode cX1_carryOut 78 = .ok (.putfield 47, 3) := by decide +kernel
theorem dX1_carryOut_81 : decode cX1_carryOut 81 = .ok (.goto 82, 3) := by decide +kernel
theorem dX1_carryOut_84 : decode cX1_carryOut 84 = .ok (.aload_n 0, 1) := by decide +kernel
theorem dX1_carryOut_85 : decode cX1_carryOut 85 = .ok (.dup, 1) := by decide +kernel
theorem dX1_carryOut_86 : decode cX1_carryOut 86 = .ok (.getfield 57, 3) := by decide +kernel
theorem dX1_carryOut_89 : decode cX1_carryOut 89 = .ok (.iconst 1, 1) := by decide +kernel
theorem dX1_carryOut_90 : decode cX1_carryOut 90 = .ok (.aload_n 0, 1) := by decide +kernel
theorem dX1_carryOut_91 : decode cX1_carryOut 91 = .ok (.getfield 47, 3) := by decide +kernel
theorem dX1_carryOut_94 : decode cX1_carryOut 94 = .ok (.ishl, 1) := by decide +kernel
theorem dX1_carryOut_95 : decode cX1_carryOut 95 = .ok (.ior, 1) := by decide +kernel
theorem dX1_carryOut_96 : decode cX1_carryOut 96 = .ok (.putfield 57, 3) := by decide +kernel
theorem dX1_carryOut_99 : decode cX1_carryOut 99 = .ok (.goto 64, 3) := by decide +kernel
theorem dX1_carryOut_102 : decode cX1_carryOut 102 = .ok (.aload_n 0, 1) := by decide +kernel
theorem dX1_carryOut_103 : decode cX1_carryOut 103 = .ok (.aload_n 0, 1) := by decide +kernel
theorem dX1_carryOut_104 : decode cX1_carryOut 104 = .ok (.getfield 44, 3) := by decide +kernel
theorem dX1_carryOut_107 : decode cX1_carryOut 107 = .ok (.sipush 1000, 3) := by decide +kernel
theorem dX1_carryOut_110 : decode cX1_carryOut 110 = .ok (.iadd, 1) := by decide +kernel
theorem dX1_carryOut_111 : decode cX1_carryOut 111 = .ok (.sipush 4000, 3) := by decide +kernel
theorem dX1_carryOut_114 : decode cX1_carryOut 114 = .ok (.invokestatic 114, 3) := by decide +kernel
theorem dX1_carryOut_117 : decode cX1_carryOut 117 = .ok (.putfield 44, 3) := by decide +kernel
theorem dX1_carryOut_120 : decode cX1_carryOut 120 = .ok (.goto 43, 3) := by decide +kernel
theorem dX1_carryOut_123 : decode cX1_carryOut 123 = .ok (.aload_n 0, 1) := by decide +kernel
theorem dX1_carryOut_124 : decode cX1_carryOut 124 = .ok (.dup, 1) := by decide +kernel
theorem dX1_carryOut_125 : decode cX1_carryOut 125 = .ok (.getfield 44, 3) := by decide +kernel
theorem dX1_carryOut_128 : decode cX1_carryOut 128 = .ok (.aload_n 0, 1) := by decide +kernel
theorem dX1_carryOut_129 : decode cX1_carryOut 129 = .ok (.getfield 15, 3) := by decide +kernel
theorem dX1_carryOut_132 : decode cX1_carryOut 132 = .ok (.iload_n 1, 1) := by decide +kernel
theorem dX1_carryOut_133 : decode cX1_carryOut 133 = .ok (.iaload, 1) := by decide +kernel
theorem dX1_carryOut_134 : decode cX1_carryOut 134 = .ok (.isub, 1) := by decide +kernel
theorem dX1_carryOut_135 : decode cX1_carryOut 135 = .ok (.putfield 44, 3) := by decide +kernel
theorem dX1_carryOut_138 : decode cX1_carryOut 138 = .ok (.aload_n 0, 1) := by decide +kernel
theorem dX1_carryOut_139 : decode cX1_carryOut 139 = .ok (.dup, 1) := by decide +kernel
theorem dX1_carryOut_140 : decode cX1_carryOut 140 = .ok (.getfield 58, 3) := by decide +kernel
theorem dX1_carryOut_143 : decode cX1_carryOut 143 = .ok (.aload_n 0, 1) := by decide +kernel
theorem dX1_carryOut_144 : decode cX1_carryOut 144 = .ok (.getfield 15, 3) := by decide +kernel
theorem dX1_carryOut_147 : decode cX1_carryOut 147 = .ok (.iload_n 1, 1) := by decide +kernel
theorem dX1_carryOut_148 : decode cX1_carryOut 148 = .ok (.iaload, 1) := by decide +kernel
theorem dX1_carryOut_149 : decode cX1_carryOut 149 = .ok (.iadd, 1) := by decide +kernel
theorem dX1_carryOut_150 : decode cX1_carryOut 150 = .ok (.putfield 58, 3) := by decide +kernel
theorem dX1_carryOut_153 : decode cX1_carryOut 153 = .ok (.aload_n 0, 1) := by decide +kernel
theorem dX1_carryOut_154 : decode cX1_carryOut 154 = .ok (.dup, 1) := by decide +kernel
theorem dX1_carryOut_155 : decode cX1_carryOut 155 = .ok (.getfield 61, 3) := by decide +kernel
theorem dX1_carryOut_158 : decode cX1_carryOut 158 = .ok (.iconst 1, 1) := by decide +kernel
theorem dX1_carryOut_159 : decode cX1_carryOut 159 = .ok (.iadd, 1) := by decide +kernel
theorem dX1_carryOut_160 : decode cX1_carryOut 160 = .ok (.putfield 61, 3) := by decide +kernel
theorem dX1_carryOut_163 : decode cX1_carryOut 163 = .ok (.aload_n 0, 1) := by decide +kernel
theorem dX1_carryOut_164 : decode cX1_carryOut 164 = .ok (.getfield 21, 3) := by decide +kernel
theorem dX1_carryOut_167 : decode cX1_carryOut 167 = .ok (.iload_n 1, 1) := by decide +kernel
theorem dX1_carryOut_168 : decode cX1_carryOut 168 = .ok (.iconst 1, 1) := by decide +kernel
theorem dX1_carryOut_169 : decode cX1_carryOut 169 = .ok (.iadd, 1) := by decide +kernel
theorem dX1_carryOut_170 : decode cX1_carryOut 170 = .ok (.aload_n 0, 1) := by decide +kernel
theorem dX1_carryOut_171 : decode cX1_carryOut 171 = .ok (.getfield 44, 3) := by decide +kernel
theorem dX1_carryOut_174 : decode cX1_carryOut 174 = .ok (.iastore, 1) := by decide +kernel
theorem dX1_carryOut_175 : decode cX1_carryOut 175 = .ok (.return_, 1) := by decide +kernel
theorem dX2_init_0 : decode cX2_init 0 = .ok (.aload_n 0, 1) := by decide +kernel
theorem dX2_init_1 : decode cX2_init 1 = .ok (.invokespecial 3, 3) := by decide +kernel
theorem dX2_init_4 : decode cX2_init 4 = .ok (.aload_n 0, 1) := by decide +kernel
theorem dX2_init_5 : decode cX2_init 5 = .ok (.bipush 60, 2) := by decide +kernel
theorem dX2_init_7 : decode cX2_init 7 = .ok (.newarray .int, 2) := by decide +kernel
theorem dX2_init_9 : decode cX2_init 9 = .ok (.putfield 9, 3) := by decide +kernel
theorem dX2_init_12 : decode cX2_init 12 = .ok (.aload_n 0, 1) := by decide +kernel
theorem dX2_init_13 : decode cX2_init 13 = .ok (.aload_n 1, 1) := by decide +kernel
theorem dX2_init_14 : decode cX2_init 14 = .ok (.putfield 15, 3) := by decide +kernel
theorem dX2_init_17 : decode cX2_init 17 = .ok (.aload_n 0, 1) := by decide +kernel
theorem dX2_init_18 : decode cX2_init 18 = .ok (.aload_n 2, 1) := by decide +kernel
theorem dX2_init_19 : decode cX2_init 19 = .ok (.putfield 19, 3) := by decide +kernel
theorem dX2_init_22 : decode cX2_init 22 = .ok (.aload_n 0, 1) := by decide +kernel
theorem dX2_init_23 : decode cX2_init 23 = .ok (.aload_n 3, 1) := by decide +kernel
theorem dX2_init_24 : decode cX2_init 24 = .ok (.putfield 23, 3) := by decide +kernel
theorem dX2_init_27 : decode cX2_init 27 = .ok (.return_, 1) := by decide +kernel
theorem dX2_days_0 : decode cX2_days 0 = .ok (.aload_n 0, 1) := by decide +kernel
theorem dX2_days_1 : decode cX2_days 1 = .ok (.getfield 23, 3) := by decide +kernel
theorem dX2_days_4 : decode cX2_days 4 = .ok (.getfield 27, 3) := by decide +kernel
theorem dX2_days_7 : decode cX2_days 7 = .ok (.aload_n 0, 1) := by decide +kernel
theorem dX2_days_8 : decode cX2_days 8 = .ok (.getfield 15, 3) := by decide +kernel
theorem dX2_days_11 : decode cX2_days 11 = .ok (.getfield 33, 3) := by decide +kernel
theorem dX2_days_14 : decode cX2_days 14 = .ok (.iconst 4, 1) := by decide +kernel
theorem dX2_days_15 : decode cX2_days 15 = .ok (.iaload, 1) := by decide +kernel
theorem dX2_days_16 : decode cX2_days 16 = .ok (.isub, 1) := by decide +kernel
theorem dX2_days_17 : decode cX2_days 17 = .ok (.iconst 1, 1) := by decide +kernel
theorem dX2_days_18 : decode cX2_days 18 = .ok (.iadd, 1) := by decide +kernel
theorem dX2_days_19 : decode cX2_days 19 = .ok (.ireturn, 1) := by decide +kernel
theorem dX2_findChance_0 : decode cX2_findChance 0 = .ok (.aload_n 0, 1) := by decide +kernel
theorem dX2_findChance_1 : decode cX2_findChance 1 = .ok (.invokevirtual 38, 3) := by decide +kernel
theorem dX2_findChance_4 : decode cX2_findChance 4 = .ok (.aload_n 0, 1) := by decide +kernel
theorem dX2_findChance_5 : decode cX2_findChance 5 = .ok (.invokevirtual 41, 3) := by decide +kernel
theorem dX2_findChance_8 : decode cX2_findChance 8 = .ok (.istore_n 2, 1) := by decide +kernel
theorem dX2_findChance_9 : decode cX2_findChance 9 = .ok (.lconst 0, 1) := by decide +kernel
theorem dX2_findChance_10 : decode cX2_findChance 10 = .ok (.lstore_n 3, 1) := by decide +kernel
theorem dX2_findChance_11 : decode cX2_findChance 11 = .ok (.iconst 0, 1) := by decide +kernel
theorem dX2_findChance_12 : decode cX2_findChance 12 = .ok (.istore 5, 2) := by decide +kernel
theorem dX2_findChance_14 : decode cX2_findChance 14 = .ok (.iload 5, 2) := by decide +kernel
theorem dX2_findChance_16 : decode cX2_findChance 16 = .ok (.iconst 1, 1) := by decide +kernel
theorem dX2_findChance_17 : decode cX2_findChance 17 = .ok (.iload_n 2, 1) := by decide +kernel
theorem dX2_findChance_18 : decode cX2_findChance 18 = .ok (.ishl, 1) := by decide +kernel
theorem dX2_findChance_19 : decode cX2_findChance 19 = .ok (.if_icmp .ge 28, 3) := by decide +kernel
theorem dX2_findChance_22 : decode cX2_findChance 22 = .ok (.aload_n 0, 1) := by decide +kernel
theorem dX2_findChance_23 : decode cX2_findChance 23 = .ok (.iload 5, 2) := by decide +kernel
theorem dX2_findChance_25 : decode cX2_findChance 25 = .ok (.invokevirtual 45, 3) := by decide +kernel
theorem dX2_findChance_28 : decode cX2_findChance 28 = .ok (.ifCond .eq 13, 3) := by decide +kernel
theorem dX2_findChance_31 : decode cX2_findChance 31 = .ok (.lload_n 3, 1) := by decide +kernel
theorem dX2_findChance_32 : decode cX2_findChance 32 = .ok (.iload 5, 2) := by decide +kernel
theorem dX2_findChance_34 : decode cX2_findChance 34 = .ok (.iload_n 2, 1) := by decide +kernel
theorem dX2_findChance_35 : decode cX2_findChance 35 = .ok (.iload_n 1, 1) := by decide +kernel
theorem dX2_findChance_36 : decode cX2_findChance 36 = .ok (.invokestatic 49, 3) := by decide +kernel
theorem dX2_findChance_39 : decode cX2_findChance 39 = .ok (.ladd, 1) := by decide +kernel
theorem dX2_findChance_40 : decode cX2_findChance 40 = .ok (.lstore_n 3, 1) := by decide +kernel
theorem dX2_findChance_41 : decode cX2_findChance 41 = .ok (.iinc 5 1, 3) := by decide +kernel
theorem dX2_findChance_44 : decode cX2_findChance 44 = .ok (.goto (-30), 3) := by decide +kernel
theorem dX2_findChance_47 : decode cX2_findChance 47 = .ok (.aload_n 0, 1) := by decide +kernel
theorem dX2_findChance_48 : decode cX2_findChance 48 = .ok (.lload_n 3, 1) := by decide +kernel
theorem dX2_findChance_49 : decode cX2_findChance 49 = .ok (.ldc2_w 53, 3) := by decide +kernel
theorem dX2_findChance_52 : decode cX2_findChance 52 = .ok (.iload_n 2, 1) := by decide +kernel
theorem dX2_findChance_53 : decode cX2_findChance 53 = .ok (.invokestatic 55, 3) := by decide +kernel
theorem dX2_findChance_56 : decode cX2_findChance 56 = .ok (.invokevirtual 59, 3) := by decide +kernel
theorem dX2_findChance_59 : decode cX2_findChance 59 = .ok (.return_, 1) := by decide +kernel
theorem dX2_findMean_0 : decode cX2_findMean 0 = .ok (.aload_n 0, 1) := by decide +kernel
theorem dX2_findMean_1 : decode cX2_findMean 1 = .ok (.invokevirtual 38, 3) := by decide +kernel
theorem dX2_findMean_4 : decode cX2_findMean 4 = .ok (.lconst 0, 1) := by decide +kernel
theorem dX2_findMean_5 : decode cX2_findMean 5 = .ok (.lstore_n 2, 1) := by decide +kernel
theorem dX2_findMean_6 : decode cX2_findMean 6 = .ok (.iconst 0, 1) := by decide +kernel
theorem dX2_findMean_7 : decode cX2_findMean 7 = .ok (.istore 4, 2) := by decide +kernel
theorem dX2_findMean_9 : decode cX2_findMean 9 = .ok (.iload 4, 2) := by decide +kernel
theorem dX2_findMean_11 : decode cX2_findMean 11 = .ok (.aload_n 0, 1) := by decide +kernel
theorem dX2_findMean_12 : decode cX2_findMean 12 = .ok (.getfield 19, 3) := by decide +kernel
theorem dX2_findMean_15 : decode cX2_findMean 15 = .ok (.getfield 63, 3) := by decide +kernel
theorem dX2_findMean_18 : decode cX2_findMean 18 = .ok (.if_icmp .ge 38, 3) := by decide +kernel
theorem dX2_findMean_21 : decode cX2_findMean 21 = .ok (.lload_n 2, 1) := by decide +kernel
theorem dX2_findMean_22 : decode cX2_findMean 22 = .ok (.aload_n 0, 1) := by decide +kernel
theorem dX2_findMean_23 : decode cX2_findMean 23 = .ok (.getfield 23, 3) := by decide +kernel
theorem dX2_findMean_26 : decode cX2_findMean 26 = .ok (.getfield 68, 3) := by decide +kernel
theorem dX2_findMean_29 : decode cX2_findMean 29 = .ok (.iload 4, 2) := by decide +kernel
theorem dX2_findMean_31 : decode cX2_findMean 31 = .ok (.iaload, 1) := by decide +kernel
theorem dX2_findMean_32 : decode cX2_findMean 32 = .ok (.bipush 10, 2) := by decide +kernel
theorem dX2_findMean_34 : decode cX2_findMean 34 = .ok (.iload_n 1, 1) := by decide +kernel
theorem dX2_findMean_35 : decode cX2_findMean 35 = .ok (.isub, 1) := by decide +kernel
theorem dX2_findMean_36 : decode cX2_findMean 36 = .ok (.imul, 1) := by decide +kernel
theorem dX2_findMean_37 : decode cX2_findMean 37 = .ok (.aload_n 0, 1) := by decide +kernel
theorem dX2_findMean_38 : decode cX2_findMean 38 = .ok (.getfield 9, 3) := by decide +kernel
theorem dX2_findMean_41 : decode cX2_findMean 41 = .ok (.iload 4, 2) := by decide +kernel
theorem dX2_findMean_43 : decode cX2_findMean 43 = .ok (.iaload, 1) := by decide +kernel
theorem dX2_findMean_44 : decode cX2_findMean 44 = .ok (.iload_n 1, 1) := by decide +kernel
theorem dX2_findMean_45 : decode cX2_findMean 45 = .ok (.imul, 1) := by decide +kernel
theorem dX2_findMean_46 : decode cX2_findMean 46 = .ok (.iadd, 1) := by decide +kernel
theorem dX2_findMean_47 : decode cX2_findMean 47 = .ok (.i2l, 1) := by decide +kernel
theorem dX2_findMean_48 : decode cX2_findMean 48 = .ok (.ladd, 1) := by decide +kernel
theorem dX2_findMean_49 : decode cX2_findMean 49 = .ok (.lstore_n 2, 1) := by decide +kernel
theorem dX2_findMean_50 : decode cX2_findMean 50 = .ok (.iinc 4 1, 3) := by decide +kernel
theorem dX2_findMean_53 : decode cX2_findMean 53 = .ok (.goto (-44), 3) := by decide +kernel
theorem dX2_findMean_56 : decode cX2_findMean 56 = .ok (.aload_n 0, 1) := by decide +kernel
theorem dX2_findMean_57 : decode cX2_findMean 57 = .ok (.lload_n 2, 1) := by decide +kernel
theorem dX2_findMean_58 : decode cX2_findMean 58 = .ok (.ldc2_w 53, 3) := by decide +kernel
theorem dX2_findMean_61 : decode cX2_findMean 61 = .ok (.invokevirtual 59, 3) := by decide +kernel
theorem dX2_findMean_64 : decode cX2_findMean 64 = .ok (.return_, 1) := by decide +kernel
theorem dX2_ready_0 : decode cX2_ready 0 = .ok (.iconst 0, 1) := by decide +kernel
theorem dX2_ready_1 : decode cX2_ready 1 = .ok (.istore_n 1, 1) := by decide +kernel
theorem dX2_ready_2 : decode cX2_ready 2 = .ok (.iload_n 1, 1) := by decide +kernel
theorem dX2_ready_3 : decode cX2_ready 3 = .ok (.aload_n 0, 1) := by decide +kernel
theorem dX2_ready_4 : decode cX2_ready 4 = .ok (.getfield 19, 3) := by decide +kernel
theorem dX2_ready_7 : decode cX2_ready 7 = .ok (.getfield 63, 3) := by decide +kernel
theorem dX2_ready_10 : decode cX2_ready 10 = .ok (.if_icmp .ge 76, 3) := by decide +kernel
theorem dX2_ready_13 : decode cX2_ready 13 = .ok (.aload_n 0, 1) := by decide +kernel
theorem dX2_ready_14 : decode cX2_ready 14 = .ok (.getfield 19, 3) := by decide +kernel
theorem dX2_ready_17 : decode cX2_ready 17 = .ok (.getfield 71, 3) := by decide +kernel
theorem dX2_ready_20 : decode cX2_ready 20 = .ok (.iload_n 1, 1) := by decide +kernel
theorem dX2_ready_21 : decode cX2_ready 21 = .ok (.iaload, 1) := by decide +kernel
theorem dX2_ready_22 : decode cX2_ready 22 = .ok (.istore_n 2, 1) := by decide +kernel
theorem dX2_ready_23 : decode cX2_ready 23 = .ok (.aload_n 0, 1) := by decide +kernel
theorem dX2_ready_24 : decode cX2_ready 24 = .ok (.getfield 15, 3) := by decide +kernel
theorem dX2_ready_27 : decode cX2_ready 27 = .ok (.aload_n 0, 1) := by decide +kernel
theorem dX2_ready_28 : decode cX2_ready 28 = .ok (.getfield 23, 3) := by decide +kernel
theorem dX2_ready_31 : decode cX2_ready 31 = .ok (.getfield 74, 3) := by decide +kernel
theorem dX2_ready_34 : decode cX2_ready 34 = .ok (.iload_n 1, 1) := by decide +kernel
theorem dX2_ready_35 : decode cX2_ready 35 = .ok (.iaload, 1) := by decide +kernel
theorem dX2_ready_36 : decode cX2_ready 36 = .ok (.iconst 2, 1) := by decide +kernel
theorem dX2_ready_37 : decode cX2_ready 37 = .ok (.invokevirtual 76, 3) := by decide +kernel
theorem dX2_ready_40 : decode cX2_ready 40 = .ok (.istore_n 3, 1) := by decide +kernel
theorem dX2_ready_41 : decode cX2_ready 41 = .ok (.aload_n 0, 1) := by decide +kernel
theorem dX2_ready_42 : decode cX2_ready 42 = .ok (.getfield 9, 3) := by decide +kernel
theorem dX2_ready_45 : decode cX2_ready 45 = .ok (.iload_n 1, 1) := by decide +kernel
theorem dX2_ready_46 : decode cX2_ready 46 = .ok (.aload_n 0, 1) := by decide +kernel
theorem dX2_ready_47 : decode cX2_ready 47 = .ok (.getfield 15, 3) := by decide +kernel
theorem dX2_ready_50 : decode cX2_ready 50 = .ok (.iload_n 2, 1) := by decide +kernel
theorem dX2_ready_51 : decode cX2_ready 51 = .ok (.invokevirtual 80, 3) := by decide +kernel
theorem dX2_ready_54 : decode cX2_ready 54 = .ok (.ifCond .eq 24, 3) := by decide +kernel
theorem dX2_ready_57 : decode cX2_ready 57 = .ok (.aload_n 0, 1) := by decide +kernel
theorem dX2_ready_58 : decode cX2_ready 58 = .ok (.getfield 15, 3) := by decide +kernel
theorem dX2_ready_61 : decode cX2_ready 61 = .ok (.iload_n 2, 1) := by decide +kernel
theorem dX2_ready_62 : decode cX2_ready 62 = .ok (.iload_n 3, 1) := by decide +kernel
theorem dX2_ready_63 : decode cX2_ready 63 = .ok (.aload_n 0, 1) := by decide +kernel
theorem dX2_ready_64 : decode cX2_ready 64 = .ok (.getfield 19, 3) := by decide +kernel
theorem dX2_ready_67 : decode cX2_ready 67 = .ok (.getfield 83, 3) := by decide +kernel
theorem dX2_ready_70 : decode cX2_ready 70 = .ok (.iload_n 1, 1) := by decide +kernel
theorem dX2_ready_71 : decode cX2_ready 71 = .ok (.iaload, 1) := by decide +kernel
theorem dX2_ready_72 : decode cX2_ready 72 = .ok (.invokevirtual 86, 3) := by decide +kernel
theorem dX2_ready_75 : decode cX2_ready 75 = .ok (.goto 4, 3) := by decide +kernel
theorem dX2_ready_78 : decode cX2_ready 78 = .ok (.iconst 0, 1) := by decide +kernel
theorem dX2_ready_79 : decode cX2_ready 79 = .ok (.iastore, 1) := by decide +kernel
theorem dX2_ready_80 : decode cX2_ready 80 = .ok (.iinc 1 1, 3) := by decide +kernel
theorem dX2_ready_83 : decode cX2_ready 83 = .ok (.goto (-81), 3) := by decide +kernel
theorem dX2_ready_86 : decode cX2_ready 86 = .ok (.return_, 1) := by decide +kernel
theorem dX2_lasts_0 : decode cX2_lasts 0 = .ok (.aload_n 0, 1) := by decide +kernel
theorem dX2_lasts_1 : decode cX2_lasts 1 = .ok (.getfield 15, 3) := by decide +kernel
theorem dX2_lasts_4 : decode cX2_lasts 4 = .ok (.getfield 33, 3) := by decide +kernel
theorem dX2_lasts_7 : decode cX2_lasts 7 = .ok (.iconst 0, 1) := by decide +kernel
theorem dX2_lasts_8 : decode cX2_lasts 8 = .ok (.iaload, 1) := by decide +kernel
theorem dX2_lasts_9 : decode cX2_lasts 9 = .ok (.istore_n 2, 1) := by decide +kernel
theorem dX2_lasts_10 : decode cX2_lasts 10 = .ok (.iconst 0, 1) := by decide +kernel
theorem dX2_lasts_11 : decode cX2_lasts 11 = .ok (.istore_n 3, 1) := by decide +kernel
theorem dX2_lasts_12 : decode cX2_lasts 12 = .ok (.iload_n 3, 1) := by decide +kernel
theorem dX2_lasts_13 : decode cX2_lasts 13 = .ok (.aload_n 0, 1) := by decide +kernel
theorem dX2_lasts_14 : decode cX2_lasts 14 = .ok (.getfield 19, 3) := by decide +kernel
theorem dX2_lasts_17 : decode cX2_lasts 17 = .ok (.getfield 63, 3) := by decide +kernel
theorem dX2_lasts_20 : decode cX2_lasts 20 = .ok (.if_icmp .ge 93, 3) := by decide +kernel
theorem dX2_lasts_23 : decode cX2_lasts 23 = .ok (.aload_n 0, 1) := by decide +kernel
theorem dX2_lasts_24 : decode cX2_lasts 24 = .ok (.getfield 23, 3) := by decide +kernel
theorem dX2_lasts_27 : decode cX2_lasts 27 = .ok (.getfield 74, 3) := by decide +kernel
theorem dX2_lasts_30 : decode cX2_lasts 30 = .ok (.iload_n 3, 1) := by decide +kernel
theorem dX2_lasts_31 : decode cX2_lasts 31 = .ok (.iaload, 1) := by decide +kernel
theorem dX2_lasts_32 : decode cX2_lasts 32 = .ok (.aload_n 0, 1) := by decide +kernel
theorem dX2_lasts_33 : decode cX2_lasts 33 = .ok (.getfield 15, 3) := by decide +kernel
theorem dX2_lasts_36 : decode cX2_lasts 36 = .ok (.getfield 33, 3) := by decide +kernel
theorem dX2_lasts_39 : decode cX2_lasts 39 = .ok (.iconst 4, 1) := by decide +kernel
theorem dX2_lasts_40 : decode cX2_lasts 40 = .ok (.iaload, 1) := by decide +kernel
theorem dX2_lasts_41 : decode cX2_lasts 41 = .ok (.isub, 1) := by decide +kernel
theorem dX2_lasts_42 : decode cX2_lasts 42 = .ok (.istore 4, 2) := by decide +kernel
theorem dX2_lasts_44 : decode cX2_lasts 44 = .ok (.iload_n 2, 1) := by decide +kernel
theorem dX2_lasts_45 : decode cX2_lasts 45 = .ok (.iload_n 1, 1) := by decide +kernel
theorem dX2_lasts_46 : decode cX2_lasts 46 = .ok (.iload 4, 2) := by decide +kernel
theorem dX2_lasts_48 : decode cX2_lasts 48 = .ok (.ishr, 1) := by decide +kernel
theorem dX2_lasts_49 : decode cX2_lasts 49 = .ok (.iconst 1, 1) := by decide +kernel
theorem dX2_lasts_50 : decode cX2_lasts 50 = .ok (.iand, 1) := by decide +kernel
theorem dX2_lasts_51 : decode cX2_lasts 51 = .ok (.iconst 1, 1) := by decide +kernel
theorem dX2_lasts_52 : decode cX2_lasts 52 = .ok (.if_icmp .ne 12, 3) := by decide +kernel
theorem dX2_lasts_55 : decode cX2_lasts 55 = .ok (.aload_n 0, 1) := by decide +kernel
theorem dX2_lasts_56 : decode cX2_lasts 56 = .ok (.getfield 9, 3) := by decide +kernel
theorem dX2_lasts_59 : decode cX2_lasts 59 = .ok (.iload_n 3, 1) := by decide +kernel
theorem dX2_lasts_60 : decode cX2_lasts 60 = .ok (.iaload, 1) := by decide +kernel
theorem dX2_lasts_61 : decode cX2_lasts 61 = .ok (.goto 12, 3) := by decide +kernel
theorem dX2_lasts_64 : decode cX2_lasts 64 = .ok (.aload_n 0, 1) := by decide +kernel
theorem dX2_lasts_65 : decode cX2_lasts 65 = .ok (.getfield 23, 3) := by decide +kernel
theorem dX2_lasts_68 : decode cX2_lasts 68 = .ok (.getfield 68, 3) := by decide +kernel
theorem dX2_lasts_71 : decode cX2_lasts 71 = .ok (.iload_n 3, 1) := by decide +kernel
theorem dX2_lasts_72 : decode cX2_lasts 72 = .ok (.iaload, 1) := by decide +kernel
theorem dX2_lasts_73 : decode cX2_lasts 73 = .ok (.isub, 1) := by decide +kernel
theorem dX2_lasts_74 : decode cX2_lasts 74 = .ok (.istore_n 2, 1) := by decide +kernel
theorem dX2_lasts_75 : decode cX2_lasts 75 = .ok (.iload_n 2, 1) := by decide +kernel
theorem dX2_lasts_76 : decode cX2_lasts 76 = .ok (.ifCond .ge 5, 3) := by decide +kernel
theorem dX2_lasts_79 : decode cX2_lasts 79 = .ok (.iconst 0, 1) := by decide +kernel
theorem dX2_lasts_80 : decode cX2_lasts 80 = .ok (.ireturn, 1) := by decide +kernel
theorem dX2_lasts_81 : decode cX2_lasts 81 = .ok (.aload_n 0, 1) := by decide +kernel
theorem dX2_lasts_82 : decode cX2_lasts 82 = .ok (.getfield 19, 3) := by decide +kernel
theorem dX2_lasts_85 : decode cX2_lasts 85 = .ok (.getfield 71, 3) := by decide +kernel
theorem dX2_lasts_88 : decode cX2_lasts 88 = .ok (.iload_n 3, 1) := by decide +kernel
theorem dX2_lasts_89 : decode cX2_lasts 89 = .ok (.iaload, 1) := by decide +kernel
theorem dX2_lasts_90 : decode cX2_lasts 90 = .ok (.bipush 8, 2) := by decide +kernel
theorem dX2_lasts_92 : decode cX2_lasts 92 = .ok (.if_icmp .ne 15, 3) := by decide +kernel
theorem dX2_lasts_95 : decode cX2_lasts 95 = .ok (.iload_n 2, 1) := by decide +kernel
theorem dX2_lasts_96 : decode cX2_lasts 96 = .ok (.sipush 1000, 3) := by decide +kernel
theorem dX2_lasts_99 : decode cX2_lasts 99 = .ok (.iadd, 1) := by decide +kernel
theorem dX2_lasts_100 : decode cX2_lasts 100 = .ok (.sipush 4000, 3) := by decide +kernel
theorem dX2_lasts_103 : decode cX2_lasts 103 = .ok (.invokestatic 90, 3) := by decide +kernel
theorem dX2_lasts_106 : decode cX2_lasts 106 = .ok (.istore_n 2, 1) := by decide +kernel
theorem dX2_lasts_107 : decode cX2_lasts 107 = .ok (.iinc 3 1, 3) := by decide +kernel
theorem dX2_lasts_110 : decode cX2_lasts 110 = .ok (.goto (-98), 3) := by decide +kernel
theorem dX2_lasts_113 : decode cX2_lasts 113 = .ok (.iconst 1, 1) := by decide +kernel
theorem dX2_lasts_114 : decode cX2_lasts 114 = .ok (.ireturn, 1) := by decide +kernel
theorem dX2_weight_0 : decode cX2_weight 0 = .ok (.iload_n 0, 1) := by decide +kernel
theorem dX2_weight_1 : decode cX2_weight 1 = .ok (.invokestatic 95, 3) := by decide +kernel
theorem dX2_weight_4 : decode cX2_weight 4 = .ok (.istore_n 3, 1) := by decide +kernel
theorem dX2_weight_5 : decode cX2_weight 5 = .ok (.iload_n 2, 1) := by decide +kernel
theorem dX2_weight_6 : decode cX2_weight 6 = .ok (.i2l, 1) := by decide +kernel
theorem dX2_weight_7 : decode cX2_weight 7 = .ok (.iload_n 3, 1) := by decide +kernel
theorem dX2_weight_8 : decode cX2_weight 8 = .ok (.invokestatic 55, 3) := by decide +kernel
theorem dX2_weight_11 : decode cX2_weight 11 = .ok (.bipush 10, 2) := by decide +kernel
theorem dX2_weight_13 : decode cX2_weight 13 = .ok (.iload_n 2, 1) := by decide +kernel
theorem dX2_weight_14 : decode cX2_weight 14 = .ok (.isub, 1) := by decide +kernel
theorem dX2_weight_15 : decode cX2_weight 15 = .ok (.i2l, 1) := by decide +kernel
theorem dX2_weight_16 : decode cX2_weight 16 = .ok (.iload_n 1, 1) := by decide +kernel
theorem dX2_weight_17 : decode cX2_weight 17 = .ok (.iload_n 3, 1) := by decide +kernel
theorem dX2_weight_18 : decode cX2_weight 18 = .ok (.isub, 1) := by decide +kernel
theorem dX2_weight_19 : decode cX2_weight 19 = .ok (.invokestatic 55, 3) := by decide +kernel
theorem dX2_weight_22 : decode cX2_weight 22 = .ok (.lmul, 1) := by decide +kernel
theorem dX2_weight_23 : decode cX2_weight 23 = .ok (.lreturn, 1) := by decide +kernel
theorem dX2_power_0 : decode cX2_power 0 = .ok (.lconst 1, 1) := by decide +kernel
theorem dX2_power_1 : decode cX2_power 1 = .ok (.lstore_n 3, 1) := by decide +kernel
theorem dX2_power_2 : decode cX2_power 2 = .ok (.iconst 0, 1) := by decide +kernel
theorem dX2_power_3 : decode cX2_power 3 = .ok (.istore 5, 2) := by decide +kernel
theorem dX2_power_5 : decode cX2_power 5 = .ok (.iload 5, 2) := by decide +kernel
theorem dX2_power_7 : decode cX2_power 7 = .ok (.iload_n 2, 1) := by decide +kernel
theorem dX2_power_8 : decode cX2_power 8 = .ok (.if_icmp .ge 13, 3) := by decide +kernel
theorem dX2_power_11 : decode cX2_power 11 = .ok (.lload_n 3, 1) := by decide +kernel
theorem dX2_power_12 : decode cX2_power 12 = .ok (.lload_n 0, 1) := by decide +kernel
theorem dX2_power_13 : decode cX2_power 13 = .ok (.lmul, 1) := by decide +kernel
theorem dX2_power_14 : decode cX2_power 14 = .ok (.lstore_n 3, 1) := by decide +kernel
theorem dX2_power_15 : decode cX2_power 15 = .ok (.iinc 5 1, 3) := by decide +kernel
theorem dX2_power_18 : decode cX2_power 18 = .ok (.goto (-13), 3) := by decide +kernel
theorem dX2_power_21 : decode cX2_power 21 = .ok (.lload_n 3, 1) := by decide +kernel
theorem dX2_power_22 : decode cX2_power 22 = .ok (.lreturn, 1) := by decide +kernel
theorem dX2_reduce_0 : decode cX2_reduce 0 = .ok (.lload_n 3, 1) := by decide +kernel
theorem dX2_reduce_1 : decode cX2_reduce 1 = .ok (.lstore 5, 2) := by decide +kernel
theorem dX2_reduce_3 : decode cX2_reduce 3 = .ok (.lload_n 1, 1) := by decide +kernel
theorem dX2_reduce_4 : decode cX2_reduce 4 = .ok (.lstore 7, 2) := by decide +kernel
theorem dX2_reduce_6 : decode cX2_reduce 6 = .ok (.iconst 0, 1) := by decide +kernel
theorem dX2_reduce_7 : decode cX2_reduce 7 = .ok (.istore 9, 2) := by decide +kernel
theorem dX2_reduce_9 : decode cX2_reduce 9 = .ok (.iload 9, 2) := by decide +kernel
theorem dX2_reduce_11 : decode cX2_reduce 11 = .ok (.sipush 200, 3) := by decide +kernel
theorem dX2_reduce_14 : decode cX2_reduce 14 = .ok (.if_icmp .ge 31, 3) := by decide +kernel
theorem dX2_reduce_17 : decode cX2_reduce 17 = .ok (.lload 7, 2) := by decide +kernel
theorem dX2_reduce_19 : decode cX2_reduce 19 = .ok (.lconst 0, 1) := by decide +kernel
theorem dX2_reduce_20 : decode cX2_reduce 20 = .ok (.lcmp, 1) := by decide +kernel
theorem dX2_reduce_21 : decode cX2_reduce 21 = .ok (.ifCond .eq 24, 3) := by decide +kernel
theorem dX2_reduce_24 : decode cX2_reduce 24 = .ok (.lload 5, 2) := by decide +kernel
theorem dX2_reduce_26 : decode cX2_reduce 26 = .ok (.lload 7, 2) := by decide +kernel
theorem dX2_reduce_28 : decode cX2_reduce 28 = .ok (.lrem, 1) := by decide +kernel
theorem dX2_reduce_29 : decode cX2_reduce 29 = .ok (.lstore 10, 2) := by decide +kernel
theorem dX2_reduce_31 : decode cX2_reduce 31 = .ok (.lload 7, 2) := by decide +kernel
theorem dX2_reduce_33 : decode cX2_reduce 33 = .ok (.lstore 5, 2) := by decide +kernel
theorem dX2_reduce_35 : decode cX2_reduce 35 = .ok (.lload 10, 2) := by decide +kernel
theorem dX2_reduce_37 : decode cX2_reduce 37 = .ok (.lstore 7, 2) := by decide +kernel
theorem dX2_reduce_39 : decode cX2_reduce 39 = .ok (.iinc 9 1, 3) := by decide +kernel
theorem dX2_reduce_42 : decode cX2_reduce 42 = .ok (.goto (-33), 3) := by decide +kernel
theorem dX2_reduce_45 : decode cX2_reduce 45 = .ok (.lload 5, 2) := by decide +kernel
theorem dX2_reduce_47 : decode cX2_reduce 47 = .ok (.lconst 0, 1) := by decide +kernel
theorem dX2_reduce_48 : decode cX2_reduce 48 = .ok (.lcmp, 1) := by decide +kernel
theorem dX2_reduce_49 : decode cX2_reduce 49 = .ok (.ifCond .eq 19, 3) := by decide +kernel
theorem dX2_reduce_52 : decode cX2_reduce 52 = .ok (.aload_n 0, 1) := by decide +kernel
theorem dX2_reduce_53 : decode cX2_reduce 53 = .ok (.lload_n 1, 1) := by decide +kernel
theorem dX2_reduce_54 : decode cX2_reduce 54 = .ok (.lload 5, 2) := by decide +kernel
theorem dX2_reduce_56 : decode cX2_reduce 56 = .ok (.ldiv, 1) := by decide +kernel
theorem dX2_reduce_57 : decode cX2_reduce 57 = .ok (.putfield 101, 3) := by decide +kernel
theorem dX2_reduce_60 : decode cX2_reduce 60 = .ok (.aload_n 0, 1) := by decide +kernel
theorem dX2_reduce_61 : decode cX2_reduce 61 = .ok (.lload_n 3, 1) := by decide +kernel
theorem dX2_reduce_62 : decode cX2_reduce 62 = .ok (.lload 5, 2) := by decide +kernel
theorem dX2_reduce_64 : decode cX2_reduce 64 = .ok (.ldiv, 1) := by decide +kernel
theorem dX2_reduce_65 : decode cX2_reduce 65 = .ok (.putfield 105, 3) := by decide +kernel
theorem dX2_reduce_68 : decode cX2_reduce 68 = .ok (.return_, 1) := by decide +kernel
theorem dX3_init_0 : decode cX3_init 0 = .ok (.aload_n 0, 1) := by decide +kernel
theorem dX3_init_1 : decode cX3_init 1 = .ok (.invokespecial 3, 3) := by decide +kernel
theorem dX3_init_4 : decode cX3_init 4 = .ok (.aload_n 0, 1) := by decide +kernel
theorem dX3_init_5 : decode cX3_init 5 = .ok (.bipush 6, 2) := by decide +kernel
theorem dX3_init_7 : decode cX3_init 7 = .ok (.newarray .int, 2) := by decide +kernel
theorem dX3_init_9 : decode cX3_init 9 = .ok (.putfield 9, 3) := by decide +kernel
theorem dX3_init_12 : decode cX3_init 12 = .ok (.aload_n 0, 1) := by decide +kernel
theorem dX3_init_13 : decode cX3_init 13 = .ok (.bipush 6, 2) := by decide +kernel
theorem dX3_init_15 : decode cX3_init 15 = .ok (.newarray .int, 2) := by decide +kernel
theorem dX3_init_17 : decode cX3_init 17 = .ok (.putfield 15, 3) := by decide +kernel
theorem dX3_init_20 : decode cX3_init 20 = .ok (.aload_n 0, 1) := by decide +kernel
theorem dX3_init_21 : decode cX3_init 21 = .ok (.bipush 6, 2) := by decide +kernel
theorem dX3_init_23 : decode cX3_init 23 = .ok (.newarray .int, 2) := by decide +kernel
theorem dX3_init_25 : decode cX3_init 25 = .ok (.putfield 18, 3) := by decide +kernel
theorem dX3_init_28 : decode cX3_init 28 = .ok (.aload_n 0, 1) := by decide +kernel
theorem dX3_init_29 : decode cX3_init 29 = .ok (.iconst 5, 1) := by decide +kernel
theorem dX3_init_30 : decode cX3_init 30 = .ok (.newarray .int, 2) := by decide +kernel
theorem dX3_init_32 : decode cX3_init 32 = .ok (.putfield 21, 3) := by decide +kernel
theorem dX3_init_35 : decode cX3_init 35 = .ok (.aload_n 0, 1) := by decide +kernel
theorem dX3_init_36 : decode cX3_init 36 = .ok (.aload_n 1, 1) := by decide +kernel
theorem dX3_init_37 : decode cX3_init 37 = .ok (.putfield 24, 3) := by decide +kernel
theorem dX3_init_40 : decode cX3_init 40 = .ok (.return_, 1) := by decide +kernel
theorem dX3_read_0 : decode cX3_read 0 = .ok (.iload_n 1, 1) := by decide +kernel
theorem dX3_read_1 : decode cX3_read 1 = .ok (.istore_n 2, 1) := by decide +kernel
theorem dX3_read_2 : decode cX3_read 2 = .ok (.aload_n 0, 1) := by decide +kernel
theorem dX3_read_3 : decode cX3_read 3 = .ok (.iconst 0, 1) := by decide +kernel
theorem dX3_read_4 : decode cX3_read 4 = .ok (.putfield 28, 3) := by decide +kernel
theorem dX3_read_7 : decode cX3_read 7 = .ok (.iconst 5, 1) := by decide +kernel
theorem dX3_read_8 : decode cX3_read 8 = .ok (.istore_n 3, 1) := by decide +kernel
theorem dX3_read_9 : decode cX3_read 9 = .ok (.iload_n 3, 1) := by decide +kernel
theorem dX3_read_10 : decode cX3_read 10 = .ok (.ifCond .lt 39, 3) := by decide +kernel
theorem dX3_read_13 : decode cX3_read 13 = .ok (.aload_n 0, 1) := by decide +kernel
theorem dX3_read_14 : decode cX3_read 14 = .ok (.getfield 9, 3) := by decide +kernel
theorem dX3_read_17 : decode cX3_read 17 = .ok (.iload_n 3, 1) := by decide +kernel
theorem dX3_read_18 : decode cX3_read 18 = .ok (.iload_n 2, 1) := by decide +kernel
theorem dX3_read_19 : decode cX3_read 19 = .ok (.bipush 10, 2) := by decide +kernel
theorem dX3_read_21 : decode cX3_read 21 = .ok (.irem, 1) := by decide +kernel
theorem dX3_read_22 : decode cX3_read 22 = .ok (.iastore, 1) := by decide +kernel
theorem dX3_read_23 : decode cX3_read 23 = .ok (.aload_n 0, 1) := by decide +kernel
theorem dX3_read_24 : decode cX3_read 24 = .ok (.dup, 1) := by decide +kernel
theorem dX3_read_25 : decode cX3_read 25 = .ok (.getfield 28, 3) := by decide +kernel
theorem dX3_read_28 : decode cX3_read 28 = .ok (.aload_n 0, 1) := by decide +kernel
theorem dX3_read_29 : decode cX3_read 29 = .ok (.getfield 9, 3) := by decide +kernel
theorem dX3_read_32 : decode cX3_read 32 = .ok (.iload_n 3, 1) := by decide +kernel
theorem dX3_read_33 : decode cX3_read 33 = .ok (.iaload, 1) := by decide +kernel
theorem dX3_read_34 : decode cX3_read 34 = .ok (.iadd, 1) := by decide +kernel
theorem dX3_read_35 : decode cX3_read 35 = .ok (.putfield 28, 3) := by decide +kernel
theorem dX3_read_38 : decode cX3_read 38 = .ok (.iload_n 2, 1) := by decide +kernel
theorem dX3_read_39 : decode cX3_read 39 = .ok (.bipush 10, 2) := by decide +kernel
theorem dX3_read_41 : decode cX3_read 41 = .ok (.idiv, 1) := by decide +kernel
theorem dX3_read_42 : decode cX3_read 42 = .ok (.istore_n 2, 1) := by decide +kernel
theorem dX3_read_43 : decode cX3_read 43 = .ok (.iinc 3 (-1), 3) := by decide +kernel
theorem dX3_read_46 : decode cX3_read 46 = .ok (.goto (-37), 3) := by decide +kernel
theorem dX3_read_49 : decode cX3_read 49 = .ok (.return_, 1) := by decide +kernel
theorem dX3_isOfMealsThatAre_0 : decode cX3_isOfMealsThatAre 0 = .ok (.iconst 0, 1) := by decide +kernel
theorem dX3_isOfMealsThatAre_1 : decode cX3_isOfMealsThatAre 1 = .ok (.istore_n 1, 1) := by decide +kernel
theorem dX3_isOfMealsThatAre_2 : decode cX3_isOfMealsThatAre 2 = .ok (.iload_n 1, 1) := by decide +kernel
theorem dX3_isOfMealsThatAre_3 : decode cX3_isOfMealsThatAre 3 = .ok (.bipush 6, 2) := by decide +kernel
theorem dX3_isOfMealsThatAre_5 : decode cX3_isOfMealsThatAre 5 = .ok (.if_icmp .ge 31, 3) := by decide +kernel
theorem dX3_isOfMealsThatAre_8 : decode cX3_isOfMealsThatAre 8 = .ok (.aload_n 0, 1) := by decide +kernel
theorem dX3_isOfMealsThatAre_9 : decode cX3_isOfMealsThatAre 9 = .ok (.getfield 9, 3) := by decide +kernel
theorem dX3_isOfMealsThatAre_12 : decode cX3_isOfMealsThatAre 12 = .ok (.iload_n 1, 1) := by decide +kernel
theorem dX3_isOfMealsThatAre_13 : decode cX3_isOfMealsThatAre 13 = .ok (.iaload, 1) := by decide +kernel
theorem dX3_isOfMealsThatAre_14 : decode cX3_isOfMealsThatAre 14 = .ok (.ifCond .le 16, 3) := by decide +kernel
theorem dX3_isOfMealsThatAre_17 : decode cX3_isOfMealsThatAre 17 = .ok (.aload_n 0, 1) := by decide +kernel
theorem dX3_isOfMealsThatAre_18 : decode cX3_isOfMealsThatAre 18 = .ok (.getfield 24, 3) := by decide +kernel
theorem dX3_isOfMealsThatAre_21 : decode cX3_isOfMealsThatAre 21 = .ok (.iload_n 1, 1) := by decide +kernel
theorem dX3_isOfMealsThatAre_22 : decode cX3_isOfMealsThatAre 22 = .ok (.invokevirtual 32, 3) := by decide +kernel
theorem dX3_isOfMealsThatAre_25 : decode cX3_isOfMealsThatAre 25 = .ok (.ifCond .ne 5, 3) := by decide +kernel
theorem dX3_isOfMealsThatAre_28 : decode cX3_isOfMealsThatAre 28 = .ok (.iconst 0, 1) := by decide +kernel
theorem dX3_isOfMealsThatAre_29 : decode cX3_isOfMealsThatAre 29 = .ok (.ireturn, 1) := by decide +kernel
theorem dX3_isOfMealsThatAre_30 : decode cX3_isOfMealsThatAre 30 = .ok (.iinc 1 1, 3) := by decide +kernel
theorem dX3_isOfMealsThatAre_33 : decode cX3_isOfMealsThatAre 33 = .ok (.goto (-31), 3) := by decide +kernel
theorem dX3_isOfMealsThatAre_36 : decode cX3_isOfMealsThatAre 36 = .ok (.iconst 1, 1) := by decide +kernel
theorem dX3_isOfMealsThatAre_37 : decode cX3_isOfMealsThatAre 37 = .ok (.ireturn, 1) := by decide +kernel
theorem dX3_inSharedPots_0 : decode cX3_inSharedPots 0 = .ok (.iconst 0, 1) := by decide +kernel
theorem dX3_inSharedPots_1 : decode cX3_inSharedPots 1 = .ok (.istore_n 2, 1) := by decide +kernel
theorem dX3_inSharedPots_2 : decode cX3_inSharedPots 2 = .ok (.iconst 0, 1) := by decide +kernel
theorem dX3_inSharedPots_3 : decode cX3_inSharedPots 3 = .ok (.istore_n 3, 1) := by decide +kernel
theorem dX3_inSharedPots_4 : decode cX3_inSharedPots 4 = .ok (.iload_n 3, 1) := by decide +kernel
theorem dX3_inSharedPots_5 : decode cX3_inSharedPots 5 = .ok (.bipush 6, 2) := by decide +kernel
theorem dX3_inSharedPots_7 : decode cX3_inSharedPots 7 = .ok (.if_icmp .ge 59, 3) := by decide +kernel
theorem dX3_inSharedPots_10 : decode cX3_inSharedPots 10 = .ok (.aload_n 0, 1) := by decide +kernel
theorem dX3_inSharedPots_11 : decode cX3_inSharedPots 11 = .ok (.getfield 9, 3) := by decide +kernel
theorem dX3_inSharedPots_14 : decode cX3_inSharedPots 14 = .ok (.iload_n 3, 1) := by decide +kernel
theorem dX3_inSharedPots_15 : decode cX3_inSharedPots 15 = .ok (.iaload, 1) := by decide +kernel
theorem dX3_inSharedPots_16 : decode cX3_inSharedPots 16 = .ok (.ifCond .le 44, 3) := by decide +kernel
theorem dX3_inSharedPots_19 : decode cX3_inSharedPots 19 = .ok (.aload_n 0, 1) := by decide +kernel
theorem dX3_inSharedPots_20 : decode cX3_inSharedPots 20 = .ok (.getfield 24, 3) := by decide +kernel
theorem dX3_inSharedPots_23 : decode cX3_inSharedPots 23 = .ok (.iload_n 3, 1) := by decide +kernel
theorem dX3_inSharedPots_24 : decode cX3_inSharedPots 24 = .ok (.iload_n 1, 1) := by decide +kernel
theorem dX3_inSharedPots_25 : decode cX3_inSharedPots 25 = .ok (.bipush 8, 2) := by decide +kernel
theorem dX3_inSharedPots_27 : decode cX3_inSharedPots 27 = .ok (.invokevirtual 38, 3) := by decide +kernel
theorem dX3_inSharedPots_30 : decode cX3_inSharedPots 30 = .ok (.aload_n 0, 1) := by decide +kernel
theorem dX3_inSharedPots_31 : decode cX3_inSharedPots 31 = .ok (.getfield 9, 3) := by decide +kernel
theorem dX3_inSharedPots_34 : decode cX3_inSharedPots 34 = .ok (.iload_n 3, 1) := by decide +kernel
theorem dX3_inSharedPots_35 : decode cX3_inSharedPots 35 = .ok (.iaload, 1) := by decide +kernel
theorem dX3_inSharedPots_36 : decode cX3_inSharedPots 36 = .ok (.imul, 1) := by decide +kernel
theorem dX3_inSharedPots_37 : decode cX3_inSharedPots 37 = .ok (.istore 4, 2) := by decide +kernel
theorem dX3_inSharedPots_39 : decode cX3_inSharedPots 39 = .ok (.iload_n 2, 1) := by decide +kernel
theorem dX3_inSharedPots_40 : decode cX3_inSharedPots 40 = .ok (.iload 4, 2) := by decide +kernel
theorem dX3_inSharedPots_42 : decode cX3_inSharedPots 42 = .ok (.aload_n 0, 1) := by decide +kernel
theorem dX3_inSharedPots_43 : decode cX3_inSharedPots 43 = .ok (.iload_n 3, 1) := by decide +kernel
theorem dX3_inSharedPots_44 : decode cX3_inSharedPots 44 = .ok (.invokevirtual 42, 3) := by decide +kernel
theorem dX3_inSharedPots_47 : decode cX3_inSharedPots 47 = .ok (.aload_n 0, 1) := by decide +kernel
theorem dX3_inSharedPots_48 : decode cX3_inSharedPots 48 = .ok (.getfield 24, 3) := by decide +kernel
theorem dX3_inSharedPots_51 : decode cX3_inSharedPots 51 = .ok (.getfield 46, 3) := by decide +kernel
theorem dX3_inSharedPots_54 : decode cX3_inSharedPots 54 = .ok (.iload_n 3, 1) := by decide +kernel
theorem dX3_inSharedPots_55 : decode cX3_inSharedPots 55 = .ok (.iaload, 1) := by decide +kernel
theorem dX3_inSharedPots_56 : decode cX3_inSharedPots 56 = .ok (.imul, 1) := by decide +kernel
theorem dX3_inSharedPots_57 : decode cX3_inSharedPots 57 = .ok (.iadd, 1) := by decide +kernel
theorem dX3_inSharedPots_58 : decode cX3_inSharedPots 58 = .ok (.iadd, 1) := by decide +kernel
theorem dX3_inSharedPots_59 : decode cX3_inSharedPots 59 = .ok (.istore_n 2, 1) := by decide +kernel
theorem dX3_inSharedPots_60 : decode cX3_inSharedPots 60 = .ok (.iinc 3 1, 3) := by decide +kernel
theorem dX3_inSharedPots_63 : decode cX3_inSharedPots 63 = .ok (.goto (-59), 3) := by decide +kernel
theorem dX3_inSharedPots_66 : decode cX3_inSharedPots 66 = .ok (.iload_n 2, 1) := by decide +kernel
theorem dX3_inSharedPots_67 : decode cX3_inSharedPots 67 = .ok (.ireturn, 1) := by decide +kernel
theorem dX3_potsFor_0 : decode cX3_potsFor 0 = .ok (.iconst 4, 1) := by decide +kernel
theorem dX3_potsFor_1 : decode cX3_potsFor 1 = .ok (.aload_n 0, 1) := by decide +kernel
theorem dX3_potsFor_2 : decode cX3_potsFor 2 = .ok (.getfield 24, 3) := by decide +kernel
theorem dX3_potsFor_5 : decode cX3_potsFor 5 = .ok (.getfield 49, 3) := by decide +kernel
theorem dX3_potsFor_8 : decode cX3_potsFor 8 = .ok (.iload_n 1, 1) := by decide +kernel
theorem dX3_potsFor_9 : decode cX3_potsFor 9 = .ok (.iaload, 1) := by decide +kernel
theorem dX3_potsFor_10 : decode cX3_potsFor 10 = .ok (.iconst 1, 1) := by decide +kernel
theorem dX3_potsFor_11 : decode cX3_potsFor 11 = .ok (.invokestatic 52, 3) := by decide +kernel
theorem dX3_potsFor_14 : decode cX3_potsFor 14 = .ok (.idiv, 1) := by decide +kernel
theorem dX3_potsFor_15 : decode cX3_potsFor 15 = .ok (.istore_n 2, 1) := by decide +kernel
theorem dX3_potsFor_16 : decode cX3_potsFor 16 = .ok (.aload_n 0, 1) := by decide +kernel
theorem dX3_potsFor_17 : decode cX3_potsFor 17 = .ok (.getfield 9, 3) := by decide +kernel
theorem dX3_potsFor_20 : decode cX3_potsFor 20 = .ok (.iload_n 1, 1) := by decide +kernel
theorem dX3_potsFor_21 : decode cX3_potsFor 21 = .ok (.iaload, 1) := by decide +kernel
theorem dX3_potsFor_22 : decode cX3_potsFor 22 = .ok (.iload_n 2, 1) := by decide +kernel
theorem dX3_potsFor_23 : decode cX3_potsFor 23 = .ok (.iadd, 1) := by decide +kernel
theorem dX3_potsFor_24 : decode cX3_potsFor 24 = .ok (.iconst 1, 1) := by decide +kernel
theorem dX3_potsFor_25 : decode cX3_potsFor 25 = .ok (.isub, 1) := by decide +kernel
theorem dX3_potsFor_26 : decode cX3_potsFor 26 = .ok (.iload_n 2, 1) := by decide +kernel
theorem dX3_potsFor_27 : decode cX3_potsFor 27 = .ok (.iconst 1, 1) := by decide +kernel
theorem dX3_potsFor_28 : decode cX3_potsFor 28 = .ok (.invokestatic 52, 3) := by decide +kernel
theorem dX3_potsFor_31 : decode cX3_potsFor 31 = .ok (.idiv, 1) := by decide +kernel
theorem dX3_potsFor_32 : decode cX3_potsFor 32 = .ok (.ireturn, 1) := by decide +kernel
theorem dX3_mostWithin_0 : decode cX3_mostWithin 0 = .ok (.iconst 4, 1) := by decide +kernel
theorem dX3_mostWithin_1 : decode cX3_mostWithin 1 = .ok (.istore_n 3, 1) := by decide +kernel
theorem dX3_mostWithin_2 : decode cX3_mostWithin 2 = .ok (.aload_n 0, 1) := by decide +kernel
theorem dX3_mostWithin_3 : decode cX3_mostWithin 3 = .ok (.getfield 24, 3) := by decide +kernel
theorem dX3_mostWithin_6 : decode cX3_mostWithin 6 = .ok (.getfield 58, 3) := by decide +kernel
theorem dX3_mostWithin_9 : decode cX3_mostWithin 9 = .ok (.iconst 4, 1) := by decide +kernel
theorem dX3_mostWithin_10 : decode cX3_mostWithin 10 = .ok (.iaload, 1) := by decide +kernel
theorem dX3_mostWithin_11 : decode cX3_mostWithin 11 = .ok (.istore 4, 2) := by decide +kernel
theorem dX3_mostWithin_13 : decode cX3_mostWithin 13 = .ok (.iload 4, 2) := by decide +kernel
theorem dX3_mostWithin_15 : decode cX3_mostWithin 15 = .ok (.iload_n 1, 1) := by decide +kernel
theorem dX3_mostWithin_16 : decode cX3_mostWithin 16 = .ok (.if_icmp .gt 24, 3) := by decide +kernel
theorem dX3_mostWithin_19 : decode cX3_mostWithin 19 = .ok (.iload_n 3, 1) := by decide +kernel
theorem dX3_mostWithin_20 : decode cX3_mostWithin 20 = .ok (.aload_n 0, 1) := by decide +kernel
theorem dX3_mostWithin_21 : decode cX3_mostWithin 21 = .ok (.getfield 24, 3) := by decide +kernel
theorem dX3_mostWithin_24 : decode cX3_mostWithin 24 = .ok (.iload 4, 2) := by decide +kernel
theorem dX3_mostWithin_26 : decode cX3_mostWithin 26 = .ok (.iconst 0, 1) := by decide +kernel
theorem dX3_mostWithin_27 : decode cX3_mostWithin 27 = .ok (.invokevirtual 61, 3) := by decide +kernel
theorem dX3_mostWithin_30 : decode cX3_mostWithin 30 = .ok (.invokestatic 64, 3) := by decide +kernel
theorem dX3_mostWithin_33 : decode cX3_mostWithin 33 = .ok (.istore_n 3, 1) := by decide +kernel
theorem dX3_mostWithin_34 : decode cX3_mostWithin 34 = .ok (.iinc 4 1, 3) := by decide +kernel
theorem dX3_mostWithin_37 : decode cX3_mostWithin 37 = .ok (.goto (-24), 3) := by decide +kernel
theorem dX3_mostWithin_40 : decode cX3_mostWithin 40 = .ok (.iconst 0, 1) := by decide +kernel
theorem dX3_mostWithin_41 : decode cX3_mostWithin 41 = .ok (.istore 4, 2) := by decide +kernel
theorem dX3_mostWithin_43 : decode cX3_mostWithin 43 = .ok (.iload 4, 2) := by decide +kernel
theorem dX3_mostWithin_45 : decode cX3_mostWithin 45 = .ok (.bipush 6, 2) := by decide +kernel
theorem dX3_mostWithin_47 : decode cX3_mostWithin 47 = .ok (.if_icmp .ge 83, 3) := by decide +kernel
theorem dX3_mostWithin_50 : decode cX3_mostWithin 50 = .ok (.aload_n 0, 1) := by decide +kernel
theorem dX3_mostWithin_51 : decode cX3_mostWithin 51 = .ok (.getfield 15, 3) := by decide +kernel
theorem dX3_mostWithin_54 : decode cX3_mostWithin 54 = .ok (.iload 4, 2) := by decide +kernel
theorem dX3_mostWithin_56 : decode cX3_mostWithin 56 = .ok (.aload_n 0, 1) := by decide +kernel
theorem dX3_mostWithin_57 : decode cX3_mostWithin 57 = .ok (.getfield 24, 3) := by decide +kernel
theorem dX3_mostWithin_60 : decode cX3_mostWithin 60 = .ok (.iload 4, 2) := by decide +kernel
theorem dX3_mostWithin_62 : decode cX3_mostWithin 62 = .ok (.iload_n 3, 1) := by decide +kernel
theorem dX3_mostWithin_63 : decode cX3_mostWithin 63 = .ok (.iconst 0, 1) := by decide +kernel
theorem dX3_mostWithin_64 : decode cX3_mostWithin 64 = .ok (.invokevirtual 67, 3) := by decide +kernel
theorem dX3_mostWithin_67 : decode cX3_mostWithin 67 = .ok (.iastore, 1) := by decide +kernel
theorem dX3_mostWithin_68 : decode cX3_mostWithin 68 = .ok (.aload_n 0, 1) := by decide +kernel
theorem dX3_mostWithin_69 : decode cX3_mostWithin 69 = .ok (.getfield 18, 3) := by decide +kernel
theorem dX3_mostWithin_72 : decode cX3_mostWithin 72 = .ok (.iload 4, 2) := by decide +kernel
theorem dX3_mostWithin_74 : decode cX3_mostWithin 74 = .ok (.iload_n 2, 1) := by decide +kernel
theorem dX3_mostWithin_75 : decode cX3_mostWithin 75 = .ok (.ifCond .eq 27, 3) := by decide +kernel
theorem dX3_mostWithin_78 : decode cX3_mostWithin 78 = .ok (.aload_n 0, 1) := by decide +kernel
theorem dX3_mostWithin_79 : decode cX3_mostWithin 79 = .ok (.getfield 24, 3) := by decide +kernel
theorem dX3_mostWithin_82 : decode cX3_mostWithin 82 = .ok (.getfield 46, 3) := by decide +kernel
theorem dX3_mostWithin_85 : decode cX3_mostWithin 85 = .ok (.iload 4, 2) := by decide +kernel
theorem dX3_mostWithin_87 : decode cX3_mostWithin 87 = .ok (.iaload, 1) := by decide +kernel
theorem dX3_mostWithin_88 : decode cX3_mostWithin 88 = .ok (.aload_n 0, 1) := by decide +kernel
theorem dX3_mostWithin_89 : decode cX3_mostWithin 89 = .ok (.getfield 24, 3) := by decide +kernel
theorem dX3_mostWithin_92 : decode cX3_mostWithin 92 = .ok (.getfield 49, 3) := by decide +kernel
theorem dX3_mostWithin_95 : decode cX3_mostWithin 95 = .ok (.iload 4, 2) := by decide +kernel
theorem dX3_mostWithin_97 : decode cX3_mostWithin 97 = .ok (.iaload, 1) := by decide +kernel
theorem dX3_mostWithin_98 : decode cX3_mostWithin 98 = .ok (.iadd, 1) := by decide +kernel
theorem dX3_mostWithin_99 : decode cX3_mostWithin 99 = .ok (.goto 4, 3) := by decide +kernel
theorem dX3_mostWithin_102 : decode cX3_mostWithin 102 = .ok (.iconst 1, 1) := by decide +kernel
theorem dX3_mostWithin_103 : decode cX3_mostWithin 103 = .ok (.iastore, 1) := by decide +kernel
theorem dX3_mostWithin_104 : decode cX3_mostWithin 104 = .ok (.aload_n 0, 1) := by decide +kernel
theorem dX3_mostWithin_105 : decode cX3_mostWithin 105 = .ok (.getfield 24, 3) := by decide +kernel
theorem dX3_mostWithin_108 : decode cX3_mostWithin 108 = .ok (.iload 4, 2) := by decide +kernel
theorem dX3_mostWithin_110 : decode cX3_mostWithin 110 = .ok (.invokevirtual 70, 3) := by decide +kernel
theorem dX3_mostWithin_113 : decode cX3_mostWithin 113 = .ok (.ifCond .ne 11, 3) := by decide +kernel
theorem dX3_mostWithin_116 : decode cX3_mostWithin 116 = .ok (.aload_n 0, 1) := by decide +kernel
theorem dX3_mostWithin_117 : decode cX3_mostWithin 117 = .ok (.getfield 9, 3) := by decide +kernel
theorem dX3_mostWithin_120 : decode cX3_mostWithin 120 = .ok (.iload 4, 2) := by decide +kernel
theorem dX3_mostWithin_122 : decode cX3_mostWithin 122 = .ok (.iconst 0, 1) := by decide +kernel
theorem dX3_mostWithin_123 : decode cX3_mostWithin 123 = .ok (.iastore, 1) := by decide +kernel
theorem dX3_mostWithin_124 : decode cX3_mostWithin 124 = .ok (.iinc 4 1, 3) := by decide +kernel
theorem dX3_mostWithin_127 : decode cX3_mostWithin 127 = .ok (.goto (-84), 3) := by decide +kernel
theorem dX3_mostWithin_130 : decode cX3_mostWithin 130 = .ok (.iconst 0, 1) := by decide +kernel
theorem dX3_mostWithin_131 : decode cX3_mostWithin 131 = .ok (.aload_n 0, 1) := by decide +kernel
theorem dX3_mostWithin_132 : decode cX3_mostWithin 132 = .ok (.getfield 24, 3) := by decide +kernel
theorem dX3_mostWithin_135 : decode cX3_mostWithin 135 = .ok (.getfield 58, 3) := by decide +kernel
theorem dX3_mostWithin_138 : decode cX3_mostWithin 138 = .ok (.iconst 0, 1) := by decide +kernel
theorem dX3_mostWithin_139 : decode cX3_mostWithin 139 = .ok (.iaload, 1) := by decide +kernel
theorem dX3_mostWithin_140 : decode cX3_mostWithin 140 = .ok (.aload_n 0, 1) := by decide +kernel
theorem dX3_mostWithin_141 : decode cX3_mostWithin 141 = .ok (.getfield 9, 3) := by decide +kernel
theorem dX3_mostWithin_144 : decode cX3_mostWithin 144 = .ok (.aload_n 0, 1) := by decide +kernel
theorem dX3_mostWithin_145 : decode cX3_mostWithin 145 = .ok (.getfield 15, 3) := by decide +kernel
theorem dX3_mostWithin_148 : decode cX3_mostWithin 148 = .ok (.aload_n 0, 1) := by decide +kernel
theorem dX3_mostWithin_149 : decode cX3_mostWithin 149 = .ok (.getfield 18, 3) := by decide +kernel
theorem dX3_mostWithin_152 : decode cX3_mostWithin 152 = .ok (.invokestatic 73, 3) := by decide +kernel
theorem dX3_mostWithin_155 : decode cX3_mostWithin 155 = .ok (.ireturn, 1) := by decide +kernel
theorem dX3_bestFrom_0 : decode cX3_bestFrom 0 = .ok (.iload_n 0, 1) := by decide +kernel
theorem dX3_bestFrom_1 : decode cX3_bestFrom 1 = .ok (.bipush 6, 2) := by decide +kernel
theorem dX3_bestFrom_3 : decode cX3_bestFrom 3 = .ok (.if_icmp .lt 5, 3) := by decide +kernel
theorem dX3_bestFrom_6 : decode cX3_bestFrom 6 = .ok (.iconst 0, 1) := by decide +kernel
theorem dX3_bestFrom_7 : decode cX3_bestFrom 7 = .ok (.ireturn, 1) := by decide +kernel
theorem dX3_bestFrom_8 : decode cX3_bestFrom 8 = .ok (.iconst 0, 1) := by decide +kernel
theorem dX3_bestFrom_9 : decode cX3_bestFrom 9 = .ok (.istore 5, 2) := by decide +kernel
theorem dX3_bestFrom_11 : decode cX3_bestFrom 11 = .ok (.iconst 0, 1) := by decide +kernel
theorem dX3_bestFrom_12 : decode cX3_bestFrom 12 = .ok (.istore 6, 2) := by decide +kernel
theorem dX3_bestFrom_14 : decode cX3_bestFrom 14 = .ok (.iload 6, 2) := by decide +kernel
theorem dX3_bestFrom_16 : decode cX3_bestFrom 16 = .ok (.aload_n 2, 1) := by decide +kernel
theorem dX3_bestFrom_17 : decode cX3_bestFrom 17 = .ok (.iload_n 0, 1) := by decide +kernel
theorem dX3_bestFrom_18 : decode cX3_bestFrom 18 = .ok (.iaload, 1) := by decide +kernel
theorem dX3_bestFrom_19 : decode cX3_bestFrom 19 = .ok (.if_icmp .gt 56, 3) := by decide +kernel
theorem dX3_bestFrom_22 : decode cX3_bestFrom 22 = .ok (.iload 6, 2) := by decide +kernel
theorem dX3_bestFrom_24 : decode cX3_bestFrom 24 = .ok (.aload_n 3, 1) := by decide +kernel
theorem dX3_bestFrom_25 : decode cX3_bestFrom 25 = .ok (.iload_n 0, 1) := by decide +kernel
theorem dX3_bestFrom_26 : decode cX3_bestFrom 26 = .ok (.iaload, 1) := by decide +kernel
theorem dX3_bestFrom_27 : decode cX3_bestFrom 27 = .ok (.imul, 1) := by decide +kernel
theorem dX3_bestFrom_28 : decode cX3_bestFrom 28 = .ok (.iload_n 1, 1) := by decide +kernel
theorem dX3_bestFrom_29 : decode cX3_bestFrom 29 = .ok (.if_icmp .gt 46, 3) := by decide +kernel
theorem dX3_bestFrom_32 : decode cX3_bestFrom 32 = .ok (.iload_n 0, 1) := by decide +kernel
theorem dX3_bestFrom_33 : decode cX3_bestFrom 33 = .ok (.iconst 1, 1) := by decide +kernel
theorem dX3_bestFrom_34 : decode cX3_bestFrom 34 = .ok (.iadd, 1) := by decide +kernel
theorem dX3_bestFrom_35 : decode cX3_bestFrom 35 = .ok (.iload_n 1, 1) := by decide +kernel
theorem dX3_bestFrom_36 : decode cX3_bestFrom 36 = .ok (.iload 6, 2) := by decide +kernel
theorem dX3_bestFrom_38 : decode cX3_bestFrom 38 = .ok (.aload_n 3, 1) := by decide +kernel
theorem dX3_bestFrom_39 : decode cX3_bestFrom 39 = .ok (.iload_n 0, 1) := by decide +kernel
theorem dX3_bestFrom_40 : decode cX3_bestFrom 40 = .ok (.iaload, 1) := by decide +kernel
theorem dX3_bestFrom_41 : decode cX3_bestFrom 41 = .ok (.imul, 1) := by decide +kernel
theorem dX3_bestFrom_42 : decode cX3_bestFrom 42 = .ok (.isub, 1) := by decide +kernel
theorem dX3_bestFrom_43 : decode cX3_bestFrom 43 = .ok (.aload_n 2, 1) := by decide +kernel
theorem dX3_bestFrom_44 : decode cX3_bestFrom 44 = .ok (.aload_n 3, 1) := by decide +kernel
theorem dX3_bestFrom_45 : decode cX3_bestFrom 45 = .ok (.aload 4, 2) := by decide +kernel
theorem dX3_bestFrom_47 : decode cX3_bestFrom 47 = .ok (.invokestatic 73, 3) := by decide +kernel
theorem dX3_bestFrom_50 : decode cX3_bestFrom 50 = .ok (.istore 7, 2) := by decide +kernel
theorem dX3_bestFrom_52 : decode cX3_bestFrom 52 = .ok (.iload 5, 2) := by decide +kernel
theorem dX3_bestFrom_54 : decode cX3_bestFrom 54 = .ok (.iload 6, 2) := by decide +kernel
theorem dX3_bestFrom_56 : decode cX3_bestFrom 56 = .ok (.aload 4, 2) := by decide +kernel
theorem dX3_bestFrom_58 : decode cX3_bestFrom 58 = .ok (.iload_n 0, 1) := by decide +kernel
theorem dX3_bestFrom_59 : decode cX3_bestFrom 59 = .ok (.iaload, 1) := by decide +kernel
theorem dX3_bestFrom_60 : decode cX3_bestFrom 60 = .ok (.imul, 1) := by decide +kernel
theorem dX3_bestFrom_61 : decode cX3_bestFrom 61 = .ok (.iload 7, 2) := by decide +kernel
theorem dX3_bestFrom_63 : decode cX3_bestFrom 63 = .ok (.iadd, 1) := by decide +kernel
theorem dX3_bestFrom_64 : decode cX3_bestFrom 64 = .ok (.invokestatic 52, 3) := by decide +kernel
theorem dX3_bestFrom_67 : decode cX3_bestFrom 67 = .ok (.istore 5, 2) := by decide +kernel
theorem dX3_bestFrom_69 : decode cX3_bestFrom 69 = .ok (.iinc 6 1, 3) := by decide +kernel
theorem dX3_bestFrom_72 : decode cX3_bestFrom 72 = .ok (.goto (-58), 3) := by decide +kernel
theorem dX3_bestFrom_75 : decode cX3_bestFrom 75 = .ok (.iload 5, 2) := by decide +kernel
theorem dX3_bestFrom_77 : decode cX3_bestFrom 77 = .ok (.ireturn, 1) := by decide +kernel
theorem dX3_leastByTwos_0 : decode cX3_leastByTwos 0 = .ok (.iconst 0, 1) := by decide +kernel
theorem dX3_leastByTwos_1 : decode cX3_leastByTwos 1 = .ok (.istore_n 2, 1) := by decide +kernel
theorem dX3_leastByTwos_2 : decode cX3_leastByTwos 2 = .ok (.iconst 0, 1) := by decide +kernel
theorem dX3_leastByTwos_3 : decode cX3_leastByTwos 3 = .ok (.istore_n 3, 1) := by decide +kernel
theorem dX3_leastByTwos_4 : decode cX3_leastByTwos 4 = .ok (.iload_n 3, 1) := by decide +kernel
theorem dX3_leastByTwos_5 : decode cX3_leastByTwos 5 = .ok (.bipush 6, 2) := by decide +kernel
theorem dX3_leastByTwos_7 : decode cX3_leastByTwos 7 = .ok (.if_icmp .ge 52, 3) := by decide +kernel
theorem dX3_leastByTwos_10 : decode cX3_leastByTwos 10 = .ok (.aload_n 0, 1) := by decide +kernel
theorem dX3_leastByTwos_11 : decode cX3_leastByTwos 11 = .ok (.getfield 9, 3) := by decide +kernel
theorem dX3_leastByTwos_14 : decode cX3_leastByTwos 14 = .ok (.iload_n 3, 1) := by decide +kernel
theorem dX3_leastByTwos_15 : decode cX3_leastByTwos 15 = .ok (.iaload, 1) := by decide +kernel
theorem dX3_leastByTwos_16 : decode cX3_leastByTwos 16 = .ok (.ifCond .le 17, 3) := by decide +kernel
theorem dX3_leastByTwos_19 : decode cX3_leastByTwos 19 = .ok (.aload_n 0, 1) := by decide +kernel
theorem dX3_leastByTwos_20 : decode cX3_leastByTwos 20 = .ok (.getfield 24, 3) := by decide +kernel
theorem dX3_leastByTwos_23 : decode cX3_leastByTwos 23 = .ok (.iload_n 3, 1) := by decide +kernel
theorem dX3_leastByTwos_24 : decode cX3_leastByTwos 24 = .ok (.invokevirtual 70, 3) := by decide +kernel
theorem dX3_leastByTwos_27 : decode cX3_leastByTwos 27 = .ok (.ifCond .ne 6, 3) := by decide +kernel
theorem dX3_leastByTwos_30 : decode cX3_leastByTwos 30 = .ok (.bipush (-6), 2) := by decide +kernel
theorem dX3_leastByTwos_32 : decode cX3_leastByTwos 32 = .ok (.ireturn, 1) := by decide +kernel
theorem dX3_leastByTwos_33 : decode cX3_leastByTwos 33 = .ok (.iload_n 2, 1) := by decide +kernel
theorem dX3_leastByTwos_34 : decode cX3_leastByTwos 34 = .ok (.aload_n 0, 1) := by decide +kernel
theorem dX3_leastByTwos_35 : decode cX3_leastByTwos 35 = .ok (.getfield 9, 3) := by decide +kernel
theorem dX3_leastByTwos_38 : decode cX3_leastByTwos 38 = .ok (.iload_n 3, 1) := by decide +kernel
theorem dX3_leastByTwos_39 : decode cX3_leastByTwos 39 = .ok (.iaload, 1) := by decide +kernel
theorem dX3_leastByTwos_40 : decode cX3_leastByTwos 40 = .ok (.aload_n 0, 1) := by decide +kernel
theorem dX3_leastByTwos_41 : decode cX3_leastByTwos 41 = .ok (.getfield 24, 3) := by decide +kernel
theorem dX3_leastByTwos_44 : decode cX3_leastByTwos 44 = .ok (.iload_n 3, 1) := by decide +kernel
theorem dX3_leastByTwos_45 : decode cX3_leastByTwos 45 = .ok (.iconst 0, 1) := by decide +kernel
theorem dX3_leastByTwos_46 : decode cX3_leastByTwos 46 = .ok (.iconst 0, 1) := by decide +kernel
theorem dX3_leastByTwos_47 : decode cX3_leastByTwos 47 = .ok (.invokevirtual 67, 3) := by decide +kernel
theorem dX3_leastByTwos_50 : decode cX3_leastByTwos 50 = .ok (.imul, 1) := by decide +kernel
theorem dX3_leastByTwos_51 : decode cX3_leastByTwos 51 = .ok (.iadd, 1) := by decide +kernel
theorem dX3_leastByTwos_52 : decode cX3_leastByTwos 52 = .ok (.istore_n 2, 1) := by decide +kernel
theorem dX3_leastByTwos_53 : decode cX3_leastByTwos 53 = .ok (.iinc 3 1, 3) := by decide +kernel
theorem dX3_leastByTwos_56 : decode cX3_leastByTwos 56 = .ok (.goto (-52), 3) := by decide +kernel
theorem dX3_leastByTwos_59 : decode cX3_leastByTwos 59 = .ok (.aload_n 0, 1) := by decide +kernel
theorem dX3_leastByTwos_60 : decode cX3_leastByTwos 60 = .ok (.iload_n 1, 1) := by decide +kernel
theorem dX3_leastByTwos_61 : decode cX3_leastByTwos 61 = .ok (.invokevirtual 77, 3) := by decide +kernel
theorem dX3_leastByTwos_64 : decode cX3_leastByTwos 64 = .ok (.iconst 4, 1) := by decide +kernel
theorem dX3_leastByTwos_65 : decode cX3_leastByTwos 65 = .ok (.istore_n 3, 1) := by decide +kernel
theorem dX3_leastByTwos_66 : decode cX3_leastByTwos 66 = .ok (.iload_n 3, 1) := by decide +kernel
theorem dX3_leastByTwos_67 : decode cX3_leastByTwos 67 = .ok (.iconst 1, 1) := by decide +kernel
theorem dX3_leastByTwos_68 : decode cX3_leastByTwos 68 = .ok (.if_icmp .lt 85, 3) := by decide +kernel
theorem dX3_leastByTwos_71 : decode cX3_leastByTwos 71 = .ok (.aload_n 0, 1) := by decide +kernel
theorem dX3_leastByTwos_72 : decode cX3_leastByTwos 72 = .ok (.iload_n 3, 1) := by decide +kernel
theorem dX3_leastByTwos_73 : decode cX3_leastByTwos 73 = .ok (.invokevirtual 81, 3) := by decide +kernel
theorem dX3_leastByTwos_76 : decode cX3_leastByTwos 76 = .ok (.istore 4, 2) := by decide +kernel
theorem dX3_leastByTwos_78 : decode cX3_leastByTwos 78 = .ok (.iconst 0, 1) := by decide +kernel
theorem dX3_leastByTwos_79 : decode cX3_leastByTwos 79 = .ok (.istore 5, 2) := by decide +kernel
theorem dX3_leastByTwos_81 : decode cX3_leastByTwos 81 = .ok (.iload 5, 2) := by decide +kernel
theorem dX3_leastByTwos_83 : decode cX3_leastByTwos 83 = .ok (.iconst 4, 1) := by decide +kernel
theorem dX3_leastByTwos_84 : decode cX3_leastByTwos 84 = .ok (.if_icmp .gt 55, 3) := by decide +kernel
theorem dX3_leastByTwos_87 : decode cX3_leastByTwos 87 = .ok (.iload 4, 2) := by decide +kernel
theorem dX3_leastByTwos_89 : decode cX3_leastByTwos 89 = .ok (.aload_n 0, 1) := by decide +kernel
theorem dX3_leastByTwos_90 : decode cX3_leastByTwos 90 = .ok (.getfield 21, 3) := by decide +kernel
theorem dX3_leastByTwos_93 : decode cX3_leastByTwos 93 = .ok (.iload 5, 2) := by decide +kernel
theorem dX3_leastByTwos_95 : decode cX3_leastByTwos 95 = .ok (.iaload, 1) := by decide +kernel
theorem dX3_leastByTwos_96 : decode cX3_leastByTwos 96 = .ok (.invokestatic 64, 3) := by decide +kernel
theorem dX3_leastByTwos_99 : decode cX3_leastByTwos 99 = .ok (.istore 6, 2) := by decide +kernel
theorem dX3_leastByTwos_101 : decode cX3_leastByTwos 101 = .ok (.aload_n 0, 1) := by decide +kernel
theorem dX3_leastByTwos_102 : decode cX3_leastByTwos 102 = .ok (.getfield 21, 3) := by decide +kernel
theorem dX3_leastByTwos_105 : decode cX3_leastByTwos 105 = .ok (.iload 5, 2) := by decide +kernel
theorem dX3_leastByTwos_107 : decode cX3_leastByTwos 107 = .ok (.dup2, 1) := by decide +kernel
theorem dX3_leastByTwos_108 : decode cX3_leastByTwos 108 = .ok (.iaload, 1) := by decide +kernel
theorem dX3_leastByTwos_109 : decode cX3_leastByTwos 109 = .ok (.iload 6, 2) := by decide +kernel
theorem dX3_leastByTwos_111 : decode cX3_leastByTwos 111 = .ok (.isub, 1) := by decide +kernel
theorem dX3_leastByTwos_112 : decode cX3_leastByTwos 112 = .ok (.iastore, 1) := by decide +kernel
theorem dX3_leastByTwos_113 : decode cX3_leastByTwos 113 = .ok (.iload 4, 2) := by decide +kernel
theorem dX3_leastByTwos_115 : decode cX3_leastByTwos 115 = .ok (.iload 6, 2) := by decide +kernel
theorem dX3_leastByTwos_117 : decode cX3_leastByTwos 117 = .ok (.isub, 1) := by decide +kernel
theorem dX3_leastByTwos_118 : decode cX3_leastByTwos 118 = .ok (.istore 4, 2) := by decide +kernel
theorem dX3_leastByTwos_120 : decode cX3_leastByTwos 120 = .ok (.iload_n 2, 1) := by decide +kernel
theorem dX3_leastByTwos_121 : decode cX3_leastByTwos 121 = .ok (.iload 6, 2) := by decide +kernel
theorem dX3_leastByTwos_123 : decode cX3_leastByTwos 123 = .ok (.bipush 11, 2) := by decide +kernel
theorem dX3_leastByTwos_125 : decode cX3_leastByTwos 125 = .ok (.imul, 1) := by decide +kernel
theorem dX3_leastByTwos_126 : decode cX3_leastByTwos 126 = .ok (.iload_n 3, 1) := by decide +kernel
theorem dX3_leastByTwos_127 : decode cX3_leastByTwos 127 = .ok (.imul, 1) := by decide +kernel
theorem dX3_leastByTwos_128 : decode cX3_leastByTwos 128 = .ok (.iload 5, 2) := by decide +kernel
theorem dX3_leastByTwos_130 : decode cX3_leastByTwos 130 = .ok (.imul, 1) := by decide +kernel
theorem dX3_leastByTwos_131 : decode cX3_leastByTwos 131 = .ok (.iadd, 1) := by decide +kernel
theorem dX3_leastByTwos_132 : decode cX3_leastByTwos 132 = .ok (.istore_n 2, 1) := by decide +kernel
theorem dX3_leastByTwos_133 : decode cX3_leastByTwos 133 = .ok (.iinc 5 1, 3) := by decide +kernel
theorem dX3_leastByTwos_136 : decode cX3_leastByTwos 136 = .ok (.goto (-55), 3) := by decide +kernel
theorem dX3_leastByTwos_139 : decode cX3_leastByTwos 139 = .ok (.iload 4, 2) := by decide +kernel
theorem dX3_leastByTwos_141 : decode cX3_leastByTwos 141 = .ok (.ifCond .le 6, 3) := by decide +kernel
theorem dX3_leastByTwos_144 : decode cX3_leastByTwos 144 = .ok (.bipush (-6), 2) := by decide +kernel
theorem dX3_leastByTwos_146 : decode cX3_leastByTwos 146 = .ok (.ireturn, 1) := by decide +kernel
theorem dX3_leastByTwos_147 : decode cX3_leastByTwos 147 = .ok (.iinc 3 (-1), 3) := by decide +kernel
theorem dX3_leastByTwos_150 : decode cX3_leastByTwos 150 = .ok (.goto (-84), 3) := by decide +kernel
theorem dX3_leastByTwos_153 : decode cX3_leastByTwos 153 = .ok (.iload_n 2, 1) := by decide +kernel
theorem dX3_leastByTwos_154 : decode cX3_leastByTwos 154 = .ok (.ireturn, 1) := by decide +kernel
theorem dX3_countSlots_0 : decode cX3_countSlots 0 = .ok (.iconst 0, 1) := by decide +kernel
theorem dX3_countSlots_1 : decode cX3_countSlots 1 = .ok (.istore_n 2, 1) := by decide +kernel
theorem dX3_countSlots_2 : decode cX3_countSlots 2 = .ok (.iload_n 2, 1) := by decide +kernel
theorem dX3_countSlots_3 : decode cX3_countSlots 3 = .ok (.iconst 4, 1) := by decide +kernel
theorem dX3_countSlots_4 : decode cX3_countSlots 4 = .ok (.if_icmp .gt 16, 3) := by decide +kernel
theorem dX3_countSlots_7 : decode cX3_countSlots 7 = .ok (.aload_n 0, 1) := by decide +kernel
theorem dX3_countSlots_8 : decode cX3_countSlots 8 = .ok (.getfield 21, 3) := by decide +kernel
theorem dX3_countSlots_11 : decode cX3_countSlots 11 = .ok (.iload_n 2, 1) := by decide +kernel
theorem dX3_countSlots_12 : decode cX3_countSlots 12 = .ok (.iconst 0, 1) := by decide +kernel
theorem dX3_countSlots_13 : decode cX3_countSlots 13 = .ok (.iastore, 1) := by decide +kernel
theorem dX3_countSlots_14 : decode cX3_countSlots 14 = .ok (.iinc 2 1, 3) := by decide +kernel
theorem dX3_countSlots_17 : decode cX3_countSlots 17 = .ok (.goto (-15), 3) := by decide +kernel
theorem dX3_countSlots_20 : decode cX3_countSlots 20 = .ok (.aload_n 0, 1) := by decide +kernel
theorem dX3_countSlots_21 : decode cX3_countSlots 21 = .ok (.getfield 24, 3) := by decide +kernel
theorem dX3_countSlots_24 : decode cX3_countSlots 24 = .ok (.getfield 58, 3) := by decide +kernel
theorem dX3_countSlots_27 : decode cX3_countSlots 27 = .ok (.iconst 4, 1) := by decide +kernel
theorem dX3_countSlots_28 : decode cX3_countSlots 28 = .ok (.iaload, 1) := by decide +kernel
theorem dX3_countSlots_29 : decode cX3_countSlots 29 = .ok (.istore_n 2, 1) := by decide +kernel
theorem dX3_countSlots_30 : decode cX3_countSlots 30 = .ok (.iload_n 2, 1) := by decide +kernel
theorem dX3_countSlots_31 : decode cX3_countSlots 31 = .ok (.iload_n 1, 1) := by decide +kernel
theorem dX3_countSlots_32 : decode cX3_countSlots 32 = .ok (.if_icmp .gt 27, 3) := by decide +kernel
theorem dX3_countSlots_35 : decode cX3_countSlots 35 = .ok (.aload_n 0, 1) := by decide +kernel
theorem dX3_countSlots_36 : decode cX3_countSlots 36 = .ok (.getfield 21, 3) := by decide +kernel
theorem dX3_countSlots_39 : decode cX3_countSlots 39 = .ok (.aload_n 0, 1) := by decide +kernel
theorem dX3_countSlots_40 : decode cX3_countSlots 40 = .ok (.getfield 24, 3) := by decide +kernel
theorem dX3_countSlots_43 : decode cX3_countSlots 43 = .ok (.iload_n 2, 1) := by decide +kernel
theorem dX3_countSlots_44 : decode cX3_countSlots 44 = .ok (.iconst 0, 1) := by decide +kernel
theorem dX3_countSlots_45 : decode cX3_countSlots 45 = .ok (.invokevirtual 61, 3) := by decide +kernel
theorem dX3_countSlots_48 : decode cX3_countSlots 48 = .ok (.dup2, 1) := by decide +kernel
theorem dX3_countSlots_49 : decode cX3_countSlots 49 = .ok (.iaload, 1) := by decide +kernel
theorem dX3_countSlots_50 : decode cX3_countSlots 50 = .ok (.iconst 2, 1) := by decide +kernel
theorem dX3_countSlots_51 : decode cX3_countSlots 51 = .ok (.iadd, 1) := by decide +kernel
theorem dX3_countSlots_52 : decode cX3_countSlots 52 = .ok (.iastore, 1) := by decide +kernel
theorem dX3_countSlots_53 : decode cX3_countSlots 53 = .ok (.iinc 2 1, 3) := by decide +kernel
theorem dX3_countSlots_56 : decode cX3_countSlots 56 = .ok (.goto (-26), 3) := by decide +kernel
theorem dX3_countSlots_59 : decode cX3_countSlots 59 = .ok (.return_, 1) := by decide +kernel
theorem dX3_portionsOf_0 : decode cX3_portionsOf 0 = .ok (.iconst 0, 1) := by decide +kernel
theorem dX3_portionsOf_1 : decode cX3_portionsOf 1 = .ok (.istore_n 2, 1) := by decide +kernel
theorem dX3_portionsOf_2 : decode cX3_portionsOf 2 = .ok (.iconst 0, 1) := by decide +kernel
theorem dX3_portionsOf_3 : decode cX3_portionsOf 3 = .ok (.istore_n 3, 1) := by decide +kernel
theorem dX3_portionsOf_4 : decode cX3_portionsOf 4 = .ok (.iload_n 3, 1) := by decide +kernel
theorem dX3_portionsOf_5 : decode cX3_portionsOf 5 = .ok (.bipush 6, 2) := by decide +kernel
theorem dX3_portionsOf_7 : decode cX3_portionsOf 7 = .ok (.if_icmp .ge 31, 3) := by decide +kernel
theorem dX3_portionsOf_10 : decode cX3_portionsOf 10 = .ok (.aload_n 0, 1) := by decide +kernel
theorem dX3_portionsOf_11 : decode cX3_portionsOf 11 = .ok (.getfield 24, 3) := by decide +kernel
theorem dX3_portionsOf_14 : decode cX3_portionsOf 14 = .ok (.getfield 49, 3) := by decide +kernel
theorem dX3_portionsOf_17 : decode cX3_portionsOf 17 = .ok (.iload_n 3, 1) := by decide +kernel
theorem dX3_portionsOf_18 : decode cX3_portionsOf 18 = .ok (.iaload, 1) := by decide +kernel
theorem dX3_portionsOf_19 : decode cX3_portionsOf 19 = .ok (.iload_n 1, 1) := by decide +kernel
theorem dX3_portionsOf_20 : decode cX3_portionsOf 20 = .ok (.if_icmp .ne 12, 3) := by decide +kernel
theorem dX3_portionsOf_23 : decode cX3_portionsOf 23 = .ok (.iload_n 2, 1) := by decide +kernel
theorem dX3_portionsOf_24 : decode cX3_portionsOf 24 = .ok (.aload_n 0, 1) := by decide +kernel
theorem dX3_portionsOf_25 : decode cX3_portionsOf 25 = .ok (.getfield 9, 3) := by decide +kernel
theorem dX3_portionsOf_28 : decode cX3_portionsOf 28 = .ok (.iload_n 3, 1) := by decide +kernel
theorem dX3_portionsOf_29 : decode cX3_portionsOf 29 = .ok (.iaload, 1) := by decide +kernel
theorem dX3_portionsOf_30 : decode cX3_portionsOf 30 = .ok (.iadd, 1) := by decide +kernel
theorem dX3_portionsOf_31 : decode cX3_portionsOf 31 = .ok (.istore_n 2, 1) := by decide +kernel
theorem dX3_portionsOf_32 : decode cX3_portionsOf 32 = .ok (.iinc 3 1, 3) := by decide +kernel
theorem dX3_portionsOf_35 : decode cX3_portionsOf 35 = .ok (.goto (-31), 3) := by decide +kernel
theorem dX3_portionsOf_38 : decode cX3_portionsOf 38 = .ok (.iload_n 2, 1) := by decide +kernel
theorem dX3_portionsOf_39 : decode cX3_portionsOf 39 = .ok (.ireturn, 1) := by decide +kernel
theorem dX4_init_0 : decode cX4_init 0 = .ok (.aload_n 0, 1) := by decide +kernel
theorem dX4_init_1 : decode cX4_init 1 = .ok (.invokespecial 3, 3) := by decide +kernel
theorem dX4_init_4 : decode cX4_init 4 = .ok (.aload_n 0, 1) := by decide +kernel
theorem dX4_init_5 : decode cX4_init 5 = .ok (.bipush 60, 2) := by decide +kernel
theorem dX4_init_7 : decode cX4_init 7 = .ok (.newarray .int, 2) := by decide +kernel
theorem dX4_init_9 : decode cX4_init 9 = .ok (.putfield 9, 3) := by decide +kernel
theorem dX4_init_12 : decode cX4_init 12 = .ok (.aload_n 0, 1) := by decide +kernel
theorem dX4_init_13 : decode cX4_init 13 = .ok (.bipush 60, 2) := by decide +kernel
theorem dX4_init_15 : decode cX4_init 15 = .ok (.newarray .int, 2) := by decide +kernel
theorem dX4_init_17 : decode cX4_init 17 = .ok (.putfield 15, 3) := by decide +kernel
theorem dX4_init_20 : decode cX4_init 20 = .ok (.aload_n 0, 1) := by decide +kernel
theorem dX4_init_21 : decode cX4_init 21 = .ok (.bipush 60, 2) := by decide +kernel
theorem dX4_init_23 : decode cX4_init 23 = .ok (.newarray .int, 2) := by decide +kernel
theorem dX4_init_25 : decode cX4_init 25 = .ok (.putfield 18, 3) := by decide +kernel
theorem dX4_init_28 : decode cX4_init 28 = .ok (.return_, 1) := by decide +kernel
theorem dX4_read_0 : decode cX4_read 0 = .ok (.aload_n 0, 1) := by decide +kernel
theorem dX4_read_1 : decode cX4_read 1 = .ok (.iconst 0, 1) := by decide +kernel
theorem dX4_read_2 : decode cX4_read 2 = .ok (.putfield 21, 3) := by decide +kernel
theorem dX4_read_5 : decode cX4_read 5 = .ok (.aload_n 0, 1) := by decide +kernel
theorem dX4_read_6 : decode cX4_read 6 = .ok (.bipush (-6), 2) := by decide +kernel
theorem dX4_read_8 : decode cX4_read 8 = .ok (.putfield 25, 3) := by decide +kernel
theorem dX4_read_11 : decode cX4_read 11 = .ok (.ldc 28, 2) := by decide +kernel
theorem dX4_read_13 : decode cX4_read 13 = .ok (.invokevirtual 30, 3) := by decide +kernel
theorem dX4_read_16 : decode cX4_read 16 = .ok (.istore_n 1, 1) := by decide +kernel
theorem dX4_read_17 : decode cX4_read 17 = .ok (.iconst 0, 1) := by decide +kernel
theorem dX4_read_18 : decode cX4_read 18 = .ok (.istore_n 2, 1) := by decide +kernel
theorem dX4_read_19 : decode cX4_read 19 = .ok (.iload_n 2, 1) := by decide +kernel
theorem dX4_read_20 : decode cX4_read 20 = .ok (.aload_n 0, 1) := by decide +kernel
theorem dX4_read_21 : decode cX4_read 21 = .ok (.getfield 36, 3) := by decide +kernel
theorem dX4_read_24 : decode cX4_read 24 = .ok (.if_icmp .ge 142, 3) := by decide +kernel
theorem dX4_read_27 : decode cX4_read 27 = .ok (.aload_n 0, 1) := by decide +kernel
theorem dX4_read_28 : decode cX4_read 28 = .ok (.getfield 25, 3) := by decide +kernel
theorem dX4_read_31 : decode cX4_read 31 = .ok (.bipush (-6), 2) := by decide +kernel
theorem dX4_read_33 : decode cX4_read 33 = .ok (.if_icmp .ne 133, 3) := by decide +kernel
theorem dX4_read_36 : decode cX4_read 36 = .ok (.ldc 39, 2) := by decide +kernel
theorem dX4_read_38 : decode cX4_read 38 = .ok (.aload_n 0, 1) := by decide +kernel
theorem dX4_read_39 : decode cX4_read 39 = .ok (.getfield 9, 3) := by decide +kernel
theorem dX4_read_42 : decode cX4_read 42 = .ok (.iload_n 2, 1) := by decide +kernel
theorem dX4_read_43 : decode cX4_read 43 = .ok (.iaload, 1) := by decide +kernel
theorem dX4_read_44 : decode cX4_read 44 = .ok (.i2c, 1) := by decide +kernel
theorem dX4_read_45 : decode cX4_read 45 = .ok (.invokevirtual 41, 3) := by decide +kernel
theorem dX4_read_48 : decode cX4_read 48 = .ok (.istore_n 3, 1) := by decide +kernel
theorem dX4_read_49 : decode cX4_read 49 = .ok (.ldc 28, 2) := by decide +kernel
theorem dX4_read_51 : decode cX4_read 51 = .ok (.aload_n 0, 1) := by decide +kernel
theorem dX4_read_52 : decode cX4_read 52 = .ok (.getfield 9, 3) := by decide +kernel
theorem dX4_read_55 : decode cX4_read 55 = .ok (.iload_n 2, 1) := by decide +kernel
theorem dX4_read_56 : decode cX4_read 56 = .ok (.iaload, 1) := by decide +kernel
theorem dX4_read_57 : decode cX4_read 57 = .ok (.i2c, 1) := by decide +kernel
theorem dX4_read_58 : decode cX4_read 58 = .ok (.invokevirtual 41, 3) := by decide +kernel
theorem dX4_read_61 : decode cX4_read 61 = .ok (.istore 4, 2) := by decide +kernel
theorem dX4_read_63 : decode cX4_read 63 = .ok (.iload_n 3, 1) := by decide +kernel
theorem dX4_read_64 : decode cX4_read 64 = .ok (.ifCond .lt 52, 3) := by decide +kernel
theorem dX4_read_67 : decode cX4_read 67 = .ok (.aload_n 0, 1) := by decide +kernel
theorem dX4_read_68 : decode cX4_read 68 = .ok (.getfield 15, 3) := by decide +kernel
theorem dX4_read_71 : decode cX4_read 71 = .ok (.aload_n 0, 1) := by decide +kernel
theorem dX4_read_72 : decode cX4_read 72 = .ok (.getfield 21, 3) := by decide +kernel
theorem dX4_read_75 : decode cX4_read 75 = .ok (.iload_n 3, 1) := by decide +kernel
theorem dX4_read_76 : decode cX4_read 76 = .ok (.iastore, 1) := by decide +kernel
theorem dX4_read_77 : decode cX4_read 77 = .ok (.aload_n 0, 1) := by decide +kernel
theorem dX4_read_78 : decode cX4_read 78 = .ok (.getfield 18, 3) := by decide +kernel
theorem dX4_read_81 : decode cX4_read 81 = .ok (.aload_n 0, 1) := by decide +kernel
theorem dX4_read_82 : decode cX4_read 82 = .ok (.getfield 21, 3) := by decide +kernel
theorem dX4_read_85 : decode cX4_read 85 = .ok (.iconst 0, 1) := by decide +kernel
theorem dX4_read_86 : decode cX4_read 86 = .ok (.iastore, 1) := by decide +kernel
theorem dX4_read_87 : decode cX4_read 87 = .ok (.aload_n 0, 1) := by decide +kernel
theorem dX4_read_88 : decode cX4_read 88 = .ok (.dup, 1) := by decide +kernel
theorem dX4_read_89 : decode cX4_read 89 = .ok (.getfield 21, 3) := by decide +kernel
theorem dX4_read_92 : decode cX4_read 92 = .ok (.iconst 1, 1) := by decide +kernel
theorem dX4_read_93 : decode cX4_read 93 = .ok (.iadd, 1) := by decide +kernel
theorem dX4_read_94 : decode cX4_read 94 = .ok (.putfield 21, 3) := by decide +kernel
theorem dX4_read_97 : decode cX4_read 97 = .ok (.iload_n 3, 1) := by decide +kernel
theorem dX4_read_98 : decode cX4_read 98 = .ok (.bipush 6, 2) := by decide +kernel
theorem dX4_read_100 : decode cX4_read 100 = .ok (.if_icmp .ge 7, 3) := by decide +kernel
theorem dX4_read_103 : decode cX4_read 103 = .ok (.iconst 0, 1) := by decide +kernel
theorem dX4_read_104 : decode cX4_read 104 = .ok (.goto 8, 3) := by decide +kernel
theorem dX4_read_107 : decode cX4_read 107 = .ok (.ldc 28, 2) := by decide +kernel
theorem dX4_read_109 : decode cX4_read 109 = .ok (.invokevirtual 30, 3) := by decide +kernel
theorem dX4_read_112 : decode cX4_read 112 = .ok (.istore_n 1, 1) := by decide +kernel
theorem dX4_read_113 : decode cX4_read 113 = .ok (.goto 47, 3) := by decide +kernel
theorem dX4_read_116 : decode cX4_read 116 = .ok (.iload 4, 2) := by decide +kernel
theorem dX4_read_118 : decode cX4_read 118 = .ok (.iload_n 1, 1) := by decide +kernel
theorem dX4_read_119 : decode cX4_read 119 = .ok (.if_icmp .lt 36, 3) := by decide +kernel
theorem dX4_read_122 : decode cX4_read 122 = .ok (.aload_n 0, 1) := by decide +kernel
theorem dX4_read_123 : decode cX4_read 123 = .ok (.getfield 21, 3) := by decide +kernel
theorem dX4_read_126 : decode cX4_read 126 = .ok (.ifCond .le 29, 3) := by decide +kernel
theorem dX4_read_129 : decode cX4_read 129 = .ok (.aload_n 0, 1) := by decide +kernel
theorem dX4_read_130 : decode cX4_read 130 = .ok (.getfield 18, 3) := by decide +kernel
theorem dX4_read_133 : decode cX4_read 133 = .ok (.aload_n 0, 1) := by decide +kernel
theorem dX4_read_134 : decode cX4_read 134 = .ok (.getfield 21, 3) := by decide +kernel
theorem dX4_read_137 : decode cX4_read 137 = .ok (.iconst 1, 1) := by decide +kernel
theorem dX4_read_138 : decode cX4_read 138 = .ok (.isub, 1) := by decide +kernel
theorem dX4_read_139 : decode cX4_read 139 = .ok (.dup2, 1) := by decide +kernel
theorem dX4_read_140 : decode cX4_read 140 = .ok (.iaload, 1) := by decide +kernel
theorem dX4_read_141 : decode cX4_read 141 = .ok (.iconst 1, 1) := by decide +kernel
theorem dX4_read_142 : decode cX4_read 142 = .ok (.iload 4, 2) := by decide +kernel
theorem dX4_read_144 : decode cX4_read 144 = .ok (.ishl, 1) := by decide +kernel
theorem dX4_read_145 : decode cX4_read 145 = .ok (.ior, 1) := by decide +kernel
theorem dX4_read_146 : decode cX4_read 146 = .ok (.iastore, 1) := by decide +kernel
theorem dX4_read_147 : decode cX4_read 147 = .ok (.iload 4, 2) := by decide +kernel
theorem dX4_read_149 : decode cX4_read 149 = .ok (.iconst 1, 1) := by decide +kernel
theorem dX4_read_150 : decode cX4_read 150 = .ok (.iadd, 1) := by decide +kernel
theorem dX4_read_151 : decode cX4_read 151 = .ok (.istore_n 1, 1) := by decide +kernel
theorem dX4_read_152 : decode cX4_read 152 = .ok (.goto 8, 3) := by decide +kernel
theorem dX4_read_155 : decode cX4_read 155 = .ok (.aload_n 0, 1) := by decide +kernel
theorem dX4_read_156 : decode cX4_read 156 = .ok (.iload_n 2, 1) := by decide +kernel
theorem dX4_read_157 : decode cX4_read 157 = .ok (.putfield 25, 3) := by decide +kernel
theorem dX4_read_160 : decode cX4_read 160 = .ok (.iinc 2 1, 3) := by decide +kernel
theorem dX4_read_163 : decode cX4_read 163 = .ok (.goto (-144), 3) := by decide +kernel
theorem dX4_read_166 : decode cX4_read 166 = .ok (.return_, 1) := by decide +kernel
theorem dX5_init_0 : decode cX5_init 0 = .ok (.aload_n 0, 1) := by decide +kernel
theorem dX5_init_1 : decode cX5_init 1 = .ok (.invokespecial 3, 3) := by decide +kernel
theorem dX5_init_4 : decode cX5_init 4 = .ok (.aload_n 0, 1) := by decide +kernel
theorem dX5_init_5 : decode cX5_init 5 = .ok (.bipush 61, 2) := by decide +kernel
theorem dX5_init_7 : decode cX5_init 7 = .ok (.newarray .int, 2) := by decide +kernel
theorem dX5_init_9 : decode cX5_init 9 = .ok (.putfield 9, 3) := by decide +kernel
theorem dX5_init_12 : decode cX5_init 12 = .ok (.aload_n 0, 1) := by decide +kernel
theorem dX5_init_13 : decode cX5_init 13 = .ok (.bipush 61, 2) := by decide +kernel
theorem dX5_init_15 : decode cX5_init 15 = .ok (.newarray .int, 2) := by decide +kernel
theorem dX5_init_17 : decode cX5_init 17 = .ok (.putfield 15, 3) := by decide +kernel
theorem dX5_init_20 : decode cX5_init 20 = .ok (.aload_n 0, 1) := by decide +kernel
theorem dX5_init_21 : decode cX5_init 21 = .ok (.bipush 60, 2) := by decide +kernel
theorem dX5_init_23 : decode cX5_init 23 = .ok (.newarray .int, 2) := by decide +kernel
theorem dX5_init_25 : decode cX5_init 25 = .ok (.putfield 18, 3) := by decide +kernel
theorem dX5_init_28 : decode cX5_init 28 = .ok (.aload_n 0, 1) := by decide +kernel
theorem dX5_init_29 : decode cX5_init 29 = .ok (.bipush 60, 2) := by decide +kernel
theorem dX5_init_31 : decode cX5_init 31 = .ok (.newarray .int, 2) := by decide +kernel
theorem dX5_init_33 : decode cX5_init 33 = .ok (.putfield 21, 3) := by decide +kernel
theorem dX5_init_36 : decode cX5_init 36 = .ok (.aload_n 0, 1) := by decide +kernel
theorem dX5_init_37 : decode cX5_init 37 = .ok (.bipush 21, 2) := by decide +kernel
theorem dX5_init_39 : decode cX5_init 39 = .ok (.newarray .int, 2) := by decide +kernel
theorem dX5_init_41 : decode cX5_init 41 = .ok (.putfield 24, 3) := by decide +kernel
theorem dX5_init_44 : decode cX5_init 44 = .ok (.aload_n 0, 1) := by decide +kernel
theorem dX5_init_45 : decode cX5_init 45 = .ok (.aload_n 1, 1) := by decide +kernel
theorem dX5_init_46 : decode cX5_init 46 = .ok (.putfield 27, 3) := by decide +kernel
theorem dX5_init_49 : decode cX5_init 49 = .ok (.aload_n 0, 1) := by decide +kernel
theorem dX5_init_50 : decode cX5_init 50 = .ok (.aload_n 2, 1) := by decide +kernel
theorem dX5_init_51 : decode cX5_init 51 = .ok (.putfield 31, 3) := by decide +kernel
theorem dX5_init_54 : decode cX5_init 54 = .ok (.aload_n 0, 1) := by decide +kernel
theorem dX5_init_55 : decode cX5_init 55 = .ok (.aload_n 3, 1) := by decide +kernel
theorem dX5_init_56 : decode cX5_init 56 = .ok (.putfield 35, 3) := by decide +kernel
theorem dX5_init_59 : decode cX5_init 59 = .ok (.return_, 1) := by decide +kernel
theorem dX5_find_0 : decode cX5_find 0 = .ok (.aload_n 0, 1) := by decide +kernel
theorem dX5_find_1 : decode cX5_find 1 = .ok (.invokevirtual 39, 3) := by decide +kernel
theorem dX5_find_4 : decode cX5_find 4 = .ok (.istore_n 1, 1) := by decide +kernel
theorem dX5_find_5 : decode cX5_find 5 = .ok (.iload_n 1, 1) := by decide +kernel
theorem dX5_find_6 : decode cX5_find 6 = .ok (.ifCond .eq 10, 3) := by decide +kernel
theorem dX5_find_9 : decode cX5_find 9 = .ok (.aload_n 0, 1) := by decide +kernel
theorem dX5_find_10 : decode cX5_find 10 = .ok (.invokevirtual 43, 3) := by decide +kernel
theorem dX5_find_13 : decode cX5_find 13 = .ok (.goto 4, 3) := by decide +kernel
theorem dX5_find_16 : decode cX5_find 16 = .ok (.iconst (-1), 1) := by decide +kernel
theorem dX5_find_17 : decode cX5_find 17 = .ok (.istore_n 2, 1) := by decide +kernel
theorem dX5_find_18 : decode cX5_find 18 = .ok (.aload_n 0, 1) := by decide +kernel
theorem dX5_find_19 : decode cX5_find 19 = .ok (.invokevirtual 47, 3) := by decide +kernel
theorem dX5_find_22 : decode cX5_find 22 = .ok (.aload_n 0, 1) := by decide +kernel
theorem dX5_find_23 : decode cX5_find 23 = .ok (.iconst 0, 1) := by decide +kernel
theorem dX5_find_24 : decode cX5_find 24 = .ok (.putfield 50, 3) := by decide +kernel
theorem dX5_find_27 : decode cX5_find 27 = .ok (.iconst 0, 1) := by decide +kernel
theorem dX5_find_28 : decode cX5_find 28 = .ok (.istore_n 3, 1) := by decide +kernel
theorem dX5_find_29 : decode cX5_find 29 = .ok (.iload_n 3, 1) := by decide +kernel
theorem dX5_find_30 : decode cX5_find 30 = .ok (.aload_n 0, 1) := by decide +kernel
theorem dX5_find_31 : decode cX5_find 31 = .ok (.getfield 31, 3) := by decide +kernel
theorem dX5_find_34 : decode cX5_find 34 = .ok (.getfield 54, 3) := by decide +kernel
theorem dX5_find_37 : decode cX5_find 37 = .ok (.if_icmp .ge 107, 3) := by decide +kernel
theorem dX5_find_40 : decode cX5_find 40 = .ok (.aload_n 0, 1) := by decide +kernel
theorem dX5_find_41 : decode cX5_find 41 = .ok (.getfield 35, 3) := by decide +kernel
theorem dX5_find_44 : decode cX5_find 44 = .ok (.getfield 59, 3) := by decide +kernel
theorem dX5_find_47 : decode cX5_find 47 = .ok (.iload_n 3, 1) := by decide +kernel
theorem dX5_find_48 : decode cX5_find 48 = .ok (.iconst 1, 1) := by decide +kernel
theorem dX5_find_49 : decode cX5_find 49 = .ok (.iadd, 1) := by decide +kernel
theorem dX5_find_50 : decode cX5_find 50 = .ok (.iaload, 1) := by decide +kernel
theorem dX5_find_51 : decode cX5_find 51 = .ok (.istore 4, 2) := by decide +kernel
theorem dX5_find_53 : decode cX5_find 53 = .ok (.aload_n 0, 1) := by decide +kernel
theorem dX5_find_54 : decode cX5_find 54 = .ok (.getfield 18, 3) := by decide +kernel
theorem dX5_find_57 : decode cX5_find 57 = .ok (.iload_n 3, 1) := by decide +kernel
theorem dX5_find_58 : decode cX5_find 58 = .ok (.iconst 1, 1) := by decide +kernel
theorem dX5_find_59 : decode cX5_find 59 = .ok (.iload 4, 2) := by decide +kernel
theorem dX5_find_61 : decode cX5_find 61 = .ok (.aload_n 0, 1) := by decide +kernel
theorem dX5_find_62 : decode cX5_find 62 = .ok (.getfield 15, 3) := by decide +kernel
theorem dX5_find_65 : decode cX5_find 65 = .ok (.iload_n 3, 1) := by decide +kernel
theorem dX5_find_66 : decode cX5_find 66 = .ok (.iconst 1, 1) := by decide +kernel
theorem dX5_find_67 : decode cX5_find 67 = .ok (.iadd, 1) := by decide +kernel
theorem dX5_find_68 : decode cX5_find 68 = .ok (.iaload, 1) := by decide +kernel
theorem dX5_find_69 : decode cX5_find 69 = .ok (.isub, 1) := by decide +kernel
theorem dX5_find_70 : decode cX5_find 70 = .ok (.bipush 10, 2) := by decide +kernel
theorem dX5_find_72 : decode cX5_find 72 = .ok (.iadd, 1) := by decide +kernel
theorem dX5_find_73 : decode cX5_find 73 = .ok (.iconst 1, 1) := by decide +kernel
theorem dX5_find_74 : decode cX5_find 74 = .ok (.isub, 1) := by decide +kernel
theorem dX5_find_75 : decode cX5_find 75 = .ok (.bipush 10, 2) := by decide +kernel
theorem dX5_find_77 : decode cX5_find 77 = .ok (.invokestatic 64, 3) := by decide +kernel
theorem dX5_find_80 : decode cX5_find 80 = .ok (.invokestatic 70, 3) := by decide +kernel
theorem dX5_find_83 : decode cX5_find 83 = .ok (.iastore, 1) := by decide +kernel
theorem dX5_find_84 : decode cX5_find 84 = .ok (.aload_n 0, 1) := by decide +kernel
theorem dX5_find_85 : decode cX5_find 85 = .ok (.getfield 21, 3) := by decide +kernel
theorem dX5_find_88 : decode cX5_find 88 = .ok (.iload_n 3, 1) := by decide +kernel
theorem dX5_find_89 : decode cX5_find 89 = .ok (.sipush 200, 3) := by decide +kernel
theorem dX5_find_92 : decode cX5_find 92 = .ok (.iload 4, 2) := by decide +kernel
theorem dX5_find_94 : decode cX5_find 94 = .ok (.aload_n 0, 1) := by decide +kernel
theorem dX5_find_95 : decode cX5_find 95 = .ok (.getfield 9, 3) := by decide +kernel
theorem dX5_find_98 : decode cX5_find 98 = .ok (.iload_n 3, 1) := by decide +kernel
theorem dX5_find_99 : decode cX5_find 99 = .ok (.iconst 1, 1) := by decide +kernel
theorem dX5_find_100 : decode cX5_find 100 = .ok (.iadd, 1) := by decide +kernel
theorem dX5_find_101 : decode cX5_find 101 = .ok (.iaload, 1) := by decide +kernel
theorem dX5_find_102 : decode cX5_find 102 = .ok (.isub, 1) := by decide +kernel
theorem dX5_find_103 : decode cX5_find 103 = .ok (.bipush 10, 2) := by decide +kernel
theorem dX5_find_105 : decode cX5_find 105 = .ok (.invokestatic 64, 3) := by decide +kernel
theorem dX5_find_108 : decode cX5_find 108 = .ok (.invokestatic 73, 3) := by decide +kernel
theorem dX5_find_111 : decode cX5_find 111 = .ok (.iastore, 1) := by decide +kernel
theorem dX5_find_112 : decode cX5_find 112 = .ok (.iload_n 3, 1) := by decide +kernel
theorem dX5_find_113 : decode cX5_find 113 = .ok (.iload_n 2, 1) := by decide +kernel
theorem dX5_find_114 : decode cX5_find 114 = .ok (.if_icmp .le 10, 3) := by decide +kernel
theorem dX5_find_117 : decode cX5_find 117 = .ok (.aload_n 0, 1) := by decide +kernel
theorem dX5_find_118 : decode cX5_find 118 = .ok (.getfield 21, 3) := by decide +kernel
theorem dX5_find_121 : decode cX5_find 121 = .ok (.iload_n 3, 1) := by decide +kernel
theorem dX5_find_122 : decode cX5_find 122 = .ok (.iconst 0, 1) := by decide +kernel
theorem dX5_find_123 : decode cX5_find 123 = .ok (.iastore, 1) := by decide +kernel
theorem dX5_find_124 : decode cX5_find 124 = .ok (.aload_n 0, 1) := by decide +kernel
theorem dX5_find_125 : decode cX5_find 125 = .ok (.dup, 1) := by decide +kernel
theorem dX5_find_126 : decode cX5_find 126 = .ok (.getfield 50, 3) := by decide +kernel
theorem dX5_find_129 : decode cX5_find 129 = .ok (.aload_n 0, 1) := by decide +kernel
theorem dX5_find_130 : decode cX5_find 130 = .ok (.iload_n 3, 1) := by decide +kernel
theorem dX5_find_131 : decode cX5_find 131 = .ok (.invokevirtual 76, 3) := by decide +kernel
theorem dX5_find_134 : decode cX5_find 134 = .ok (.iadd, 1) := by decide +kernel
theorem dX5_find_135 : decode cX5_find 135 = .ok (.putfield 50, 3) := by decide +kernel
theorem dX5_find_138 : decode cX5_find 138 = .ok (.iinc 3 1, 3) := by decide +kernel
theorem dX5_find_141 : decode cX5_find 141 = .ok (.goto (-112), 3) := by decide +kernel
theorem dX5_find_144 : decode cX5_find 144 = .ok (.return_, 1) := by decide +kernel
theorem dX5_nth_0 : decode cX5_nth 0 = .ok (.iload_n 1, 1) := by decide +kernel
theorem dX5_nth_1 : decode cX5_nth 1 = .ok (.istore_n 2, 1) := by decide +kernel
theorem dX5_nth_2 : decode cX5_nth 2 = .ok (.iconst 0, 1) := by decide +kernel
theorem dX5_nth_3 : decode cX5_nth 3 = .ok (.istore_n 3, 1) := by decide +kernel
theorem dX5_nth_4 : decode cX5_nth 4 = .ok (.iload_n 3, 1) := by decide +kernel
theorem dX5_nth_5 : decode cX5_nth 5 = .ok (.aload_n 0, 1) := by decide +kernel
theorem dX5_nth_6 : decode cX5_nth 6 = .ok (.getfield 31, 3) := by decide +kernel
theorem dX5_nth_9 : decode cX5_nth 9 = .ok (.getfield 54, 3) := by decide +kernel
theorem dX5_nth_12 : decode cX5_nth 12 = .ok (.if_icmp .ge 45, 3) := by decide +kernel
theorem dX5_nth_15 : decode cX5_nth 15 = .ok (.iload_n 2, 1) := by decide +kernel
theorem dX5_nth_16 : decode cX5_nth 16 = .ok (.ifCond .lt 41, 3) := by decide +kernel
theorem dX5_nth_19 : decode cX5_nth 19 = .ok (.iload_n 2, 1) := by decide +kernel
theorem dX5_nth_20 : decode cX5_nth 20 = .ok (.aload_n 0, 1) := by decide +kernel
theorem dX5_nth_21 : decode cX5_nth 21 = .ok (.iload_n 3, 1) := by decide +kernel
theorem dX5_nth_22 : decode cX5_nth 22 = .ok (.invokevirtual 76, 3) := by decide +kernel
theorem dX5_nth_25 : decode cX5_nth 25 = .ok (.if_icmp .ge 18, 3) := by decide +kernel
theorem dX5_nth_28 : decode cX5_nth 28 = .ok (.sipush 1000, 3) := by decide +kernel
theorem dX5_nth_31 : decode cX5_nth 31 = .ok (.iload_n 3, 1) := by decide +kernel
theorem dX5_nth_32 : decode cX5_nth 32 = .ok (.imul, 1) := by decide +kernel
theorem dX5_nth_33 : decode cX5_nth 33 = .ok (.aload_n 0, 1) := by decide +kernel
theorem dX5_nth_34 : decode cX5_nth 34 = .ok (.getfield 18, 3) := by decide +kernel
theorem dX5_nth_37 : decode cX5_nth 37 = .ok (.iload_n 3, 1) := by decide +kernel
theorem dX5_nth_38 : decode cX5_nth 38 = .ok (.iaload, 1) := by decide +kernel
theorem dX5_nth_39 : decode cX5_nth 39 = .ok (.iadd, 1) := by decide +kernel
theorem dX5_nth_40 : decode cX5_nth 40 = .ok (.iload_n 2, 1) := by decide +kernel
theorem dX5_nth_41 : decode cX5_nth 41 = .ok (.iadd, 1) := by decide +kernel
theorem dX5_nth_42 : decode cX5_nth 42 = .ok (.ireturn, 1) := by decide +kernel
theorem dX5_nth_43 : decode cX5_nth 43 = .ok (.iload_n 2, 1) := by decide +kernel
theorem dX5_nth_44 : decode cX5_nth 44 = .ok (.aload_n 0, 1) := by decide +kernel
theorem dX5_nth_45 : decode cX5_nth 45 = .ok (.iload_n 3, 1) := by decide +kernel
theorem dX5_nth_46 : decode cX5_nth 46 = .ok (.invokevirtual 76, 3) := by decide +kernel
theorem dX5_nth_49 : decode cX5_nth 49 = .ok (.isub, 1) := by decide +kernel
theorem dX5_nth_50 : decode cX5_nth 50 = .ok (.istore_n 2, 1) := by decide +kernel
theorem dX5_nth_51 : decode cX5_nth 51 = .ok (.iinc 3 1, 3) := by decide +kernel
theorem dX5_nth_54 : decode cX5_nth 54 = .ok (.goto (-50), 3) := by decide +kernel
theorem dX5_nth_57 : decode cX5_nth 57 = .ok (.bipush (-6), 2) := by decide +kernel
theorem dX5_nth_59 : decode cX5_nth 59 = .ok (.ireturn, 1) := by decide +kernel
theorem dX5_actsAsBits_0 : decode cX5_actsAsBits 0 = .ok (.iconst 0, 1) := by decide +kernel
theorem dX5_actsAsBits_1 : decode cX5_actsAsBits 1 = .ok (.istore_n 1, 1) := by decide +kernel
theorem dX5_actsAsBits_2 : decode cX5_actsAsBits 2 = .ok (.iconst 0, 1) := by decide +kernel
theorem dX5_actsAsBits_3 : decode cX5_actsAsBits 3 = .ok (.istore_n 2, 1) := by decide +kernel
theorem dX5_actsAsBits_4 : decode cX5_actsAsBits 4 = .ok (.iload_n 2, 1) := by decide +kernel
theorem dX5_actsAsBits_5 : decode cX5_actsAsBits 5 = .ok (.aload_n 0, 1) := by decide +kernel
theorem dX5_actsAsBits_6 : decode cX5_actsAsBits 6 = .ok (.getfield 31, 3) := by decide +kernel
theorem dX5_actsAsBits_9 : decode cX5_actsAsBits 9 = .ok (.getfield 54, 3) := by decide +kernel
theorem dX5_actsAsBits_12 : decode cX5_actsAsBits 12 = .ok (.if_icmp .ge 29, 3) := by decide +kernel
theorem dX5_actsAsBits_15 : decode cX5_actsAsBits 15 = .ok (.iload_n 2, 1) := by decide +kernel
theorem dX5_actsAsBits_16 : decode cX5_actsAsBits 16 = .ok (.bipush 30, 2) := by decide +kernel
theorem dX5_actsAsBits_18 : decode cX5_actsAsBits 18 = .ok (.if_icmp .ge 23, 3) := by decide +kernel
theorem dX5_actsAsBits_21 : decode cX5_actsAsBits 21 = .ok (.aload_n 0, 1) := by decide +kernel
theorem dX5_actsAsBits_22 : decode cX5_actsAsBits 22 = .ok (.iload_n 2, 1) := by decide +kernel
theorem dX5_actsAsBits_23 : decode cX5_actsAsBits 23 = .ok (.invokevirtual 76, 3) := by decide +kernel
theorem dX5_actsAsBits_26 : decode cX5_actsAsBits 26 = .ok (.ifCond .le 9, 3) := by decide +kernel
theorem dX5_actsAsBits_29 : decode cX5_actsAsBits 29 = .ok (.iload_n 1, 1) := by decide +kernel
theorem dX5_actsAsBits_30 : decode cX5_actsAsBits 30 = .ok (.iconst 1, 1) := by decide +kernel
theorem dX5_actsAsBits_31 : decode cX5_actsAsBits 31 = .ok (.iload_n 2, 1) := by decide +kernel
theorem dX5_actsAsBits_32 : decode cX5_actsAsBits 32 = .ok (.ishl, 1) := by decide +kernel
theorem dX5_actsAsBits_33 : decode cX5_actsAsBits 33 = .ok (.ior, 1) := by decide +kernel
theorem dX5_actsAsBits_34 : decode cX5_actsAsBits 34 = .ok (.istore_n 1, 1) := by decide +kernel
theorem dX5_actsAsBits_35 : decode cX5_actsAsBits 35 = .ok (.iinc 2 1, 3) := by decide +kernel
theorem dX5_actsAsBits_38 : decode cX5_actsAsBits 38 = .ok (.goto (-34), 3) := by decide +kernel
theorem dX5_actsAsBits_41 : decode cX5_actsAsBits 41 = .ok (.iload_n 1, 1) := by decide +kernel
theorem dX5_actsAsBits_42 : decode cX5_actsAsBits 42 = .ok (.ireturn, 1) := by decide +kernel
theorem dX5_chooseReading_0 : decode cX5_chooseReading 0 = .ok (.aload_n 0, 1) := by decide +kernel
theorem dX5_chooseReading_1 : decode cX5_chooseReading 1 = .ok (.bipush (-6), 2) := by decide +kernel
theorem dX5_chooseReading_3 : decode cX5_chooseReading 3 = .ok (.putfield 80, 3) := by decide +kernel
theorem dX5_chooseReading_6 : decode cX5_chooseReading 6 = .ok (.aload_n 0, 1) := by decide +kernel
theorem dX5_chooseReading_7 : decode cX5_chooseReading 7 = .ok (.bipush (-6), 2) := by decide +kernel
theorem dX5_chooseReading_9 : decode cX5_chooseReading 9 = .ok (.putfield 83, 3) := by decide +kernel
theorem dX5_chooseReading_12 : decode cX5_chooseReading 12 = .ok (.iconst 0, 1) := by decide +kernel
theorem dX5_chooseReading_13 : decode cX5_chooseReading 13 = .ok (.istore_n 1, 1) := by decide +kernel
theorem dX5_chooseReading_14 : decode cX5_chooseReading 14 = .ok (.iload_n 1, 1) := by decide +kernel
theorem dX5_chooseReading_15 : decode cX5_chooseReading 15 = .ok (.aload_n 0, 1) := by decide +kernel
theorem dX5_chooseReading_16 : decode cX5_chooseReading 16 = .ok (.getfield 31, 3) := by decide +kernel
theorem dX5_chooseReading_19 : decode cX5_chooseReading 19 = .ok (.getfield 54, 3) := by decide +kernel
theorem dX5_chooseReading_22 : decode cX5_chooseReading 22 = .ok (.if_icmp .ge 49, 3) := by decide +kernel
theorem dX5_chooseReading_25 : decode cX5_chooseReading 25 = .ok (.aload_n 0, 1) := by decide +kernel
theorem dX5_chooseReading_26 : decode cX5_chooseReading 26 = .ok (.getfield 50, 3) := by decide +kernel
theorem dX5_chooseReading_29 : decode cX5_chooseReading 29 = .ok (.ifCond .le 42, 3) := by decide +kernel
theorem dX5_chooseReading_32 : decode cX5_chooseReading 32 = .ok (.aload_n 0, 1) := by decide +kernel
theorem dX5_chooseReading_33 : decode cX5_chooseReading 33 = .ok (.iload_n 1, 1) := by decide +kernel
theorem dX5_chooseReading_34 : decode cX5_chooseReading 34 = .ok (.invokevirtual 86, 3) := by decide +kernel
theorem dX5_chooseReading_37 : decode cX5_chooseReading 37 = .ok (.istore_n 2, 1) := by decide +kernel
theorem dX5_chooseReading_38 : decode cX5_chooseReading 38 = .ok (.aload_n 0, 1) := by decide +kernel
theorem dX5_chooseReading_39 : decode cX5_chooseReading 39 = .ok (.getfield 80, 3) := by decide +kernel
theorem dX5_chooseReading_42 : decode cX5_chooseReading 42 = .ok (.bipush (-6), 2) := by decide +kernel
theorem dX5_chooseReading_44 : decode cX5_chooseReading 44 = .ok (.if_icmp .eq 11, 3) := by decide +kernel
theorem dX5_chooseReading_47 : decode cX5_chooseReading 47 = .ok (.iload_n 2, 1) := by decide +kernel
theorem dX5_chooseReading_48 : decode cX5_chooseReading 48 = .ok (.aload_n 0, 1) := by decide +kernel
theorem dX5_chooseReading_49 : decode cX5_chooseReading 49 = .ok (.getfield 83, 3) := by decide +kernel
theorem dX5_chooseReading_52 : decode cX5_chooseReading 52 = .ok (.if_icmp .ge 13, 3) := by decide +kernel
theorem dX5_chooseReading_55 : decode cX5_chooseReading 55 = .ok (.aload_n 0, 1) := by decide +kernel
theorem dX5_chooseReading_56 : decode cX5_chooseReading 56 = .ok (.iload_n 1, 1) := by decide +kernel
theorem dX5_chooseReading_57 : decode cX5_chooseReading 57 = .ok (.putfield 80, 3) := by decide +kernel
theorem dX5_chooseReading_60 : decode cX5_chooseReading 60 = .ok (.aload_n 0, 1) := by decide +kernel
theorem dX5_chooseReading_61 : decode cX5_chooseReading 61 = .ok (.iload_n 2, 1) := by decide +kernel
theorem dX5_chooseReading_62 : decode cX5_chooseReading 62 = .ok (.putfield 83, 3) := by decide +kernel
theorem dX5_chooseReading_65 : decode cX5_chooseReading 65 = .ok (.iinc 1 1, 3) := by decide +kernel
theorem dX5_chooseReading_68 : decode cX5_chooseReading 68 = .ok (.goto (-54), 3) := by decide +kernel
theorem dX5_chooseReading_71 : decode cX5_chooseReading 71 = .ok (.return_, 1) := by decide +kernel
theorem dX5_fitting_0 : decode cX5_fitting 0 = .ok (.iconst 0, 1) := by decide +kernel
theorem dX5_fitting_1 : decode cX5_fitting 1 = .ok (.aload_n 0, 1) := by decide +kernel
theorem dX5_fitting_2 : decode cX5_fitting 2 = .ok (.getfield 21, 3) := by decide +kernel
theorem dX5_fitting_5 : decode cX5_fitting 5 = .ok (.iload_n 1, 1) := by decide +kernel
theorem dX5_fitting_6 : decode cX5_fitting 6 = .ok (.iaload, 1) := by decide +kernel
theorem dX5_fitting_7 : decode cX5_fitting 7 = .ok (.aload_n 0, 1) := by decide +kernel
theorem dX5_fitting_8 : decode cX5_fitting 8 = .ok (.getfield 18, 3) := by decide +kernel
theorem dX5_fitting_11 : decode cX5_fitting 11 = .ok (.iload_n 1, 1) := by decide +kernel
theorem dX5_fitting_12 : decode cX5_fitting 12 = .ok (.iaload, 1) := by decide +kernel
theorem dX5_fitting_13 : decode cX5_fitting 13 = .ok (.isub, 1) := by decide +kernel
theorem dX5_fitting_14 : decode cX5_fitting 14 = .ok (.iconst 1, 1) := by decide +kernel
theorem dX5_fitting_15 : decode cX5_fitting 15 = .ok (.iadd, 1) := by decide +kernel
theorem dX5_fitting_16 : decode cX5_fitting 16 = .ok (.invokestatic 70, 3) := by decide +kernel
theorem dX5_fitting_19 : decode cX5_fitting 19 = .ok (.ireturn, 1) := by decide +kernel
theorem dX5_boundBySights_0 : decode cX5_boundBySights 0 = .ok (.iconst 0, 1) := by decide +kernel
theorem dX5_boundBySights_1 : decode cX5_boundBySights 1 = .ok (.istore_n 1, 1) := by decide +kernel
theorem dX5_boundBySights_2 : decode cX5_boundBySights 2 = .ok (.iload_n 1, 1) := by decide +kernel
theorem dX5_boundBySights_3 : decode cX5_boundBySights 3 = .ok (.aload_n 0, 1) := by decide +kernel
theorem dX5_boundBySights_4 : decode cX5_boundBySights 4 = .ok (.getfield 31, 3) := by decide +kernel
theorem dX5_boundBySights_7 : decode cX5_boundBySights 7 = .ok (.getfield 54, 3) := by decide +kernel
theorem dX5_boundBySights_10 : decode cX5_boundBySights 10 = .ok (.if_icmp .gt 25, 3) := by decide +kernel
theorem dX5_boundBySights_13 : decode cX5_boundBySights 13 = .ok (.aload_n 0, 1) := by decide +kernel
theorem dX5_boundBySights_14 : decode cX5_boundBySights 14 = .ok (.getfield 9, 3) := by decide +kernel
theorem dX5_boundBySights_17 : decode cX5_boundBySights 17 = .ok (.iload_n 1, 1) := by decide +kernel
theorem dX5_boundBySights_18 : decode cX5_boundBySights 18 = .ok (.iconst 0, 1) := by decide +kernel
theorem dX5_boundBySights_19 : decode cX5_boundBySights 19 = .ok (.iastore, 1) := by decide +kernel
theorem dX5_boundBySights_20 : decode cX5_boundBySights 20 = .ok (.aload_n 0, 1) := by decide +kernel
theorem dX5_boundBySights_21 : decode cX5_boundBySights 21 = .ok (.getfield 15, 3) := by decide +kernel
theorem dX5_boundBySights_24 : decode cX5_boundBySights 24 = .ok (.iload_n 1, 1) := by decide +kernel
theorem dX5_boundBySights_25 : decode cX5_boundBySights 25 = .ok (.sipush 4000, 3) := by decide +kernel
theorem dX5_boundBySights_28 : decode cX5_boundBySights 28 = .ok (.iastore, 1) := by decide +kernel
theorem dX5_boundBySights_29 : decode cX5_boundBySights 29 = .ok (.iinc 1 1, 3) := by decide +kernel
theorem dX5_boundBySights_32 : decode cX5_boundBySights 32 = .ok (.goto (-30), 3) := by decide +kernel
theorem dX5_boundBySights_35 : decode cX5_boundBySights 35 = .ok (.iconst 1, 1) := by decide +kernel
theorem dX5_boundBySights_36 : decode cX5_boundBySights 36 = .ok (.istore_n 1, 1) := by decide +kernel
theorem dX5_boundBySights_37 : decode cX5_boundBySights 37 = .ok (.iconst 0, 1) := by decide +kernel
theorem dX5_boundBySights_38 : decode cX5_boundBySights 38 = .ok (.istore_n 2, 1) := by decide +kernel
theorem dX5_boundBySights_39 : decode cX5_boundBySights 39 = .ok (.iload_n 2, 1) := by decide +kernel
theorem dX5_boundBySights_40 : decode cX5_boundBySights 40 = .ok (.aload_n 0, 1) := by decide +kernel
theorem dX5_boundBySights_41 : decode cX5_boundBySights 41 = .ok (.getfield 27, 3) := by decide +kernel
theorem dX5_boundBySights_44 : decode cX5_boundBySights 44 = .ok (.getfield 89, 3) := by decide +kernel
theorem dX5_boundBySights_47 : decode cX5_boundBySights 47 = .ok (.if_icmp .ge 97, 3) := by decide +kernel
theorem dX5_boundBySights_50 : decode cX5_boundBySights 50 = .ok (.aload_n 0, 1) := by decide +kernel
theorem dX5_boundBySights_51 : decode cX5_boundBySights 51 = .ok (.getfield 27, 3) := by decide +kernel
theorem dX5_boundBySights_54 : decode cX5_boundBySights 54 = .ok (.getfield 94, 3) := by decide +kernel
theorem dX5_boundBySights_57 : decode cX5_boundBySights 57 = .ok (.iload_n 2, 1) := by decide +kernel
theorem dX5_boundBySights_58 : decode cX5_boundBySights 58 = .ok (.iaload, 1) := by decide +kernel
theorem dX5_boundBySights_59 : decode cX5_boundBySights 59 = .ok (.istore_n 3, 1) := by decide +kernel
theorem dX5_boundBySights_60 : decode cX5_boundBySights 60 = .ok (.iload_n 3, 1) := by decide +kernel
theorem dX5_boundBySights_61 : decode cX5_boundBySights 61 = .ok (.aload_n 0, 1) := by decide +kernel
theorem dX5_boundBySights_62 : decode cX5_boundBySights 62 = .ok (.getfield 31, 3) := by decide +kernel
theorem dX5_boundBySights_65 : decode cX5_boundBySights 65 = .ok (.getfield 54, 3) := by decide +kernel
theorem dX5_boundBySights_68 : decode cX5_boundBySights 68 = .ok (.if_icmp .le 8, 3) := by decide +kernel
theorem dX5_boundBySights_71 : decode cX5_boundBySights 71 = .ok (.iconst 0, 1) := by decide +kernel
theorem dX5_boundBySights_72 : decode cX5_boundBySights 72 = .ok (.istore_n 1, 1) := by decide +kernel
theorem dX5_boundBySights_73 : decode cX5_boundBySights 73 = .ok (.goto 65, 3) := by decide +kernel
theorem dX5_boundBySights_76 : decode cX5_boundBySights 76 = .ok (.aload_n 0, 1) := by decide +kernel
theorem dX5_boundBySights_77 : decode cX5_boundBySights 77 = .ok (.getfield 9, 3) := by decide +kernel
theorem dX5_boundBySights_80 : decode cX5_boundBySights 80 = .ok (.iload_n 3, 1) := by decide +kernel
theorem dX5_boundBySights_81 : decode cX5_boundBySights 81 = .ok (.aload_n 0, 1) := by decide +kernel
theorem dX5_boundBySights_82 : decode cX5_boundBySights 82 = .ok (.getfield 9, 3) := by decide +kernel
theorem dX5_boundBySights_85 : decode cX5_boundBySights 85 = .ok (.iload_n 3, 1) := by decide +kernel
theorem dX5_boundBySights_86 : decode cX5_boundBySights 86 = .ok (.iaload, 1) := by decide +kernel
theorem dX5_boundBySights_87 : decode cX5_boundBySights 87 = .ok (.aload_n 0, 1) := by decide +kernel
theorem dX5_boundBySights_88 : decode cX5_boundBySights 88 = .ok (.getfield 27, 3) := by decide +kernel
theorem dX5_boundBySights_91 : decode cX5_boundBySights 91 = .ok (.getfield 97, 3) := by decide +kernel
theorem dX5_boundBySights_94 : decode cX5_boundBySights 94 = .ok (.iload_n 2, 1) := by decide +kernel
theorem dX5_boundBySights_95 : decode cX5_boundBySights 95 = .ok (.iaload, 1) := by decide +kernel
theorem dX5_boundBySights_96 : decode cX5_boundBySights 96 = .ok (.sipush 200, 3) := by decide +kernel
theorem dX5_boundBySights_99 : decode cX5_boundBySights 99 = .ok (.imul, 1) := by decide +kernel
theorem dX5_boundBySights_100 : decode cX5_boundBySights 100 = .ok (.invokestatic 70, 3) := by decide +kernel
theorem dX5_boundBySights_103 : decode cX5_boundBySights 103 = .ok (.iastore, 1) := by decide +kernel
theorem dX5_boundBySights_104 : decode cX5_boundBySights 104 = .ok (.aload_n 0, 1) := by decide +kernel
theorem dX5_boundBySights_105 : decode cX5_boundBySights 105 = .ok (.getfield 15, 3) := by decide +kernel
theorem dX5_boundBySights_108 : decode cX5_boundBySights 108 = .ok (.iload_n 3, 1) := by decide +kernel
theorem dX5_boundBySights_109 : decode cX5_boundBySights 109 = .ok (.aload_n 0, 1) := by decide +kernel
theorem dX5_boundBySights_110 : decode cX5_boundBySights 110 = .ok (.getfield 15, 3) := by decide +kernel
theorem dX5_boundBySights_113 : decode cX5_boundBySights 113 = .ok (.iload_n 3, 1) := by decide +kernel
theorem dX5_boundBySights_114 : decode cX5_boundBySights 114 = .ok (.iaload, 1) := by decide +kernel
theorem dX5_boundBySights_115 : decode cX5_boundBySights 115 = .ok (.aload_n 0, 1) := by decide +kernel
theorem dX5_boundBySights_116 : decode cX5_boundBySights 116 = .ok (.getfield 27, 3) := by decide +kernel
theorem dX5_boundBySights_119 : decode cX5_boundBySights 119 = .ok (.getfield 97, 3) := by decide +kernel
theorem dX5_boundBySights_122 : decode cX5_boundBySights 122 = .ok (.iload_n 2, 1) := by decide +kernel
theorem dX5_boundBySights_123 : decode cX5_boundBySights 123 = .ok (.iaload, 1) := by decide +kernel
theorem dX5_boundBySights_124 : decode cX5_boundBySights 124 = .ok (.sipush 200, 3) := by decide +kernel
theorem dX5_boundBySights_127 : decode cX5_boundBySights 127 = .ok (.imul, 1) := by decide +kernel
theorem dX5_boundBySights_128 : decode cX5_boundBySights 128 = .ok (.sipush 200, 3) := by decide +kernel
theorem dX5_boundBySights_131 : decode cX5_boundBySights 131 = .ok (.iadd, 1) := by decide +kernel
theorem dX5_boundBySights_132 : decode cX5_boundBySights 132 = .ok (.iconst 1, 1) := by decide +kernel
theorem dX5_boundBySights_133 : decode cX5_boundBySights 133 = .ok (.isub, 1) := by decide +kernel
theorem dX5_boundBySights_134 : decode cX5_boundBySights 134 = .ok (.invokestatic 73, 3) := by decide +kernel
theorem dX5_boundBySights_137 : decode cX5_boundBySights 137 = .ok (.iastore, 1) := by decide +kernel
theorem dX5_boundBySights_138 : decode cX5_boundBySights 138 = .ok (.iinc 2 1, 3) := by decide +kernel
theorem dX5_boundBySights_141 : decode cX5_boundBySights 141 = .ok (.goto (-102), 3) := by decide +kernel
theorem dX5_boundBySights_144 : decode cX5_boundBySights 144 = .ok (.iload_n 1, 1) := by decide +kernel
theorem dX5_boundBySights_145 : decode cX5_boundBySights 145 = .ok (.ireturn, 1) := by decide +kernel
theorem dX5_rightWithoutLeak_0 : decode cX5_rightWithoutLeak 0 = .ok (.iconst 0, 1) := by decide +kernel
theorem dX5_rightWithoutLeak_1 : decode cX5_rightWithoutLeak 1 = .ok (.istore_n 1, 1) := by decide +kernel
theorem dX5_rightWithoutLeak_2 : decode cX5_rightWithoutLeak 2 = .ok (.iload_n 1, 1) := by decide +kernel
theorem dX5_rightWithoutLeak_3 : decode cX5_rightWithoutLeak 3 = .ok (.aload_n 0, 1) := by decide +kernel
theorem dX5_rightWithoutLeak_4 : decode cX5_rightWithoutLeak 4 = .ok (.getfield 31, 3) := by decide +kernel
theorem dX5_rightWithoutLeak_7 : decode cX5_rightWithoutLeak 7 = .ok (.getfield 54, 3) := by decide +kernel
theorem dX5_rightWithoutLeak_10 : decode cX5_rightWithoutLeak 10 = .ok (.if_icmp .ge 40, 3) := by decide +kernel
theorem dX5_rightWithoutLeak_13 : decode cX5_rightWithoutLeak 13 = .ok (.aload_n 0, 1) := by decide +kernel
theorem dX5_rightWithoutLeak_14 : decode cX5_rightWithoutLeak 14 = .ok (.getfield 35, 3) := by decide +kernel
theorem dX5_rightWithoutLeak_17 : decode cX5_rightWithoutLeak 17 = .ok (.getfield 59, 3) := by decide +kernel
theorem dX5_rightWithoutLeak_20 : decode cX5_rightWithoutLeak 20 = .ok (.iload_n 1, 1) := by decide +kernel
theorem dX5_rightWithoutLeak_21 : decode cX5_rightWithoutLeak 21 = .ok (.iaload, 1) := by decide +kernel
theorem dX5_rightWithoutLeak_22 : decode cX5_rightWithoutLeak 22 = .ok (.aload_n 0, 1) := by decide +kernel
theorem dX5_rightWithoutLeak_23 : decode cX5_rightWithoutLeak 23 = .ok (.getfield 9, 3) := by decide +kernel
theorem dX5_rightWithoutLeak_26 : decode cX5_rightWithoutLeak 26 = .ok (.iload_n 1, 1) := by decide +kernel
theorem dX5_rightWithoutLeak_27 : decode cX5_rightWithoutLeak 27 = .ok (.iaload, 1) := by decide +kernel
theorem dX5_rightWithoutLeak_28 : decode cX5_rightWithoutLeak 28 = .ok (.aload_n 0, 1) := by decide +kernel
theorem dX5_rightWithoutLeak_29 : decode cX5_rightWithoutLeak 29 = .ok (.getfield 15, 3) := by decide +kernel
theorem dX5_rightWithoutLeak_32 : decode cX5_rightWithoutLeak 32 = .ok (.iload_n 1, 1) := by decide +kernel
theorem dX5_rightWithoutLeak_33 : decode cX5_rightWithoutLeak 33 = .ok (.iaload, 1) := by decide +kernel
theorem dX5_rightWithoutLeak_34 : decode cX5_rightWithoutLeak 34 = .ok (.invokestatic 100, 3) := by decide +kernel
theorem dX5_rightWithoutLeak_37 : decode cX5_rightWithoutLeak 37 = .ok (.ifCond .ne 7, 3) := by decide +kernel
theorem dX5_rightWithoutLeak_40 : decode cX5_rightWithoutLeak 40 = .ok (.iload_n 1, 1) := by decide +kernel
theorem dX5_rightWithoutLeak_41 : decode cX5_rightWithoutLeak 41 = .ok (.iconst 1, 1) := by decide +kernel
theorem dX5_rightWithoutLeak_42 : decode cX5_rightWithoutLeak 42 = .ok (.isub, 1) := by decide +kernel
theorem dX5_rightWithoutLeak_43 : decode cX5_rightWithoutLeak 43 = .ok (.ireturn, 1) := by decide +kernel
theorem dX5_rightWithoutLeak_44 : decode cX5_rightWithoutLeak 44 = .ok (.iinc 1 1, 3) := by decide +kernel
theorem dX5_rightWithoutLeak_47 : decode cX5_rightWithoutLeak 47 = .ok (.goto (-45), 3) := by decide +kernel
theorem dX5_rightWithoutLeak_50 : decode cX5_rightWithoutLeak 50 = .ok (.aload_n 0, 1) := by decide +kernel
theorem dX5_rightWithoutLeak_51 : decode cX5_rightWithoutLeak 51 = .ok (.getfield 31, 3) := by decide +kernel
theorem dX5_rightWithoutLeak_54 : decode cX5_rightWithoutLeak 54 = .ok (.getfield 54, 3) := by decide +kernel
theorem dX5_rightWithoutLeak_57 : decode cX5_rightWithoutLeak 57 = .ok (.ireturn, 1) := by decide +kernel
theorem dX5_boundByActs_0 : decode cX5_boundByActs 0 = .ok (.aload_n 0, 1) := by decide +kernel
theorem dX5_boundByActs_1 : decode cX5_boundByActs 1 = .ok (.getfield 31, 3) := by decide +kernel
theorem dX5_boundByActs_4 : decode cX5_boundByActs 4 = .ok (.getfield 54, 3) := by decide +kernel
theorem dX5_boundByActs_7 : decode cX5_boundByActs 7 = .ok (.iconst 1, 1) := by decide +kernel
theorem dX5_boundByActs_8 : decode cX5_boundByActs 8 = .ok (.isub, 1) := by decide +kernel
theorem dX5_boundByActs_9 : decode cX5_boundByActs 9 = .ok (.istore_n 1, 1) := by decide +kernel
theorem dX5_boundByActs_10 : decode cX5_boundByActs 10 = .ok (.iload_n 1, 1) := by decide +kernel
theorem dX5_boundByActs_11 : decode cX5_boundByActs 11 = .ok (.ifCond .lt 141, 3) := by decide +kernel
theorem dX5_boundByActs_14 : decode cX5_boundByActs 14 = .ok (.aload_n 0, 1) := by decide +kernel
theorem dX5_boundByActs_15 : decode cX5_boundByActs 15 = .ok (.getfield 9, 3) := by decide +kernel
theorem dX5_boundByActs_18 : decode cX5_boundByActs 18 = .ok (.iload_n 1, 1) := by decide +kernel
theorem dX5_boundByActs_19 : decode cX5_boundByActs 19 = .ok (.iconst 1, 1) := by decide +kernel
theorem dX5_boundByActs_20 : decode cX5_boundByActs 20 = .ok (.iadd, 1) := by decide +kernel
theorem dX5_boundByActs_21 : decode cX5_boundByActs 21 = .ok (.iaload, 1) := by decide +kernel
theorem dX5_boundByActs_22 : decode cX5_boundByActs 22 = .ok (.aload_n 0, 1) := by decide +kernel
theorem dX5_boundByActs_23 : decode cX5_boundByActs 23 = .ok (.getfield 35, 3) := by decide +kernel
theorem dX5_boundByActs_26 : decode cX5_boundByActs 26 = .ok (.getfield 104, 3) := by decide +kernel
theorem dX5_boundByActs_29 : decode cX5_boundByActs 29 = .ok (.iload_n 1, 1) := by decide +kernel
theorem dX5_boundByActs_30 : decode cX5_boundByActs 30 = .ok (.iaload, 1) := by decide +kernel
theorem dX5_boundByActs_31 : decode cX5_boundByActs 31 = .ok (.iadd, 1) := by decide +kernel
theorem dX5_boundByActs_32 : decode cX5_boundByActs 32 = .ok (.istore_n 2, 1) := by decide +kernel
theorem dX5_boundByActs_33 : decode cX5_boundByActs 33 = .ok (.aload_n 0, 1) := by decide +kernel
theorem dX5_boundByActs_34 : decode cX5_boundByActs 34 = .ok (.getfield 15, 3) := by decide +kernel
theorem dX5_boundByActs_37 : decode cX5_boundByActs 37 = .ok (.iload_n 1, 1) := by decide +kernel
theorem dX5_boundByActs_38 : decode cX5_boundByActs 38 = .ok (.iconst 1, 1) := by decide +kernel
theorem dX5_boundByActs_39 : decode cX5_boundByActs 39 = .ok (.iadd, 1) := by decide +kernel
theorem dX5_boundByActs_40 : decode cX5_boundByActs 40 = .ok (.iaload, 1) := by decide +kernel
theorem dX5_boundByActs_41 : decode cX5_boundByActs 41 = .ok (.aload_n 0, 1) := by decide +kernel
theorem dX5_boundByActs_42 : decode cX5_boundByActs 42 = .ok (.getfield 35, 3) := by decide +kernel
theorem dX5_boundByActs_45 : decode cX5_boundByActs 45 = .ok (.getfield 104, 3) := by decide +kernel
theorem dX5_boundByActs_48 : decode cX5_boundByActs 48 = .ok (.iload_n 1, 1) := by decide +kernel
theorem dX5_boundByActs_49 : decode cX5_boundByActs 49 = .ok (.iaload, 1) := by decide +kernel
theorem dX5_boundByActs_50 : decode cX5_boundByActs 50 = .ok (.iadd, 1) := by decide +kernel
theorem dX5_boundByActs_51 : decode cX5_boundByActs 51 = .ok (.istore_n 3, 1) := by decide +kernel
theorem dX5_boundByActs_52 : decode cX5_boundByActs 52 = .ok (.aload_n 0, 1) := by decide +kernel
theorem dX5_boundByActs_53 : decode cX5_boundByActs 53 = .ok (.getfield 31, 3) := by decide +kernel
theorem dX5_boundByActs_56 : decode cX5_boundByActs 56 = .ok (.getfield 107, 3) := by decide +kernel
theorem dX5_boundByActs_59 : decode cX5_boundByActs 59 = .ok (.iload_n 1, 1) := by decide +kernel
theorem dX5_boundByActs_60 : decode cX5_boundByActs 60 = .ok (.iaload, 1) := by decide +kernel
theorem dX5_boundByActs_61 : decode cX5_boundByActs 61 = .ok (.bipush 8, 2) := by decide +kernel
theorem dX5_boundByActs_63 : decode cX5_boundByActs 63 = .ok (.if_icmp .ne 51, 3) := by decide +kernel
theorem dX5_boundByActs_66 : decode cX5_boundByActs 66 = .ok (.iload_n 3, 1) := by decide +kernel
theorem dX5_boundByActs_67 : decode cX5_boundByActs 67 = .ok (.sipush 4000, 3) := by decide +kernel
theorem dX5_boundByActs_70 : decode cX5_boundByActs 70 = .ok (.if_icmp .lt 14, 3) := by decide +kernel
theorem dX5_boundByActs_73 : decode cX5_boundByActs 73 = .ok (.iload_n 2, 1) := by decide +kernel
theorem dX5_boundByActs_74 : decode cX5_boundByActs 74 = .ok (.sipush 4000, 3) := by decide +kernel
theorem dX5_boundByActs_77 : decode cX5_boundByActs 77 = .ok (.if_icmp .gt 7, 3) := by decide +kernel
theorem dX5_boundByActs_80 : decode cX5_boundByActs 80 = .ok (.iconst 1, 1) := by decide +kernel
theorem dX5_boundByActs_81 : decode cX5_boundByActs 81 = .ok (.goto 4, 3) := by decide +kernel
theorem dX5_boundByActs_84 : decode cX5_boundByActs 84 = .ok (.iconst 0, 1) := by decide +kernel
theorem dX5_boundByActs_85 : decode cX5_boundByActs 85 = .ok (.istore 4, 2) := by decide +kernel
theorem dX5_boundByActs_87 : decode cX5_boundByActs 87 = .ok (.iconst 0, 1) := by decide +kernel
theorem dX5_boundByActs_88 : decode cX5_boundByActs 88 = .ok (.iload_n 2, 1) := by decide +kernel
theorem dX5_boundByActs_89 : decode cX5_boundByActs 89 = .ok (.sipush 1000, 3) := by decide +kernel
theorem dX5_boundByActs_92 : decode cX5_boundByActs 92 = .ok (.isub, 1) := by decide +kernel
theorem dX5_boundByActs_93 : decode cX5_boundByActs 93 = .ok (.invokestatic 70, 3) := by decide +kernel
theorem dX5_boundByActs_96 : decode cX5_boundByActs 96 = .ok (.istore_n 2, 1) := by decide +kernel
theorem dX5_boundByActs_97 : decode cX5_boundByActs 97 = .ok (.iload 4, 2) := by decide +kernel
theorem dX5_boundByActs_99 : decode cX5_boundByActs 99 = .ok (.ifCond .eq 9, 3) := by decide +kernel
theorem dX5_boundByActs_102 : decode cX5_boundByActs 102 = .ok (.sipush 4000, 3) := by decide +kernel
theorem dX5_boundByActs_105 : decode cX5_boundByActs 105 = .ok (.goto 8, 3) := by decide +kernel
theorem dX5_boundByActs_108 : decode cX5_boundByActs 108 = .ok (.iload_n 3, 1) := by decide +kernel
theorem dX5_boundByActs_109 : decode cX5_boundByActs 109 = .ok (.sipush 1000, 3) := by decide +kernel
theorem dX5_boundByActs_112 : decode cX5_boundByActs 112 = .ok (.isub, 1) := by decide +kernel
theorem dX5_boundByActs_113 : decode cX5_boundByActs 113 = .ok (.istore_n 3, 1) := by decide +kernel
theorem dX5_boundByActs_114 : decode cX5_boundByActs 114 = .ok (.aload_n 0, 1) := by decide +kernel
theorem dX5_boundByActs_115 : decode cX5_boundByActs 115 = .ok (.getfield 9, 3) := by decide +kernel
theorem dX5_boundByActs_118 : decode cX5_boundByActs 118 = .ok (.iload_n 1, 1) := by decide +kernel
theorem dX5_boundByActs_119 : decode cX5_boundByActs 119 = .ok (.aload_n 0, 1) := by decide +kernel
theorem dX5_boundByActs_120 : decode cX5_boundByActs 120 = .ok (.getfield 9, 3) := by decide +kernel
theorem dX5_boundByActs_123 : decode cX5_boundByActs 123 = .ok (.iload_n 1, 1) := by decide +kernel
theorem dX5_boundByActs_124 : decode cX5_boundByActs 124 = .ok (.iaload, 1) := by decide +kernel
theorem dX5_boundByActs_125 : decode cX5_boundByActs 125 = .ok (.iload_n 2, 1) := by decide +kernel
theorem dX5_boundByActs_126 : decode cX5_boundByActs 126 = .ok (.invokestatic 70, 3) := by decide +kernel
theorem dX5_boundByActs_129 : decode cX5_boundByActs 129 = .ok (.iastore, 1) := by decide +kernel
theorem dX5_boundByActs_130 : decode cX5_boundByActs 130 = .ok (.aload_n 0, 1) := by decide +kernel
theorem dX5_boundByActs_131 : decode cX5_boundByActs 131 = .ok (.getfield 15, 3) := by decide +kernel
theorem dX5_boundByActs_134 : decode cX5_boundByActs 134 = .ok (.iload_n 1, 1) := by decide +kernel
theorem dX5_boundByActs_135 : decode cX5_boundByActs 135 = .ok (.aload_n 0, 1) := by decide +kernel
theorem dX5_boundByActs_136 : decode cX5_boundByActs 136 = .ok (.getfield 15, 3) := by decide +kernel
theorem dX5_boundByActs_139 : decode cX5_boundByActs 139 = .ok (.iload_n 1, 1) := by decide +kernel
theorem dX5_boundByActs_140 : decode cX5_boundByActs 140 = .ok (.iaload, 1) := by decide +kernel
theorem dX5_boundByActs_141 : decode cX5_boundByActs 141 = .ok (.iload_n 3, 1) := by decide +kernel
theorem dX5_boundByActs_142 : decode cX5_boundByActs 142 = .ok (.invokestatic 73, 3) := by decide +kernel
theorem dX5_boundByActs_145 : decode cX5_boundByActs 145 = .ok (.iastore, 1) := by decide +kernel
theorem dX5_boundByActs_146 : decode cX5_boundByActs 146 = .ok (.iinc 1 (-1), 3) := by decide +kernel
theorem dX5_boundByActs_149 : decode cX5_boundByActs 149 = .ok (.goto (-139), 3) := by decide +kernel
theorem dX5_boundByActs_152 : decode cX5_boundByActs 152 = .ok (.return_, 1) := by decide +kernel
theorem dX5_worstBehind_0 : decode cX5_worstBehind 0 = .ok (.iconst 0, 1) := by decide +kernel
theorem dX5_worstBehind_1 : decode cX5_worstBehind 1 = .ok (.istore_n 2, 1) := by decide +kernel
theorem dX5_worstBehind_2 : decode cX5_worstBehind 2 = .ok (.iload_n 2, 1) := by decide +kernel
theorem dX5_worstBehind_3 : decode cX5_worstBehind 3 = .ok (.bipush 21, 2) := by decide +kernel
theorem dX5_worstBehind_5 : decode cX5_worstBehind 5 = .ok (.if_icmp .ge 16, 3) := by decide +kernel
theorem dX5_worstBehind_8 : decode cX5_worstBehind 8 = .ok (.aload_n 0, 1) := by decide +kernel
theorem dX5_worstBehind_9 : decode cX5_worstBehind 9 = .ok (.getfield 24, 3) := by decide +kernel
theorem dX5_worstBehind_12 : decode cX5_worstBehind 12 = .ok (.iload_n 2, 1) := by decide +kernel
theorem dX5_worstBehind_13 : decode cX5_worstBehind 13 = .ok (.iconst 0, 1) := by decide +kernel
theorem dX5_worstBehind_14 : decode cX5_worstBehind 14 = .ok (.iastore, 1) := by decide +kernel
theorem dX5_worstBehind_15 : decode cX5_worstBehind 15 = .ok (.iinc 2 1, 3) := by decide +kernel
theorem dX5_worstBehind_18 : decode cX5_worstBehind 18 = .ok (.goto (-16), 3) := by decide +kernel
theorem dX5_worstBehind_21 : decode cX5_worstBehind 21 = .ok (.iload_n 1, 1) := by decide +kernel
theorem dX5_worstBehind_22 : decode cX5_worstBehind 22 = .ok (.iconst 1, 1) := by decide +kernel
theorem dX5_worstBehind_23 : decode cX5_worstBehind 23 = .ok (.iadd, 1) := by decide +kernel
theorem dX5_worstBehind_24 : decode cX5_worstBehind 24 = .ok (.istore_n 2, 1) := by decide +kernel
theorem dX5_worstBehind_25 : decode cX5_worstBehind 25 = .ok (.iload_n 2, 1) := by decide +kernel
theorem dX5_worstBehind_26 : decode cX5_worstBehind 26 = .ok (.aload_n 0, 1) := by decide +kernel
theorem dX5_worstBehind_27 : decode cX5_worstBehind 27 = .ok (.getfield 31, 3) := by decide +kernel
theorem dX5_worstBehind_30 : decode cX5_worstBehind 30 = .ok (.getfield 54, 3) := by decide +kernel
theorem dX5_worstBehind_33 : decode cX5_worstBehind 33 = .ok (.if_icmp .ge 29, 3) := by decide +kernel
theorem dX5_worstBehind_36 : decode cX5_worstBehind 36 = .ok (.aload_n 0, 1) := by decide +kernel
theorem dX5_worstBehind_37 : decode cX5_worstBehind 37 = .ok (.aload_n 0, 1) := by decide +kernel
theorem dX5_worstBehind_38 : decode cX5_worstBehind 38 = .ok (.getfield 35, 3) := by decide +kernel
theorem dX5_worstBehind_41 : decode cX5_worstBehind 41 = .ok (.getfield 59, 3) := by decide +kernel
theorem dX5_worstBehind_44 : decode cX5_worstBehind 44 = .ok (.iload_n 1, 1) := by decide +kernel
theorem dX5_worstBehind_45 : decode cX5_worstBehind 45 = .ok (.iconst 1, 1) := by decide +kernel
theorem dX5_worstBehind_46 : decode cX5_worstBehind 46 = .ok (.iadd, 1) := by decide +kernel
theorem dX5_worstBehind_47 : decode cX5_worstBehind 47 = .ok (.iaload, 1) := by decide +kernel
theorem dX5_worstBehind_48 : decode cX5_worstBehind 48 = .ok (.aload_n 0, 1) := by decide +kernel
theorem dX5_worstBehind_49 : decode cX5_worstBehind 49 = .ok (.iload_n 2, 1) := by decide +kernel
theorem dX5_worstBehind_50 : decode cX5_worstBehind 50 = .ok (.invokevirtual 76, 3) := by decide +kernel
theorem dX5_worstBehind_53 : decode cX5_worstBehind 53 = .ok (.invokevirtual 110, 3) := by decide +kernel
theorem dX5_worstBehind_56 : decode cX5_worstBehind 56 = .ok (.iinc 2 1, 3) := by decide +kernel
theorem dX5_worstBehind_59 : decode cX5_worstBehind 59 = .ok (.goto (-34), 3) := by decide +kernel
theorem dX5_worstBehind_62 : decode cX5_worstBehind 62 = .ok (.iconst 0, 1) := by decide +kernel
theorem dX5_worstBehind_63 : decode cX5_worstBehind 63 = .ok (.istore_n 2, 1) := by decide +kernel
theorem dX5_worstBehind_64 : decode cX5_worstBehind 64 = .ok (.sipush 4000, 3) := by decide +kernel
theorem dX5_worstBehind_67 : decode cX5_worstBehind 67 = .ok (.istore_n 3, 1) := by decide +kernel
theorem dX5_worstBehind_68 : decode cX5_worstBehind 68 = .ok (.iload_n 1, 1) := by decide +kernel
theorem dX5_worstBehind_69 : decode cX5_worstBehind 69 = .ok (.istore 4, 2) := by decide +kernel
theorem dX5_worstBehind_71 : decode cX5_worstBehind 71 = .ok (.iload 4, 2) := by decide +kernel
theorem dX5_worstBehind_73 : decode cX5_worstBehind 73 = .ok (.ifCond .lt 64, 3) := by decide +kernel
theorem dX5_worstBehind_76 : decode cX5_worstBehind 76 = .ok (.aload_n 0, 1) := by decide +kernel
theorem dX5_worstBehind_77 : decode cX5_worstBehind 77 = .ok (.iload 4, 2) := by decide +kernel
theorem dX5_worstBehind_79 : decode cX5_worstBehind 79 = .ok (.iload_n 2, 1) := by decide +kernel
theorem dX5_worstBehind_80 : decode cX5_worstBehind 80 = .ok (.iload_n 3, 1) := by decide +kernel
theorem dX5_worstBehind_81 : decode cX5_worstBehind 81 = .ok (.invokevirtual 114, 3) := by decide +kernel
theorem dX5_worstBehind_84 : decode cX5_worstBehind 84 = .ok (.aload_n 0, 1) := by decide +kernel
theorem dX5_worstBehind_85 : decode cX5_worstBehind 85 = .ok (.getfield 31, 3) := by decide +kernel
theorem dX5_worstBehind_88 : decode cX5_worstBehind 88 = .ok (.getfield 107, 3) := by decide +kernel
theorem dX5_worstBehind_91 : decode cX5_worstBehind 91 = .ok (.iload 4, 2) := by decide +kernel
theorem dX5_worstBehind_93 : decode cX5_worstBehind 93 = .ok (.iaload, 1) := by decide +kernel
theorem dX5_worstBehind_94 : decode cX5_worstBehind 94 = .ok (.bipush 8, 2) := by decide +kernel
theorem dX5_worstBehind_96 : decode cX5_worstBehind 96 = .ok (.if_icmp .ne 22, 3) := by decide +kernel
theorem dX5_worstBehind_99 : decode cX5_worstBehind 99 = .ok (.iload_n 3, 1) := by decide +kernel
theorem dX5_worstBehind_100 : decode cX5_worstBehind 100 = .ok (.sipush 4000, 3) := by decide +kernel
theorem dX5_worstBehind_103 : decode cX5_worstBehind 103 = .ok (.iload_n 2, 1) := by decide +kernel
theorem dX5_worstBehind_104 : decode cX5_worstBehind 104 = .ok (.iadd, 1) := by decide +kernel
theorem dX5_worstBehind_105 : decode cX5_worstBehind 105 = .ok (.invokestatic 73, 3) := by decide +kernel
theorem dX5_worstBehind_108 : decode cX5_worstBehind 108 = .ok (.istore_n 3, 1) := by decide +kernel
theorem dX5_worstBehind_109 : decode cX5_worstBehind 109 = .ok (.iinc 2 1000, 6) := by decide +kernel
theorem dX5_worstBehind_115 : decode cX5_worstBehind 115 = .ok (.goto 16, 3) := by decide +kernel
theorem dX5_worstBehind_118 : decode cX5_worstBehind 118 = .ok (.iload_n 2, 1) := by decide +kernel
theorem dX5_worstBehind_119 : decode cX5_worstBehind 119 = .ok (.aload_n 0, 1) := by decide +kernel
theorem dX5_worstBehind_120 : decode cX5_worstBehind 120 = .ok (.getfield 35, 3) := by decide +kernel
theorem dX5_worstBehind_123 : decode cX5_worstBehind 123 = .ok (.getfield 104, 3) := by decide +kernel
theorem dX5_worstBehind_126 : decode cX5_worstBehind 126 = .ok (.iload 4, 2) := by decide +kernel
theorem dX5_worstBehind_128 : decode cX5_worstBehind 128 = .ok (.iaload, 1) := by decide +kernel
theorem dX5_worstBehind_129 : decode cX5_worstBehind 129 = .ok (.isub, 1) := by decide +kernel
theorem dX5_worstBehind_130 : decode cX5_worstBehind 130 = .ok (.istore_n 2, 1) := by decide +kernel
theorem dX5_worstBehind_131 : decode cX5_worstBehind 131 = .ok (.iinc 4 (-1), 3) := by decide +kernel
theorem dX5_worstBehind_134 : decode cX5_worstBehind 134 = .ok (.goto (-63), 3) := by decide +kernel
theorem dX5_worstBehind_137 : decode cX5_worstBehind 137 = .ok (.iconst 0, 1) := by decide +kernel
theorem dX5_worstBehind_138 : decode cX5_worstBehind 138 = .ok (.istore 4, 2) := by decide +kernel
theorem dX5_worstBehind_140 : decode cX5_worstBehind 140 = .ok (.iconst 0, 1) := by decide +kernel
theorem dX5_worstBehind_141 : decode cX5_worstBehind 141 = .ok (.istore 5, 2) := by decide +kernel
theorem dX5_worstBehind_143 : decode cX5_worstBehind 143 = .ok (.iload 5, 2) := by decide +kernel
theorem dX5_worstBehind_145 : decode cX5_worstBehind 145 = .ok (.bipush 21, 2) := by decide +kernel
theorem dX5_worstBehind_147 : decode cX5_worstBehind 147 = .ok (.if_icmp .ge 23, 3) := by decide +kernel
theorem dX5_worstBehind_150 : decode cX5_worstBehind 150 = .ok (.iload 4, 2) := by decide +kernel
theorem dX5_worstBehind_152 : decode cX5_worstBehind 152 = .ok (.aload_n 0, 1) := by decide +kernel
theorem dX5_worstBehind_153 : decode cX5_worstBehind 153 = .ok (.getfield 24, 3) := by decide +kernel
theorem dX5_worstBehind_156 : decode cX5_worstBehind 156 = .ok (.iload 5, 2) := by decide +kernel
theorem dX5_worstBehind_158 : decode cX5_worstBehind 158 = .ok (.iaload, 1) := by decide +kernel
theorem dX5_worstBehind_159 : decode cX5_worstBehind 159 = .ok (.invokestatic 70, 3) := by decide +kernel
theorem dX5_worstBehind_162 : decode cX5_worstBehind 162 = .ok (.istore 4, 2) := by decide +kernel
theorem dX5_worstBehind_164 : decode cX5_worstBehind 164 = .ok (.iinc 5 1, 3) := by decide +kernel
theorem dX5_worstBehind_167 : decode cX5_worstBehind 167 = .ok (.goto (-24), 3) := by decide +kernel
theorem dX5_worstBehind_170 : decode cX5_worstBehind 170 = .ok (.iload 4, 2) := by decide +kernel
theorem dX5_worstBehind_172 : decode cX5_worstBehind 172 = .ok (.ireturn, 1) := by decide +kernel
theorem dX5_tallyLeaksAt_0 : decode cX5_tallyLeaksAt 0 = .ok (.aload_n 0, 1) := by decide +kernel
theorem dX5_tallyLeaksAt_1 : decode cX5_tallyLeaksAt 1 = .ok (.getfield 35, 3) := by decide +kernel
theorem dX5_tallyLeaksAt_4 : decode cX5_tallyLeaksAt 4 = .ok (.getfield 59, 3) := by decide +kernel
theorem dX5_tallyLeaksAt_7 : decode cX5_tallyLeaksAt 7 = .ok (.iload_n 1, 1) := by decide +kernel
theorem dX5_tallyLeaksAt_8 : decode cX5_tallyLeaksAt 8 = .ok (.iconst 1, 1) := by decide +kernel
theorem dX5_tallyLeaksAt_9 : decode cX5_tallyLeaksAt 9 = .ok (.iadd, 1) := by decide +kernel
theorem dX5_tallyLeaksAt_10 : decode cX5_tallyLeaksAt 10 = .ok (.iaload, 1) := by decide +kernel
theorem dX5_tallyLeaksAt_11 : decode cX5_tallyLeaksAt 11 = .ok (.iload_n 2, 1) := by decide +kernel
theorem dX5_tallyLeaksAt_12 : decode cX5_tallyLeaksAt 12 = .ok (.iadd, 1) := by decide +kernel
theorem dX5_tallyLeaksAt_13 : decode cX5_tallyLeaksAt 13 = .ok (.istore 4, 2) := by decide +kernel
theorem dX5_tallyLeaksAt_15 : decode cX5_tallyLeaksAt 15 = .ok (.aload_n 0, 1) := by decide +kernel
theorem dX5_tallyLeaksAt_16 : decode cX5_tallyLeaksAt 16 = .ok (.getfield 18, 3) := by decide +kernel
theorem dX5_tallyLeaksAt_19 : decode cX5_tallyLeaksAt 19 = .ok (.iload_n 1, 1) := by decide +kernel
theorem dX5_tallyLeaksAt_20 : decode cX5_tallyLeaksAt 20 = .ok (.iaload, 1) := by decide +kernel
theorem dX5_tallyLeaksAt_21 : decode cX5_tallyLeaksAt 21 = .ok (.istore 6, 2) := by decide +kernel
theorem dX5_tallyLeaksAt_23 : decode cX5_tallyLeaksAt 23 = .ok (.iload 6, 2) := by decide +kernel
theorem dX5_tallyLeaksAt_25 : decode cX5_tallyLeaksAt 25 = .ok (.aload_n 0, 1) := by decide +kernel
theorem dX5_tallyLeaksAt_26 : decode cX5_tallyLeaksAt 26 = .ok (.getfield 21, 3) := by decide +kernel
theorem dX5_tallyLeaksAt_29 : decode cX5_tallyLeaksAt 29 = .ok (.iload_n 1, 1) := by decide +kernel
theorem dX5_tallyLeaksAt_30 : decode cX5_tallyLeaksAt 30 = .ok (.iaload, 1) := by decide +kernel
theorem dX5_tallyLeaksAt_31 : decode cX5_tallyLeaksAt 31 = .ok (.if_icmp .gt 81, 3) := by decide +kernel
theorem dX5_tallyLeaksAt_34 : decode cX5_tallyLeaksAt 34 = .ok (.iload 4, 2) := by decide +kernel
theorem dX5_tallyLeaksAt_36 : decode cX5_tallyLeaksAt 36 = .ok (.bipush 10, 2) := by decide +kernel
theorem dX5_tallyLeaksAt_38 : decode cX5_tallyLeaksAt 38 = .ok (.iload 6, 2) := by decide +kernel
theorem dX5_tallyLeaksAt_40 : decode cX5_tallyLeaksAt 40 = .ok (.imul, 1) := by decide +kernel
theorem dX5_tallyLeaksAt_41 : decode cX5_tallyLeaksAt 41 = .ok (.isub, 1) := by decide +kernel
theorem dX5_tallyLeaksAt_42 : decode cX5_tallyLeaksAt 42 = .ok (.iload_n 3, 1) := by decide +kernel
theorem dX5_tallyLeaksAt_43 : decode cX5_tallyLeaksAt 43 = .ok (.invokestatic 73, 3) := by decide +kernel
theorem dX5_tallyLeaksAt_46 : decode cX5_tallyLeaksAt 46 = .ok (.istore 7, 2) := by decide +kernel
theorem dX5_tallyLeaksAt_48 : decode cX5_tallyLeaksAt 48 = .ok (.iload 7, 2) := by decide +kernel
theorem dX5_tallyLeaksAt_50 : decode cX5_tallyLeaksAt 50 = .ok (.sipush 200, 3) := by decide +kernel
theorem dX5_tallyLeaksAt_53 : decode cX5_tallyLeaksAt 53 = .ok (.invokestatic 64, 3) := by decide +kernel
theorem dX5_tallyLeaksAt_56 : decode cX5_tallyLeaksAt 56 = .ok (.sipush 200, 3) := by decide +kernel
theorem dX5_tallyLeaksAt_59 : decode cX5_tallyLeaksAt 59 = .ok (.imul, 1) := by decide +kernel
theorem dX5_tallyLeaksAt_60 : decode cX5_tallyLeaksAt 60 = .ok (.istore 8, 2) := by decide +kernel
theorem dX5_tallyLeaksAt_62 : decode cX5_tallyLeaksAt 62 = .ok (.iload 4, 2) := by decide +kernel
theorem dX5_tallyLeaksAt_64 : decode cX5_tallyLeaksAt 64 = .ok (.iload 8, 2) := by decide +kernel
theorem dX5_tallyLeaksAt_66 : decode cX5_tallyLeaksAt 66 = .ok (.isub, 1) := by decide +kernel
theorem dX5_tallyLeaksAt_67 : decode cX5_tallyLeaksAt 67 = .ok (.bipush 10, 2) := by decide +kernel
theorem dX5_tallyLeaksAt_69 : decode cX5_tallyLeaksAt 69 = .ok (.invokestatic 64, 3) := by decide +kernel
theorem dX5_tallyLeaksAt_72 : decode cX5_tallyLeaksAt 72 = .ok (.istore 9, 2) := by decide +kernel
theorem dX5_tallyLeaksAt_74 : decode cX5_tallyLeaksAt 74 = .ok (.iload 6, 2) := by decide +kernel
theorem dX5_tallyLeaksAt_76 : decode cX5_tallyLeaksAt 76 = .ok (.iload 9, 2) := by decide +kernel
theorem dX5_tallyLeaksAt_78 : decode cX5_tallyLeaksAt 78 = .ok (.aload_n 0, 1) := by decide +kernel
theorem dX5_tallyLeaksAt_79 : decode cX5_tallyLeaksAt 79 = .ok (.getfield 21, 3) := by decide +kernel
theorem dX5_tallyLeaksAt_82 : decode cX5_tallyLeaksAt 82 = .ok (.iload_n 1, 1) := by decide +kernel
theorem dX5_tallyLeaksAt_83 : decode cX5_tallyLeaksAt 83 = .ok (.iaload, 1) := by decide +kernel
theorem dX5_tallyLeaksAt_84 : decode cX5_tallyLeaksAt 84 = .ok (.invokestatic 73, 3) := by decide +kernel
theorem dX5_tallyLeaksAt_87 : decode cX5_tallyLeaksAt 87 = .ok (.invokestatic 70, 3) := by decide +kernel
theorem dX5_tallyLeaksAt_90 : decode cX5_tallyLeaksAt 90 = .ok (.iconst 1, 1) := by decide +kernel
theorem dX5_tallyLeaksAt_91 : decode cX5_tallyLeaksAt 91 = .ok (.iadd, 1) := by decide +kernel
theorem dX5_tallyLeaksAt_92 : decode cX5_tallyLeaksAt 92 = .ok (.istore 5, 2) := by decide +kernel
theorem dX5_tallyLeaksAt_94 : decode cX5_tallyLeaksAt 94 = .ok (.aload_n 0, 1) := by decide +kernel
theorem dX5_tallyLeaksAt_95 : decode cX5_tallyLeaksAt 95 = .ok (.iload 7, 2) := by decide +kernel
theorem dX5_tallyLeaksAt_97 : decode cX5_tallyLeaksAt 97 = .ok (.iload 5, 2) := by decide +kernel
theorem dX5_tallyLeaksAt_99 : decode cX5_tallyLeaksAt 99 = .ok (.iload 6, 2) := by decide +kernel
theorem dX5_tallyLeaksAt_101 : decode cX5_tallyLeaksAt 101 = .ok (.isub, 1) := by decide +kernel
theorem dX5_tallyLeaksAt_102 : decode cX5_tallyLeaksAt 102 = .ok (.invokevirtual 110, 3) := by decide +kernel
theorem dX5_tallyLeaksAt_105 : decode cX5_tallyLeaksAt 105 = .ok (.iload 5, 2) := by decide +kernel
theorem dX5_tallyLeaksAt_107 : decode cX5_tallyLeaksAt 107 = .ok (.istore 6, 2) := by decide +kernel
theorem dX5_tallyLeaksAt_109 : decode cX5_tallyLeaksAt 109 = .ok (.goto (-86), 3) := by decide +kernel
theorem dX5_tallyLeaksAt_112 : decode cX5_tallyLeaksAt 112 = .ok (.return_, 1) := by decide +kernel
theorem dX5_tally_0 : decode cX5_tally 0 = .ok (.iload_n 1, 1) := by decide +kernel
theorem dX5_tally_1 : decode cX5_tally 1 = .ok (.sipush 200, 3) := by decide +kernel
theorem dX5_tally_4 : decode cX5_tally 4 = .ok (.invokestatic 64, 3) := by decide +kernel
theorem dX5_tally_7 : decode cX5_tally 7 = .ok (.istore_n 3, 1) := by decide +kernel
theorem dX5_tally_8 : decode cX5_tally 8 = .ok (.iload_n 3, 1) := by decide +kernel
theorem dX5_tally_9 : decode cX5_tally 9 = .ok (.iconst 0, 1) := by decide +kernel
theorem dX5_tally_10 : decode cX5_tally 10 = .ok (.bipush 20, 2) := by decide +kernel
theorem dX5_tally_12 : decode cX5_tally 12 = .ok (.invokestatic 100, 3) := by decide +kernel
theorem dX5_tally_15 : decode cX5_tally 15 = .ok (.ifCond .eq 13, 3) := by decide +kernel
theorem dX5_tally_18 : decode cX5_tally 18 = .ok (.aload_n 0, 1) := by decide +kernel
theorem dX5_tally_19 : decode cX5_tally 19 = .ok (.getfield 24, 3) := by decide +kernel
theorem dX5_tally_22 : decode cX5_tally 22 = .ok (.iload_n 3, 1) := by decide +kernel
theorem dX5_tally_23 : decode cX5_tally 23 = .ok (.dup2, 1) := by decide +kernel
theorem dX5_tally_24 : decode cX5_tally 24 = .ok (.iaload, 1) := by decide +kernel
theorem dX5_tally_25 : decode cX5_tally 25 = .ok (.iload_n 2, 1) := by decide +kernel
theorem dX5_tally_26 : decode cX5_tally 26 = .ok (.iadd, 1) := by decide +kernel
theorem dX5_tally_27 : decode cX5_tally 27 = .ok (.iastore, 1) := by decide +kernel
theorem dX5_tally_28 : decode cX5_tally 28 = .ok (.return_, 1) := by decide +kernel
theorem dX6_init_0 : decode cX6_init 0 = .ok (.aload_n 0, 1) := by decide +kernel
theorem dX6_init_1 : decode cX6_init 1 = .ok (.invokespecial 3, 3) := by decide +kernel
theorem dX6_init_4 : decode cX6_init 4 = .ok (.aload_n 0, 1) := by decide +kernel
theorem dX6_init_5 : decode cX6_init 5 = .ok (.aload_n 1, 1) := by decide +kernel
theorem dX6_init_6 : decode cX6_init 6 = .ok (.putfield 9, 3) := by decide +kernel
theorem dX6_init_9 : decode cX6_init 9 = .ok (.return_, 1) := by decide +kernel
theorem dX6_live_0 : decode cX6_live 0 = .ok (.aload_n 0, 1) := by decide +kernel
theorem dX6_live_1 : decode cX6_live 1 = .ok (.aload_n 0, 1) := by decide +kernel
theorem dX6_live_2 : decode cX6_live 2 = .ok (.getfield 9, 3) := by decide +kernel
theorem dX6_live_5 : decode cX6_live 5 = .ok (.getfield 15, 3) := by decide +kernel
theorem dX6_live_8 : decode cX6_live 8 = .ok (.iconst 0, 1) := by decide +kernel
theorem dX6_live_9 : decode cX6_live 9 = .ok (.iaload, 1) := by decide +kernel
theorem dX6_live_10 : decode cX6_live 10 = .ok (.putfield 21, 3) := by decide +kernel
theorem dX6_live_13 : decode cX6_live 13 = .ok (.aload_n 0, 1) := by decide +kernel
theorem dX6_live_14 : decode cX6_live 14 = .ok (.iconst 0, 1) := by decide +kernel
theorem dX6_live_15 : decode cX6_live 15 = .ok (.putfield 25, 3) := by decide +kernel
theorem dX6_live_18 : decode cX6_live 18 = .ok (.aload_n 0, 1) := by decide +kernel
theorem dX6_live_19 : decode cX6_live 19 = .ok (.iconst 0, 1) := by decide +kernel
theorem dX6_live_20 : decode cX6_live 20 = .ok (.putfield 28, 3) := by decide +kernel
theorem dX6_live_23 : decode cX6_live 23 = .ok (.iload_n 1, 1) := by decide +kernel
theorem dX6_live_24 : decode cX6_live 24 = .ok (.istore_n 3, 1) := by decide +kernel
theorem dX6_live_25 : decode cX6_live 25 = .ok (.iconst 0, 1) := by decide +kernel
theorem dX6_live_26 : decode cX6_live 26 = .ok (.istore 4, 2) := by decide +kernel
theorem dX6_live_28 : decode cX6_live 28 = .ok (.iload 4, 2) := by decide +kernel
theorem dX6_live_30 : decode cX6_live 30 = .ok (.iconst 2, 1) := by decide +kernel
theorem dX6_live_31 : decode cX6_live 31 = .ok (.iload_n 2, 1) := by decide +kernel
theorem dX6_live_32 : decode cX6_live 32 = .ok (.imul, 1) := by decide +kernel
theorem dX6_live_33 : decode cX6_live 33 = .ok (.if_icmp .ge 43, 3) := by decide +kernel
theorem dX6_live_36 : decode cX6_live 36 = .ok (.bipush 75, 2) := by decide +kernel
theorem dX6_live_38 : decode cX6_live 38 = .ok (.iload_n 3, 1) := by decide +kernel
theorem dX6_live_39 : decode cX6_live 39 = .ok (.imul, 1) := by decide +kernel
theorem dX6_live_40 : decode cX6_live 40 = .ok (.bipush 74, 2) := by decide +kernel
theorem dX6_live_42 : decode cX6_live 42 = .ok (.iadd, 1) := by decide +kernel
theorem dX6_live_43 : decode cX6_live 43 = .ok (.ldc 31, 2) := by decide +kernel
theorem dX6_live_45 : decode cX6_live 45 = .ok (.irem, 1) := by decide +kernel
theorem dX6_live_46 : decode cX6_live 46 = .ok (.istore_n 3, 1) := by decide +kernel
theorem dX6_live_47 : decode cX6_live 47 = .ok (.aload_n 0, 1) := by decide +kernel
theorem dX6_live_48 : decode cX6_live 48 = .ok (.iload_n 3, 1) := by decide +kernel
theorem dX6_live_49 : decode cX6_live 49 = .ok (.bipush 6, 2) := by decide +kernel
theorem dX6_live_51 : decode cX6_live 51 = .ok (.irem, 1) := by decide +kernel
theorem dX6_live_52 : decode cX6_live 52 = .ok (.iload_n 3, 1) := by decide +kernel
theorem dX6_live_53 : decode cX6_live 53 = .ok (.bipush 6, 2) := by decide +kernel
theorem dX6_live_55 : decode cX6_live 55 = .ok (.idiv, 1) := by decide +kernel
theorem dX6_live_56 : decode cX6_live 56 = .ok (.iconst 2, 1) := by decide +kernel
theorem dX6_live_57 : decode cX6_live 57 = .ok (.irem, 1) := by decide +kernel
theorem dX6_live_58 : decode cX6_live 58 = .ok (.iconst 1, 1) := by decide +kernel
theorem dX6_live_59 : decode cX6_live 59 = .ok (.if_icmp .ne 7, 3) := by decide +kernel
theorem dX6_live_62 : decode cX6_live 62 = .ok (.iconst 1, 1) := by decide +kernel
theorem dX6_live_63 : decode cX6_live 63 = .ok (.goto 4, 3) := by decide +kernel
theorem dX6_live_66 : decode cX6_live 66 = .ok (.iconst 0, 1) := by decide +kernel
theorem dX6_live_67 : decode cX6_live 67 = .ok (.invokevirtual 32, 3) := by decide +kernel
theorem dX6_live_70 : decode cX6_live 70 = .ok (.iinc 4 1, 3) := by decide +kernel
theorem dX6_live_73 : decode cX6_live 73 = .ok (.goto (-45), 3) := by decide +kernel
theorem dX6_live_76 : decode cX6_live 76 = .ok (.return_, 1) := by decide +kernel
theorem dX6_tryToBoil_0 : decode cX6_tryToBoil 0 = .ok (.aload_n 0, 1) := by decide +kernel
theorem dX6_tryToBoil_1 : decode cX6_tryToBoil 1 = .ok (.getfield 9, 3) := by decide +kernel
theorem dX6_tryToBoil_4 : decode cX6_tryToBoil 4 = .ok (.iload_n 1, 1) := by decide +kernel
theorem dX6_tryToBoil_5 : decode cX6_tryToBoil 5 = .ok (.invokevirtual 36, 3) := by decide +kernel
theorem dX6_tryToBoil_8 : decode cX6_tryToBoil 8 = .ok (.ifCond .eq 14, 3) := by decide +kernel
theorem dX6_tryToBoil_11 : decode cX6_tryToBoil 11 = .ok (.aload_n 0, 1) := by decide +kernel
theorem dX6_tryToBoil_12 : decode cX6_tryToBoil 12 = .ok (.getfield 9, 3) := by decide +kernel
theorem dX6_tryToBoil_15 : decode cX6_tryToBoil 15 = .ok (.iload_n 1, 1) := by decide +kernel
theorem dX6_tryToBoil_16 : decode cX6_tryToBoil 16 = .ok (.invokevirtual 40, 3) := by decide +kernel
theorem dX6_tryToBoil_19 : decode cX6_tryToBoil 19 = .ok (.ifCond .ne 4, 3) := by decide +kernel
theorem dX6_tryToBoil_22 : decode cX6_tryToBoil 22 = .ok (.return_, 1) := by decide +kernel
theorem dX6_tryToBoil_23 : decode cX6_tryToBoil 23 = .ok (.aload_n 0, 1) := by decide +kernel
theorem dX6_tryToBoil_24 : decode cX6_tryToBoil 24 = .ok (.getfield 9, 3) := by decide +kernel
theorem dX6_tryToBoil_27 : decode cX6_tryToBoil 27 = .ok (.iload_n 1, 1) := by decide +kernel
theorem dX6_tryToBoil_28 : decode cX6_tryToBoil 28 = .ok (.iconst 0, 1) := by decide +kernel
theorem dX6_tryToBoil_29 : decode cX6_tryToBoil 29 = .ok (.iload_n 2, 1) := by decide +kernel
theorem dX6_tryToBoil_30 : decode cX6_tryToBoil 30 = .ok (.invokevirtual 43, 3) := by decide +kernel
theorem dX6_tryToBoil_33 : decode cX6_tryToBoil 33 = .ok (.istore_n 3, 1) := by decide +kernel
theorem dX6_tryToBoil_34 : decode cX6_tryToBoil 34 = .ok (.iload_n 3, 1) := by decide +kernel
theorem dX6_tryToBoil_35 : decode cX6_tryToBoil 35 = .ok (.aload_n 0, 1) := by decide +kernel
theorem dX6_tryToBoil_36 : decode cX6_tryToBoil 36 = .ok (.getfield 21, 3) := by decide +kernel
theorem dX6_tryToBoil_39 : decode cX6_tryToBoil 39 = .ok (.if_icmp .le 16, 3) := by decide +kernel
theorem dX6_tryToBoil_42 : decode cX6_tryToBoil 42 = .ok (.aload_n 0, 1) := by decide +kernel
theorem dX6_tryToBoil_43 : decode cX6_tryToBoil 43 = .ok (.dup, 1) := by decide +kernel
theorem dX6_tryToBoil_44 : decode cX6_tryToBoil 44 = .ok (.getfield 28, 3) := by decide +kernel
theorem dX6_tryToBoil_47 : decode cX6_tryToBoil 47 = .ok (.iconst 1, 1) := by decide +kernel
theorem dX6_tryToBoil_48 : decode cX6_tryToBoil 48 = .ok (.iadd, 1) := by decide +kernel
theorem dX6_tryToBoil_49 : decode cX6_tryToBoil 49 = .ok (.putfield 28, 3) := by decide +kernel
theorem dX6_tryToBoil_52 : decode cX6_tryToBoil 52 = .ok (.goto 23, 3) := by decide +kernel
theorem dX6_tryToBoil_55 : decode cX6_tryToBoil 55 = .ok (.aload_n 0, 1) := by decide +kernel
theorem dX6_tryToBoil_56 : decode cX6_tryToBoil 56 = .ok (.dup, 1) := by decide +kernel
theorem dX6_tryToBoil_57 : decode cX6_tryToBoil 57 = .ok (.getfield 21, 3) := by decide +kernel
theorem dX6_tryToBoil_60 : decode cX6_tryToBoil 60 = .ok (.iload_n 3, 1) := by decide +kernel
theorem dX6_tryToBoil_61 : decode cX6_tryToBoil 61 = .ok (.isub, 1) := by decide +kernel
theorem dX6_tryToBoil_62 : decode cX6_tryToBoil 62 = .ok (.putfield 21, 3) := by decide +kernel
theorem dX6_tryToBoil_65 : decode cX6_tryToBoil 65 = .ok (.aload_n 0, 1) := by decide +kernel
theorem dX6_tryToBoil_66 : decode cX6_tryToBoil 66 = .ok (.dup, 1) := by decide +kernel
theorem dX6_tryToBoil_67 : decode cX6_tryToBoil 67 = .ok (.getfield 25, 3) := by decide +kernel
theorem dX6_tryToBoil_70 : decode cX6_tryToBoil 70 = .ok (.iconst 1, 1) := by decide +kernel
theorem dX6_tryToBoil_71 : decode cX6_tryToBoil 71 = .ok (.iadd, 1) := by decide +kernel
theorem dX6_tryToBoil_72 : decode cX6_tryToBoil 72 = .ok (.putfield 25, 3) := by decide +kernel
theorem dX6_tryToBoil_75 : decode cX6_tryToBoil 75 = .ok (.return_, 1) := by decide +kernel
theorem dX7_init_0 : decode cX7_init 0 = .ok (.aload_n 0, 1) := by decide +kernel
theorem dX7_init_1 : decode cX7_init 1 = .ok (.invokespecial 3, 3) := by decide +kernel
theorem dX7_init_4 : decode cX7_init 4 = .ok (.aload_n 0, 1) := by decide +kernel
theorem dX7_init_5 : decode cX7_init 5 = .ok (.new 9, 3) := by decide +kernel
theorem dX7_init_8 : decode cX7_init 8 = .ok (.dup, 1) := by decide +kernel
theorem dX7_init_9 : decode cX7_init 9 = .ok (.invokespecial 11, 3) := by decide +kernel
theorem dX7_init_12 : decode cX7_init 12 = .ok (.putfield 12, 3) := by decide +kernel
theorem dX7_init_15 : decode cX7_init 15 = .ok (.aload_n 0, 1) := by decide +kernel
theorem dX7_init_16 : decode cX7_init 16 = .ok (.new 16, 3) := by decide +kernel
theorem dX7_init_19 : decode cX7_init 19 = .ok (.dup, 1) := by decide +kernel
theorem dX7_init_20 : decode cX7_init 20 = .ok (.invokespecial 18, 3) := by decide +kernel
theorem dX7_init_23 : decode cX7_init 23 = .ok (.putfield 19, 3) := by decide +kernel
theorem dX7_init_26 : decode cX7_init 26 = .ok (.aload_n 0, 1) := by decide +kernel
theorem dX7_init_27 : decode cX7_init 27 = .ok (.new 23, 3) := by decide +kernel
theorem dX7_init_30 : decode cX7_init 30 = .ok (.dup, 1) := by decide +kernel
theorem dX7_init_31 : decode cX7_init 31 = .ok (.aload_n 0, 1) := by decide +kernel
theorem dX7_init_32 : decode cX7_init 32 = .ok (.getfield 12, 3) := by decide +kernel
theorem dX7_init_35 : decode cX7_init 35 = .ok (.aload_n 0, 1) := by decide +kernel
theorem dX7_init_36 : decode cX7_init 36 = .ok (.getfield 19, 3) := by decide +kernel
theorem dX7_init_39 : decode cX7_init 39 = .ok (.invokespecial 25, 3) := by decide +kernel
theorem dX7_init_42 : decode cX7_init 42 = .ok (.putfield 28, 3) := by decide +kernel
theorem dX7_init_45 : decode cX7_init 45 = .ok (.aload_n 0, 1) := by decide +kernel
theorem dX7_init_46 : decode cX7_init 46 = .ok (.new 32, 3) := by decide +kernel
theorem dX7_init_49 : decode cX7_init 49 = .ok (.dup, 1) := by decide +kernel
theorem dX7_init_50 : decode cX7_init 50 = .ok (.aload_n 0, 1) := by decide +kernel
theorem dX7_init_51 : decode cX7_init 51 = .ok (.getfield 12, 3) := by decide +kernel
theorem dX7_init_54 : decode cX7_init 54 = .ok (.invokespecial 34, 3) := by decide +kernel
theorem dX7_init_57 : decode cX7_init 57 = .ok (.putfield 37, 3) := by decide +kernel
theorem dX7_init_60 : decode cX7_init 60 = .ok (.aload_n 0, 1) := by decide +kernel
theorem dX7_init_61 : decode cX7_init 61 = .ok (.new 41, 3) := by decide +kernel
theorem dX7_init_64 : decode cX7_init 64 = .ok (.dup, 1) := by decide +kernel
theorem dX7_init_65 : decode cX7_init 65 = .ok (.aload_n 0, 1) := by decide +kernel
theorem dX7_init_66 : decode cX7_init 66 = .ok (.getfield 12, 3) := by decide +kernel
theorem dX7_init_69 : decode cX7_init 69 = .ok (.aload_n 0, 1) := by decide +kernel
theorem dX7_init_70 : decode cX7_init 70 = .ok (.getfield 19, 3) := by decide +kernel
theorem dX7_init_73 : decode cX7_init 73 = .ok (.aload_n 0, 1) := by decide +kernel
theorem dX7_init_74 : decode cX7_init 74 = .ok (.getfield 28, 3) := by decide +kernel
theorem dX7_init_77 : decode cX7_init 77 = .ok (.invokespecial 43, 3) := by decide +kernel
theorem dX7_init_80 : decode cX7_init 80 = .ok (.putfield 46, 3) := by decide +kernel
theorem dX7_init_83 : decode cX7_init 83 = .ok (.aload_n 0, 1) := by decide +kernel
theorem dX7_init_84 : decode cX7_init 84 = .ok (.new 50, 3) := by decide +kernel
theorem dX7_init_87 : decode cX7_init 87 = .ok (.dup, 1) := by decide +kernel
theorem dX7_init_88 : decode cX7_init 88 = .ok (.aload_n 0, 1) := by decide +kernel
theorem dX7_init_89 : decode cX7_init 89 = .ok (.getfield 12, 3) := by decide +kernel
theorem dX7_init_92 : decode cX7_init 92 = .ok (.aload_n 0, 1) := by decide +kernel
theorem dX7_init_93 : decode cX7_init 93 = .ok (.getfield 19, 3) := by decide +kernel
theorem dX7_init_96 : decode cX7_init 96 = .ok (.aload_n 0, 1) := by decide +kernel
theorem dX7_init_97 : decode cX7_init 97 = .ok (.getfield 28, 3) := by decide +kernel
theorem dX7_init_100 : decode cX7_init 100 = .ok (.invokespecial 52, 3) := by decide +kernel
theorem dX7_init_103 : decode cX7_init 103 = .ok (.putfield 53, 3) := by decide +kernel
theorem dX7_init_106 : decode cX7_init 106 = .ok (.aload_n 0, 1) := by decide +kernel
theorem dX7_init_107 : decode cX7_init 107 = .ok (.new 57, 3) := by decide +kernel
theorem dX7_init_110 : decode cX7_init 110 = .ok (.dup, 1) := by decide +kernel
theorem dX7_init_111 : decode cX7_init 111 = .ok (.aload_n 0, 1) := by decide +kernel
theorem dX7_init_112 : decode cX7_init 112 = .ok (.getfield 12, 3) := by decide +kernel
theorem dX7_init_115 : decode cX7_init 115 = .ok (.invokespecial 59, 3) := by decide +kernel
theorem dX7_init_118 : decode cX7_init 118 = .ok (.putfield 60, 3) := by decide +kernel
theorem dX7_init_121 : decode cX7_init 121 = .ok (.aload_n 0, 1) := by decide +kernel
theorem dX7_init_122 : decode cX7_init 122 = .ok (.iconst 2, 1) := by decide +kernel
theorem dX7_init_123 : decode cX7_init 123 = .ok (.anewarray 9, 3) := by decide +kernel
theorem dX7_init_126 : decode cX7_init 126 = .ok (.putfield 64, 3) := by decide +kernel
theorem dX7_init_129 : decode cX7_init 129 = .ok (.aload_n 0, 1) := by decide +kernel
theorem dX7_init_130 : decode cX7_init 130 = .ok (.iconst 2, 1) := by decide +kernel
theorem dX7_init_131 : decode cX7_init 131 = .ok (.newarray .boolean, 2) := by decide +kernel
theorem dX7_init_133 : decode cX7_init 133 = .ok (.putfield 68, 3) := by decide +kernel
theorem dX7_init_136 : decode cX7_init 136 = .ok (.iconst 0, 1) := by decide +kernel
theorem dX7_init_137 : decode cX7_init 137 = .ok (.istore_n 1, 1) := by decide +kernel
theorem dX7_init_138 : decode cX7_init 138 = .ok (.iload_n 1, 1) := by decide +kernel
theorem dX7_init_139 : decode cX7_init 139 = .ok (.iconst 2, 1) := by decide +kernel
theorem dX7_init_140 : decode cX7_init 140 = .ok (.if_icmp .ge 22, 3) := by decide +kernel
theorem dX7_init_143 : decode cX7_init 143 = .ok (.aload_n 0, 1) := by decide +kernel
theorem dX7_init_144 : decode cX7_init 144 = .ok (.getfield 64, 3) := by decide +kernel
theorem dX7_init_147 : decode cX7_init 147 = .ok (.iload_n 1, 1) := by decide +kernel
theorem dX7_init_148 : decode cX7_init 148 = .ok (.new 9, 3) := by decide +kernel
theorem dX7_init_151 : decode cX7_init 151 = .ok (.dup, 1) := by decide +kernel
theorem dX7_init_152 : decode cX7_init 152 = .ok (.invokespecial 11, 3) := by decide +kernel
theorem dX7_init_155 : decode cX7_init 155 = .ok (.aastore, 1) := by decide +kernel
theorem dX7_init_156 : decode cX7_init 156 = .ok (.iinc 1 1, 3) := by decide +kernel
theorem dX7_init_159 : decode cX7_init 159 = .ok (.goto (-21), 3) := by decide +kernel
theorem dX7_init_162 : decode cX7_init 162 = .ok (.aload_n 0, 1) := by decide +kernel
theorem dX7_init_163 : decode cX7_init 163 = .ok (.iconst 4, 1) := by decide +kernel
theorem dX7_init_164 : decode cX7_init 164 = .ok (.newarray .int, 2) := by decide +kernel
theorem dX7_init_166 : decode cX7_init 166 = .ok (.putfield 72, 3) := by decide +kernel
theorem dX7_init_169 : decode cX7_init 169 = .ok (.return_, 1) := by decide +kernel
theorem dX7_set_0 : decode cX7_set 0 = .ok (.iload_n 1, 1) := by decide +kernel
theorem dX7_set_1 : decode cX7_set 1 = .ok (.iconst 0, 1) := by decide +kernel
theorem dX7_set_2 : decode cX7_set 2 = .ok (.iconst 4, 1) := by decide +kernel
theorem dX7_set_3 : decode cX7_set 3 = .ok (.invokestatic 76, 3) := by decide +kernel
theorem dX7_set_6 : decode cX7_set 6 = .ok (.ifCond .eq 16, 3) := by decide +kernel
theorem dX7_set_9 : decode cX7_set 9 = .ok (.iload_n 2, 1) := by decide +kernel
theorem dX7_set_10 : decode cX7_set 10 = .ok (.iconst 0, 1) := by decide +kernel
theorem dX7_set_11 : decode cX7_set 11 = .ok (.getstatic 80, 3) := by decide +kernel
theorem dX7_set_14 : decode cX7_set 14 = .ok (.iload_n 1, 1) := by decide +kernel
theorem dX7_set_15 : decode cX7_set 15 = .ok (.iaload, 1) := by decide +kernel
theorem dX7_set_16 : decode cX7_set 16 = .ok (.invokestatic 76, 3) := by decide +kernel
theorem dX7_set_19 : decode cX7_set 19 = .ok (.ifCond .ne 6, 3) := by decide +kernel
theorem dX7_set_22 : decode cX7_set 22 = .ok (.bipush (-2), 2) := by decide +kernel
theorem dX7_set_24 : decode cX7_set 24 = .ok (.ireturn, 1) := by decide +kernel
theorem dX7_set_25 : decode cX7_set 25 = .ok (.aload_n 0, 1) := by decide +kernel
theorem dX7_set_26 : decode cX7_set 26 = .ok (.getfield 12, 3) := by decide +kernel
theorem dX7_set_29 : decode cX7_set 29 = .ok (.getfield 83, 3) := by decide +kernel
theorem dX7_set_32 : decode cX7_set 32 = .ok (.iload_n 1, 1) := by decide +kernel
theorem dX7_set_33 : decode cX7_set 33 = .ok (.iaload, 1) := by decide +kernel
theorem dX7_set_34 : decode cX7_set 34 = .ok (.istore_n 3, 1) := by decide +kernel
theorem dX7_set_35 : decode cX7_set 35 = .ok (.aload_n 0, 1) := by decide +kernel
theorem dX7_set_36 : decode cX7_set 36 = .ok (.getfield 12, 3) := by decide +kernel
theorem dX7_set_39 : decode cX7_set 39 = .ok (.getfield 83, 3) := by decide +kernel
theorem dX7_set_42 : decode cX7_set 42 = .ok (.iload_n 1, 1) := by decide +kernel
theorem dX7_set_43 : decode cX7_set 43 = .ok (.iload_n 2, 1) := by decide +kernel
theorem dX7_set_44 : decode cX7_set 44 = .ok (.iastore, 1) := by decide +kernel
theorem dX7_set_45 : decode cX7_set 45 = .ok (.iload_n 3, 1) := by decide +kernel
theorem dX7_set_46 : decode cX7_set 46 = .ok (.ireturn, 1) := by decide +kernel
theorem dX7_day_0 : decode cX7_day 0 = .ok (.iload_n 1, 1) := by decide +kernel
theorem dX7_day_1 : decode cX7_day 1 = .ok (.invokestatic 86, 3) := by decide +kernel
theorem dX7_day_4 : decode cX7_day 4 = .ok (.ifCond .ne 5, 3) := by decide +kernel
theorem dX7_day_7 : decode cX7_day 7 = .ok (.iconst (-1), 1) := by decide +kernel
theorem dX7_day_8 : decode cX7_day 8 = .ok (.ireturn, 1) := by decide +kernel
theorem dX7_day_9 : decode cX7_day 9 = .ok (.iload_n 2, 1) := by decide +kernel
theorem dX7_day_10 : decode cX7_day 10 = .ok (.iconst 0, 1) := by decide +kernel
theorem dX7_day_11 : decode cX7_day 11 = .ok (.iconst 4, 1) := by decide +kernel
theorem dX7_day_12 : decode cX7_day 12 = .ok (.invokestatic 76, 3) := by decide +kernel
theorem dX7_day_15 : decode cX7_day 15 = .ok (.ifCond .ne 6, 3) := by decide +kernel
theorem dX7_day_18 : decode cX7_day 18 = .ok (.bipush (-2), 2) := by decide +kernel
theorem dX7_day_20 : decode cX7_day 20 = .ok (.ireturn, 1) := by decide +kernel
theorem dX7_day_21 : decode cX7_day 21 = .ok (.aload_n 0, 1) := by decide +kernel
theorem dX7_day_22 : decode cX7_day 22 = .ok (.getfield 12, 3) := by decide +kernel
theorem dX7_day_25 : decode cX7_day 25 = .ok (.getfield 90, 3) := by decide +kernel
theorem dX7_day_28 : decode cX7_day 28 = .ok (.iload_n 1, 1) := by decide +kernel
theorem dX7_day_29 : decode cX7_day 29 = .ok (.iaload, 1) := by decide +kernel
theorem dX7_day_30 : decode cX7_day 30 = .ok (.istore 4, 2) := by decide +kernel
theorem dX7_day_32 : decode cX7_day 32 = .ok (.aload_n 0, 1) := by decide +kernel
theorem dX7_day_33 : decode cX7_day 33 = .ok (.getfield 12, 3) := by decide +kernel
theorem dX7_day_36 : decode cX7_day 36 = .ok (.getfield 90, 3) := by decide +kernel
theorem dX7_day_39 : decode cX7_day 39 = .ok (.iload_n 1, 1) := by decide +kernel
theorem dX7_day_40 : decode cX7_day 40 = .ok (.iload_n 2, 1) := by decide +kernel
theorem dX7_day_41 : decode cX7_day 41 = .ok (.iastore, 1) := by decide +kernel
theorem dX7_day_42 : decode cX7_day 42 = .ok (.aload_n 0, 1) := by decide +kernel
theorem dX7_day_43 : decode cX7_day 43 = .ok (.getfield 12, 3) := by decide +kernel
theorem dX7_day_46 : decode cX7_day 46 = .ok (.getfield 93, 3) := by decide +kernel
theorem dX7_day_49 : decode cX7_day 49 = .ok (.iload_n 1, 1) := by decide +kernel
theorem dX7_day_50 : decode cX7_day 50 = .ok (.iload_n 3, 1) := by decide +kernel
theorem dX7_day_51 : decode cX7_day 51 = .ok (.bastore, 1) := by decide +kernel
theorem dX7_day_52 : decode cX7_day 52 = .ok (.iload 4, 2) := by decide +kernel
theorem dX7_day_54 : decode cX7_day 54 = .ok (.ireturn, 1) := by decide +kernel
theorem dX7_meal_0 : decode cX7_meal 0 = .ok (.iload_n 1, 1) := by decide +kernel
theorem dX7_meal_1 : decode cX7_meal 1 = .ok (.iconst 0, 1) := by decide +kernel
theorem dX7_meal_2 : decode cX7_meal 2 = .ok (.iconst 5, 1) := by decide +kernel
theorem dX7_meal_3 : decode cX7_meal 3 = .ok (.invokestatic 76, 3) := by decide +kernel
theorem dX7_meal_6 : decode cX7_meal 6 = .ok (.ifCond .ne 5, 3) := by decide +kernel
theorem dX7_meal_9 : decode cX7_meal 9 = .ok (.iconst (-1), 1) := by decide +kernel
theorem dX7_meal_10 : decode cX7_meal 10 = .ok (.ireturn, 1) := by decide +kernel
theorem dX7_meal_11 : decode cX7_meal 11 = .ok (.iload_n 2, 1) := by decide +kernel
theorem dX7_meal_12 : decode cX7_meal 12 = .ok (.iconst 1, 1) := by decide +kernel
theorem dX7_meal_13 : decode cX7_meal 13 = .ok (.iconst 4, 1) := by decide +kernel
theorem dX7_meal_14 : decode cX7_meal 14 = .ok (.invokestatic 76, 3) := by decide +kernel
theorem dX7_meal_17 : decode cX7_meal 17 = .ok (.ifCond .eq 24, 3) := by decide +kernel
theorem dX7_meal_20 : decode cX7_meal 20 = .ok (.iload_n 3, 1) := by decide +kernel
theorem dX7_meal_21 : decode cX7_meal 21 = .ok (.iconst 0, 1) := by decide +kernel
theorem dX7_meal_22 : decode cX7_meal 22 = .ok (.bipush 60, 2) := by decide +kernel
theorem dX7_meal_24 : decode cX7_meal 24 = .ok (.invokestatic 76, 3) := by decide +kernel
theorem dX7_meal_27 : decode cX7_meal 27 = .ok (.ifCond .eq 14, 3) := by decide +kernel
theorem dX7_meal_30 : decode cX7_meal 30 = .ok (.iload 4, 2) := by decide +kernel
theorem dX7_meal_32 : decode cX7_meal 32 = .ok (.iconst 1, 1) := by decide +kernel
theorem dX7_meal_33 : decode cX7_meal 33 = .ok (.bipush 100, 2) := by decide +kernel
theorem dX7_meal_35 : decode cX7_meal 35 = .ok (.invokestatic 76, 3) := by decide +kernel
theorem dX7_meal_38 : decode cX7_meal 38 = .ok (.ifCond .ne 6, 3) := by decide +kernel
theorem dX7_meal_41 : decode cX7_meal 41 = .ok (.bipush (-2), 2) := by decide +kernel
theorem dX7_meal_43 : decode cX7_meal 43 = .ok (.ireturn, 1) := by decide +kernel
theorem dX7_meal_44 : decode cX7_meal 44 = .ok (.aload_n 0, 1) := by decide +kernel
theorem dX7_meal_45 : decode cX7_meal 45 = .ok (.getfield 12, 3) := by decide +kernel
theorem dX7_meal_48 : decode cX7_meal 48 = .ok (.dup, 1) := by decide +kernel
theorem dX7_meal_49 : decode cX7_meal 49 = .ok (.getfield 96, 3) := by decide +kernel
theorem dX7_meal_52 : decode cX7_meal 52 = .ok (.iconst 1, 1) := by decide +kernel
theorem dX7_meal_53 : decode cX7_meal 53 = .ok (.iload_n 1, 1) := by decide +kernel
theorem dX7_meal_54 : decode cX7_meal 54 = .ok (.ishl, 1) := by decide +kernel
theorem dX7_meal_55 : decode cX7_meal 55 = .ok (.ior, 1) := by decide +kernel
theorem dX7_meal_56 : decode cX7_meal 56 = .ok (.putfield 96, 3) := by decide +kernel
theorem dX7_meal_59 : decode cX7_meal 59 = .ok (.aload_n 0, 1) := by decide +kernel
theorem dX7_meal_60 : decode cX7_meal 60 = .ok (.getfield 12, 3) := by decide +kernel
theorem dX7_meal_63 : decode cX7_meal 63 = .ok (.getfield 100, 3) := by decide +kernel
theorem dX7_meal_66 : decode cX7_meal 66 = .ok (.iload_n 1, 1) := by decide +kernel
theorem dX7_meal_67 : decode cX7_meal 67 = .ok (.iload_n 2, 1) := by decide +kernel
theorem dX7_meal_68 : decode cX7_meal 68 = .ok (.iastore, 1) := by decide +kernel
theorem dX7_meal_69 : decode cX7_meal 69 = .ok (.aload_n 0, 1) := by decide +kernel
theorem dX7_meal_70 : decode cX7_meal 70 = .ok (.getfield 12, 3) := by decide +kernel
theorem dX7_meal_73 : decode cX7_meal 73 = .ok (.getfield 103, 3) := by decide +kernel
theorem dX7_meal_76 : decode cX7_meal 76 = .ok (.iload_n 1, 1) := by decide +kernel
theorem dX7_meal_77 : decode cX7_meal 77 = .ok (.iload_n 3, 1) := by decide +kernel
theorem dX7_meal_78 : decode cX7_meal 78 = .ok (.iastore, 1) := by decide +kernel
theorem dX7_meal_79 : decode cX7_meal 79 = .ok (.aload_n 0, 1) := by decide +kernel
theorem dX7_meal_80 : decode cX7_meal 80 = .ok (.getfield 12, 3) := by decide +kernel
theorem dX7_meal_83 : decode cX7_meal 83 = .ok (.getfield 106, 3) := by decide +kernel
theorem dX7_meal_86 : decode cX7_meal 86 = .ok (.iload_n 1, 1) := by decide +kernel
theorem dX7_meal_87 : decode cX7_meal 87 = .ok (.iload 4, 2) := by decide +kernel
theorem dX7_meal_89 : decode cX7_meal 89 = .ok (.iastore, 1) := by decide +kernel
theorem dX7_meal_90 : decode cX7_meal 90 = .ok (.aload_n 0, 1) := by decide +kernel
theorem dX7_meal_91 : decode cX7_meal 91 = .ok (.getfield 12, 3) := by decide +kernel
theorem dX7_meal_94 : decode cX7_meal 94 = .ok (.getfield 96, 3) := by decide +kernel
theorem dX7_meal_97 : decode cX7_meal 97 = .ok (.invokestatic 109, 3) := by decide +kernel
theorem dX7_meal_100 : decode cX7_meal 100 = .ok (.ireturn, 1) := by decide +kernel
theorem dX7_say_0 : decode cX7_say 0 = .ok (.iload_n 1, 1) := by decide +kernel
theorem dX7_say_1 : decode cX7_say 1 = .ok (.bipush 33, 2) := by decide +kernel
theorem dX7_say_3 : decode cX7_say 3 = .ok (.bipush 126, 2) := by decide +kernel
theorem dX7_say_5 : decode cX7_say 5 = .ok (.invokestatic 76, 3) := by decide +kernel
theorem dX7_say_8 : decode cX7_say 8 = .ok (.ifCond .ne 6, 3) := by decide +kernel
theorem dX7_say_11 : decode cX7_say 11 = .ok (.bipush (-2), 2) := by decide +kernel
theorem dX7_say_13 : decode cX7_say 13 = .ok (.ireturn, 1) := by decide +kernel
theorem dX7_say_14 : decode cX7_say 14 = .ok (.aload_n 0, 1) := by decide +kernel
theorem dX7_say_15 : decode cX7_say 15 = .ok (.getfield 19, 3) := by decide +kernel
theorem dX7_say_18 : decode cX7_say 18 = .ok (.getfield 115, 3) := by decide +kernel
theorem dX7_say_21 : decode cX7_say 21 = .ok (.bipush 60, 2) := by decide +kernel
theorem dX7_say_23 : decode cX7_say 23 = .ok (.if_icmp .lt 6, 3) := by decide +kernel
theorem dX7_say_26 : decode cX7_say 26 = .ok (.bipush (-4), 2) := by decide +kernel
theorem dX7_say_28 : decode cX7_say 28 = .ok (.ireturn, 1) := by decide +kernel
theorem dX7_say_29 : decode cX7_say 29 = .ok (.aload_n 0, 1) := by decide +kernel
theorem dX7_say_30 : decode cX7_say 30 = .ok (.getfield 19, 3) := by decide +kernel
theorem dX7_say_33 : decode cX7_say 33 = .ok (.getfield 118, 3) := by decide +kernel
theorem dX7_say_36 : decode cX7_say 36 = .ok (.aload_n 0, 1) := by decide +kernel
theorem dX7_say_37 : decode cX7_say 37 = .ok (.getfield 19, 3) := by decide +kernel
theorem dX7_say_40 : decode cX7_say 40 = .ok (.getfield 115, 3) := by decide +kernel
theorem dX7_say_43 : decode cX7_say 43 = .ok (.iload_n 1, 1) := by decide +kernel
theorem dX7_say_44 : decode cX7_say 44 = .ok (.iastore, 1) := by decide +kernel
theorem dX7_say_45 : decode cX7_say 45 = .ok (.aload_n 0, 1) := by decide +kernel
theorem dX7_say_46 : decode cX7_say 46 = .ok (.getfield 19, 3) := by decide +kernel
theorem dX7_say_49 : decode cX7_say 49 = .ok (.dup, 1) := by decide +kernel
theorem dX7_say_50 : decode cX7_say 50 = .ok (.getfield 115, 3) := by decide +kernel
theorem dX7_say_53 : decode cX7_say 53 = .ok (.iconst 1, 1) := by decide +kernel
theorem dX7_say_54 : decode cX7_say 54 = .ok (.iadd, 1) := by decide +kernel
theorem dX7_say_55 : decode cX7_say 55 = .ok (.putfield 115, 3) := by decide +kernel
theorem dX7_say_58 : decode cX7_say 58 = .ok (.aload_n 0, 1) := by decide +kernel
theorem dX7_say_59 : decode cX7_say 59 = .ok (.getfield 19, 3) := by decide +kernel
theorem dX7_say_62 : decode cX7_say 62 = .ok (.getfield 115, 3) := by decide +kernel
theorem dX7_say_65 : decode cX7_say 65 = .ok (.ireturn, 1) := by decide +kernel
theorem dX7_wipe_0 : decode cX7_wipe 0 = .ok (.aload_n 0, 1) := by decide +kernel
theorem dX7_wipe_1 : decode cX7_wipe 1 = .ok (.getfield 19, 3) := by decide +kernel
theorem dX7_wipe_4 : decode cX7_wipe 4 = .ok (.getfield 115, 3) := by decide +kernel
theorem dX7_wipe_7 : decode cX7_wipe 7 = .ok (.istore_n 1, 1) := by decide +kernel
theorem dX7_wipe_8 : decode cX7_wipe 8 = .ok (.aload_n 0, 1) := by decide +kernel
theorem dX7_wipe_9 : decode cX7_wipe 9 = .ok (.getfield 19, 3) := by decide +kernel
theorem dX7_wipe_12 : decode cX7_wipe 12 = .ok (.iconst 0, 1) := by decide +kernel
theorem dX7_wipe_13 : decode cX7_wipe 13 = .ok (.putfield 115, 3) := by decide +kernel
theorem dX7_wipe_16 : decode cX7_wipe 16 = .ok (.iload_n 1, 1) := by decide +kernel
theorem dX7_wipe_17 : decode cX7_wipe 17 = .ok (.ireturn, 1) := by decide +kernel
theorem dX7_fault_0 : decode cX7_fault 0 = .ok (.aload_n 0, 1) := by decide +kernel
theorem dX7_fault_1 : decode cX7_fault 1 = .ok (.getfield 19, 3) := by decide +kernel
theorem dX7_fault_4 : decode cX7_fault 4 = .ok (.invokevirtual 121, 3) := by decide +kernel
theorem dX7_fault_7 : decode cX7_fault 7 = .ok (.aload_n 0, 1) := by decide +kernel
theorem dX7_fault_8 : decode cX7_fault 8 = .ok (.getfield 19, 3) := by decide +kernel
theorem dX7_fault_11 : decode cX7_fault 11 = .ok (.getfield 124, 3) := by decide +kernel
theorem dX7_fault_14 : decode cX7_fault 14 = .ok (.ireturn, 1) := by decide +kernel
theorem dX7_judge_0 : decode cX7_judge 0 = .ok (.iload_n 1, 1) := by decide +kernel
theorem dX7_judge_1 : decode cX7_judge 1 = .ok (.iconst 0, 1) := by decide +kernel
theorem dX7_judge_2 : decode cX7_judge 2 = .ok (.iconst 3, 1) := by decide +kernel
theorem dX7_judge_3 : decode cX7_judge 3 = .ok (.invokestatic 76, 3) := by decide +kernel
