theorem dX8_begin_75 : decode cX8_begin 75 = .ok (.getfield 85, 3) := by decide +kernel
theorem dX8_begin_78 : decode cX8_begin 78 = .ok (.iload_n 1, 1) := by decide +kernel
theorem dX8_begin_79 : decode cX8_begin 79 = .ok (.invokevirtual 77, 3) := by decide +kernel
theorem dX8_begin_82 : decode cX8_begin 82 = .ok (.invokevirtual 81, 3) := by decide +kernel
theorem dX8_begin_85 : decode cX8_begin 85 = .ok (.aload_n 0, 1) := by decide +kernel
theorem dX8_begin_86 : decode cX8_begin 86 = .ok (.iload_n 1, 1) := by decide +kernel
theorem dX8_begin_87 : decode cX8_begin 87 = .ok (.invokevirtual 86, 3) := by decide +kernel
theorem dX8_begin_90 : decode cX8_begin 90 = .ok (.iinc 1 1, 3) := by decide +kernel
theorem dX8_begin_93 : decode cX8_begin 93 = .ok (.goto (-60), 3) := by decide +kernel
theorem dX8_begin_96 : decode cX8_begin 96 = .ok (.iconst 0, 1) := by decide +kernel
theorem dX8_begin_97 : decode cX8_begin 97 = .ok (.istore_n 1, 1) := by decide +kernel
theorem dX8_begin_98 : decode cX8_begin 98 = .ok (.iload_n 1, 1) := by decide +kernel
theorem dX8_begin_99 : decode cX8_begin 99 = .ok (.aload_n 0, 1) := by decide +kernel
theorem dX8_begin_100 : decode cX8_begin 100 = .ok (.getfield 7, 3) := by decide +kernel
theorem dX8_begin_103 : decode cX8_begin 103 = .ok (.getfield 89, 3) := by decide +kernel
theorem dX8_begin_106 : decode cX8_begin 106 = .ok (.if_icmp .ge 28, 3) := by decide +kernel
theorem dX8_begin_109 : decode cX8_begin 109 = .ok (.aload_n 0, 1) := by decide +kernel
theorem dX8_begin_110 : decode cX8_begin 110 = .ok (.getfield 43, 3) := by decide +kernel
theorem dX8_begin_113 : decode cX8_begin 113 = .ok (.iload_n 1, 1) := by decide +kernel
theorem dX8_begin_114 : decode cX8_begin 114 = .ok (.aload_n 0, 1) := by decide +kernel
theorem dX8_begin_115 : decode cX8_begin 115 = .ok (.getfield 7, 3) := by decide +kernel
theorem dX8_begin_118 : decode cX8_begin 118 = .ok (.getfield 92, 3) := by decide +kernel
theorem dX8_begin_121 : decode cX8_begin 121 = .ok (.iload_n 1, 1) := by decide +kernel
theorem dX8_begin_122 : decode cX8_begin 122 = .ok (.invokevirtual 77, 3) := by decide +kernel
theorem dX8_begin_125 : decode cX8_begin 125 = .ok (.invokevirtual 81, 3) := by decide +kernel
theorem dX8_begin_128 : decode cX8_begin 128 = .ok (.iinc 1 1, 3) := by decide +kernel
theorem dX8_begin_131 : decode cX8_begin 131 = .ok (.goto (-33), 3) := by decide +kernel
theorem dX8_begin_134 : decode cX8_begin 134 = .ok (.aload_n 0, 1) := by decide +kernel
theorem dX8_begin_135 : decode cX8_begin 135 = .ok (.getfield 49, 3) := by decide +kernel
theorem dX8_begin_138 : decode cX8_begin 138 = .ok (.invokevirtual 93, 3) := by decide +kernel
theorem dX8_begin_141 : decode cX8_begin 141 = .ok (.aload_n 0, 1) := by decide +kernel
theorem dX8_begin_142 : decode cX8_begin 142 = .ok (.getfield 53, 3) := by decide +kernel
theorem dX8_begin_145 : decode cX8_begin 145 = .ok (.iconst 0, 1) := by decide +kernel
theorem dX8_begin_146 : decode cX8_begin 146 = .ok (.invokevirtual 68, 3) := by decide +kernel
theorem dX8_begin_149 : decode cX8_begin 149 = .ok (.aload_n 0, 1) := by decide +kernel
theorem dX8_begin_150 : decode cX8_begin 150 = .ok (.getfield 56, 3) := by decide +kernel
theorem dX8_begin_153 : decode cX8_begin 153 = .ok (.iconst 0, 1) := by decide +kernel
theorem dX8_begin_154 : decode cX8_begin 154 = .ok (.invokevirtual 68, 3) := by decide +kernel
theorem dX8_begin_157 : decode cX8_begin 157 = .ok (.return_, 1) := by decide +kernel
theorem dX8_copyFrom_0 : decode cX8_copyFrom 0 = .ok (.aload_n 0, 1) := by decide +kernel
theorem dX8_copyFrom_1 : decode cX8_copyFrom 1 = .ok (.aload_n 1, 1) := by decide +kernel
theorem dX8_copyFrom_2 : decode cX8_copyFrom 2 = .ok (.getfield 13, 3) := by decide +kernel
theorem dX8_copyFrom_5 : decode cX8_copyFrom 5 = .ok (.putfield 13, 3) := by decide +kernel
theorem dX8_copyFrom_8 : decode cX8_copyFrom 8 = .ok (.aload_n 0, 1) := by decide +kernel
theorem dX8_copyFrom_9 : decode cX8_copyFrom 9 = .ok (.aload_n 1, 1) := by decide +kernel
theorem dX8_copyFrom_10 : decode cX8_copyFrom 10 = .ok (.getfield 17, 3) := by decide +kernel
theorem dX8_copyFrom_13 : decode cX8_copyFrom 13 = .ok (.putfield 17, 3) := by decide +kernel
theorem dX8_copyFrom_16 : decode cX8_copyFrom 16 = .ok (.aload_n 0, 1) := by decide +kernel
theorem dX8_copyFrom_17 : decode cX8_copyFrom 17 = .ok (.aload_n 1, 1) := by decide +kernel
theorem dX8_copyFrom_18 : decode cX8_copyFrom 18 = .ok (.getfield 59, 3) := by decide +kernel
theorem dX8_copyFrom_21 : decode cX8_copyFrom 21 = .ok (.putfield 59, 3) := by decide +kernel
theorem dX8_copyFrom_24 : decode cX8_copyFrom 24 = .ok (.aload_n 0, 1) := by decide +kernel
theorem dX8_copyFrom_25 : decode cX8_copyFrom 25 = .ok (.aload_n 1, 1) := by decide +kernel
theorem dX8_copyFrom_26 : decode cX8_copyFrom 26 = .ok (.getfield 62, 3) := by decide +kernel
theorem dX8_copyFrom_29 : decode cX8_copyFrom 29 = .ok (.putfield 62, 3) := by decide +kernel
theorem dX8_copyFrom_32 : decode cX8_copyFrom 32 = .ok (.aload_n 0, 1) := by decide +kernel
theorem dX8_copyFrom_33 : decode cX8_copyFrom 33 = .ok (.aload_n 1, 1) := by decide +kernel
theorem dX8_copyFrom_34 : decode cX8_copyFrom 34 = .ok (.getfield 65, 3) := by decide +kernel
theorem dX8_copyFrom_37 : decode cX8_copyFrom 37 = .ok (.putfield 65, 3) := by decide +kernel
theorem dX8_copyFrom_40 : decode cX8_copyFrom 40 = .ok (.aload_n 0, 1) := by decide +kernel
theorem dX8_copyFrom_41 : decode cX8_copyFrom 41 = .ok (.getfield 27, 3) := by decide +kernel
theorem dX8_copyFrom_44 : decode cX8_copyFrom 44 = .ok (.aload_n 1, 1) := by decide +kernel
theorem dX8_copyFrom_45 : decode cX8_copyFrom 45 = .ok (.getfield 27, 3) := by decide +kernel
theorem dX8_copyFrom_48 : decode cX8_copyFrom 48 = .ok (.invokevirtual 96, 3) := by decide +kernel
theorem dX8_copyFrom_51 : decode cX8_copyFrom 51 = .ok (.aload_n 0, 1) := by decide +kernel
theorem dX8_copyFrom_52 : decode cX8_copyFrom 52 = .ok (.getfield 31, 3) := by decide +kernel
theorem dX8_copyFrom_55 : decode cX8_copyFrom 55 = .ok (.aload_n 1, 1) := by decide +kernel
theorem dX8_copyFrom_56 : decode cX8_copyFrom 56 = .ok (.getfield 31, 3) := by decide +kernel
theorem dX8_copyFrom_59 : decode cX8_copyFrom 59 = .ok (.invokevirtual 96, 3) := by decide +kernel
theorem dX8_copyFrom_62 : decode cX8_copyFrom 62 = .ok (.aload_n 0, 1) := by decide +kernel
theorem dX8_copyFrom_63 : decode cX8_copyFrom 63 = .ok (.getfield 34, 3) := by decide +kernel
theorem dX8_copyFrom_66 : decode cX8_copyFrom 66 = .ok (.aload_n 1, 1) := by decide +kernel
theorem dX8_copyFrom_67 : decode cX8_copyFrom 67 = .ok (.getfield 34, 3) := by decide +kernel
theorem dX8_copyFrom_70 : decode cX8_copyFrom 70 = .ok (.invokevirtual 96, 3) := by decide +kernel
theorem dX8_copyFrom_73 : decode cX8_copyFrom 73 = .ok (.aload_n 0, 1) := by decide +kernel
theorem dX8_copyFrom_74 : decode cX8_copyFrom 74 = .ok (.getfield 37, 3) := by decide +kernel
theorem dX8_copyFrom_77 : decode cX8_copyFrom 77 = .ok (.aload_n 1, 1) := by decide +kernel
theorem dX8_copyFrom_78 : decode cX8_copyFrom 78 = .ok (.getfield 37, 3) := by decide +kernel
theorem dX8_copyFrom_81 : decode cX8_copyFrom 81 = .ok (.invokevirtual 96, 3) := by decide +kernel
theorem dX8_copyFrom_84 : decode cX8_copyFrom 84 = .ok (.aload_n 0, 1) := by decide +kernel
theorem dX8_copyFrom_85 : decode cX8_copyFrom 85 = .ok (.getfield 40, 3) := by decide +kernel
theorem dX8_copyFrom_88 : decode cX8_copyFrom 88 = .ok (.aload_n 1, 1) := by decide +kernel
theorem dX8_copyFrom_89 : decode cX8_copyFrom 89 = .ok (.getfield 40, 3) := by decide +kernel
theorem dX8_copyFrom_92 : decode cX8_copyFrom 92 = .ok (.invokevirtual 96, 3) := by decide +kernel
theorem dX8_copyFrom_95 : decode cX8_copyFrom 95 = .ok (.aload_n 0, 1) := by decide +kernel
theorem dX8_copyFrom_96 : decode cX8_copyFrom 96 = .ok (.getfield 43, 3) := by decide +kernel
theorem dX8_copyFrom_99 : decode cX8_copyFrom 99 = .ok (.aload_n 1, 1) := by decide +kernel
theorem dX8_copyFrom_100 : decode cX8_copyFrom 100 = .ok (.getfield 43, 3) := by decide +kernel
theorem dX8_copyFrom_103 : decode cX8_copyFrom 103 = .ok (.invokevirtual 96, 3) := by decide +kernel
theorem dX8_copyFrom_106 : decode cX8_copyFrom 106 = .ok (.aload_n 0, 1) := by decide +kernel
theorem dX8_copyFrom_107 : decode cX8_copyFrom 107 = .ok (.getfield 49, 3) := by decide +kernel
theorem dX8_copyFrom_110 : decode cX8_copyFrom 110 = .ok (.aload_n 1, 1) := by decide +kernel
theorem dX8_copyFrom_111 : decode cX8_copyFrom 111 = .ok (.getfield 49, 3) := by decide +kernel
theorem dX8_copyFrom_114 : decode cX8_copyFrom 114 = .ok (.invokevirtual 100, 3) := by decide +kernel
theorem dX8_copyFrom_117 : decode cX8_copyFrom 117 = .ok (.aload_n 0, 1) := by decide +kernel
theorem dX8_copyFrom_118 : decode cX8_copyFrom 118 = .ok (.getfield 53, 3) := by decide +kernel
theorem dX8_copyFrom_121 : decode cX8_copyFrom 121 = .ok (.aload_n 1, 1) := by decide +kernel
theorem dX8_copyFrom_122 : decode cX8_copyFrom 122 = .ok (.getfield 53, 3) := by decide +kernel
theorem dX8_copyFrom_125 : decode cX8_copyFrom 125 = .ok (.invokevirtual 96, 3) := by decide +kernel
theorem dX8_copyFrom_128 : decode cX8_copyFrom 128 = .ok (.aload_n 0, 1) := by decide +kernel
theorem dX8_copyFrom_129 : decode cX8_copyFrom 129 = .ok (.getfield 56, 3) := by decide +kernel
theorem dX8_copyFrom_132 : decode cX8_copyFrom 132 = .ok (.aload_n 1, 1) := by decide +kernel
theorem dX8_copyFrom_133 : decode cX8_copyFrom 133 = .ok (.getfield 56, 3) := by decide +kernel
theorem dX8_copyFrom_136 : decode cX8_copyFrom 136 = .ok (.invokevirtual 96, 3) := by decide +kernel
theorem dX8_copyFrom_139 : decode cX8_copyFrom 139 = .ok (.return_, 1) := by decide +kernel
theorem dX8_loseWeight_0 : decode cX8_loseWeight 0 = .ok (.iconst 0, 1) := by decide +kernel
theorem dX8_loseWeight_1 : decode cX8_loseWeight 1 = .ok (.istore_n 1, 1) := by decide +kernel
theorem dX8_loseWeight_2 : decode cX8_loseWeight 2 = .ok (.iload_n 1, 1) := by decide +kernel
theorem dX8_loseWeight_3 : decode cX8_loseWeight 3 = .ok (.aload_n 0, 1) := by decide +kernel
theorem dX8_loseWeight_4 : decode cX8_loseWeight 4 = .ok (.getfield 7, 3) := by decide +kernel
theorem dX8_loseWeight_7 : decode cX8_loseWeight 7 = .ok (.getfield 71, 3) := by decide +kernel
theorem dX8_loseWeight_10 : decode cX8_loseWeight 10 = .ok (.if_icmp .ge 62, 3) := by decide +kernel
theorem dX8_loseWeight_13 : decode cX8_loseWeight 13 = .ok (.aload_n 0, 1) := by decide +kernel
theorem dX8_loseWeight_14 : decode cX8_loseWeight 14 = .ok (.getfield 27, 3) := by decide +kernel
theorem dX8_loseWeight_17 : decode cX8_loseWeight 17 = .ok (.iload_n 1, 1) := by decide +kernel
theorem dX8_loseWeight_18 : decode cX8_loseWeight 18 = .ok (.invokevirtual 77, 3) := by decide +kernel
theorem dX8_loseWeight_21 : decode cX8_loseWeight 21 = .ok (.istore_n 2, 1) := by decide +kernel
theorem dX8_loseWeight_22 : decode cX8_loseWeight 22 = .ok (.aload_n 0, 1) := by decide +kernel
theorem dX8_loseWeight_23 : decode cX8_loseWeight 23 = .ok (.getfield 7, 3) := by decide +kernel
theorem dX8_loseWeight_26 : decode cX8_loseWeight 26 = .ok (.getfield 103, 3) := by decide +kernel
theorem dX8_loseWeight_29 : decode cX8_loseWeight 29 = .ok (.aload_n 0, 1) := by decide +kernel
theorem dX8_loseWeight_30 : decode cX8_loseWeight 30 = .ok (.getfield 7, 3) := by decide +kernel
theorem dX8_loseWeight_33 : decode cX8_loseWeight 33 = .ok (.getfield 106, 3) := by decide +kernel
theorem dX8_loseWeight_36 : decode cX8_loseWeight 36 = .ok (.iload_n 1, 1) := by decide +kernel
theorem dX8_loseWeight_37 : decode cX8_loseWeight 37 = .ok (.invokevirtual 77, 3) := by decide +kernel
theorem dX8_loseWeight_40 : decode cX8_loseWeight 40 = .ok (.invokevirtual 77, 3) := by decide +kernel
theorem dX8_loseWeight_43 : decode cX8_loseWeight 43 = .ok (.istore_n 3, 1) := by decide +kernel
theorem dX8_loseWeight_44 : decode cX8_loseWeight 44 = .ok (.aload_n 0, 1) := by decide +kernel
theorem dX8_loseWeight_45 : decode cX8_loseWeight 45 = .ok (.getfield 27, 3) := by decide +kernel
theorem dX8_loseWeight_48 : decode cX8_loseWeight 48 = .ok (.iload_n 1, 1) := by decide +kernel
theorem dX8_loseWeight_49 : decode cX8_loseWeight 49 = .ok (.iload_n 2, 1) := by decide +kernel
theorem dX8_loseWeight_50 : decode cX8_loseWeight 50 = .ok (.iload_n 2, 1) := by decide +kernel
theorem dX8_loseWeight_51 : decode cX8_loseWeight 51 = .ok (.iload_n 3, 1) := by decide +kernel
theorem dX8_loseWeight_52 : decode cX8_loseWeight 52 = .ok (.imul, 1) := by decide +kernel
theorem dX8_loseWeight_53 : decode cX8_loseWeight 53 = .ok (.aload_n 0, 1) := by decide +kernel
theorem dX8_loseWeight_54 : decode cX8_loseWeight 54 = .ok (.getfield 17, 3) := by decide +kernel
theorem dX8_loseWeight_57 : decode cX8_loseWeight 57 = .ok (.imul, 1) := by decide +kernel
theorem dX8_loseWeight_58 : decode cX8_loseWeight 58 = .ok (.sipush 1000, 3) := by decide +kernel
theorem dX8_loseWeight_61 : decode cX8_loseWeight 61 = .ok (.idiv, 1) := by decide +kernel
theorem dX8_loseWeight_62 : decode cX8_loseWeight 62 = .ok (.isub, 1) := by decide +kernel
theorem dX8_loseWeight_63 : decode cX8_loseWeight 63 = .ok (.invokevirtual 81, 3) := by decide +kernel
theorem dX8_loseWeight_66 : decode cX8_loseWeight 66 = .ok (.iinc 1 1, 3) := by decide +kernel
theorem dX8_loseWeight_69 : decode cX8_loseWeight 69 = .ok (.goto (-67), 3) := by decide +kernel
theorem dX8_loseWeight_72 : decode cX8_loseWeight 72 = .ok (.return_, 1) := by decide +kernel
theorem dX8_moveCoins_0 : decode cX8_moveCoins 0 = .ok (.aload_n 0, 1) := by decide +kernel
theorem dX8_moveCoins_1 : decode cX8_moveCoins 1 = .ok (.getfield 43, 3) := by decide +kernel
theorem dX8_moveCoins_4 : decode cX8_moveCoins 4 = .ok (.iload_n 1, 1) := by decide +kernel
theorem dX8_moveCoins_5 : decode cX8_moveCoins 5 = .ok (.iload_n 3, 1) := by decide +kernel
theorem dX8_moveCoins_6 : decode cX8_moveCoins 6 = .ok (.ineg, 1) := by decide +kernel
theorem dX8_moveCoins_7 : decode cX8_moveCoins 7 = .ok (.invokevirtual 109, 3) := by decide +kernel
theorem dX8_moveCoins_10 : decode cX8_moveCoins 10 = .ok (.aload_n 0, 1) := by decide +kernel
theorem dX8_moveCoins_11 : decode cX8_moveCoins 11 = .ok (.getfield 43, 3) := by decide +kernel
theorem dX8_moveCoins_14 : decode cX8_moveCoins 14 = .ok (.iload_n 2, 1) := by decide +kernel
theorem dX8_moveCoins_15 : decode cX8_moveCoins 15 = .ok (.iload_n 3, 1) := by decide +kernel
theorem dX8_moveCoins_16 : decode cX8_moveCoins 16 = .ok (.invokevirtual 109, 3) := by decide +kernel
theorem dX8_moveCoins_19 : decode cX8_moveCoins 19 = .ok (.return_, 1) := by decide +kernel
theorem dX8_setChop_0 : decode cX8_setChop 0 = .ok (.aload_n 0, 1) := by decide +kernel
theorem dX8_setChop_1 : decode cX8_setChop 1 = .ok (.getfield 34, 3) := by decide +kernel
theorem dX8_setChop_4 : decode cX8_setChop 4 = .ok (.iload_n 1, 1) := by decide +kernel
theorem dX8_setChop_5 : decode cX8_setChop 5 = .ok (.iload_n 2, 1) := by decide +kernel
theorem dX8_setChop_6 : decode cX8_setChop 6 = .ok (.invokevirtual 81, 3) := by decide +kernel
theorem dX8_setChop_9 : decode cX8_setChop 9 = .ok (.aload_n 0, 1) := by decide +kernel
theorem dX8_setChop_10 : decode cX8_setChop 10 = .ok (.getfield 37, 3) := by decide +kernel
theorem dX8_setChop_13 : decode cX8_setChop 13 = .ok (.iload_n 1, 1) := by decide +kernel
theorem dX8_setChop_14 : decode cX8_setChop 14 = .ok (.iload_n 3, 1) := by decide +kernel
theorem dX8_setChop_15 : decode cX8_setChop 15 = .ok (.invokevirtual 81, 3) := by decide +kernel
theorem dX8_setChop_18 : decode cX8_setChop 18 = .ok (.aload_n 0, 1) := by decide +kernel
theorem dX8_setChop_19 : decode cX8_setChop 19 = .ok (.getfield 40, 3) := by decide +kernel
theorem dX8_setChop_22 : decode cX8_setChop 22 = .ok (.iload_n 1, 1) := by decide +kernel
theorem dX8_setChop_23 : decode cX8_setChop 23 = .ok (.aload_n 0, 1) := by decide +kernel
theorem dX8_setChop_24 : decode cX8_setChop 24 = .ok (.getfield 13, 3) := by decide +kernel
theorem dX8_setChop_27 : decode cX8_setChop 27 = .ok (.invokevirtual 81, 3) := by decide +kernel
theorem dX8_setChop_30 : decode cX8_setChop 30 = .ok (.return_, 1) := by decide +kernel
theorem dX8_takeChop_0 : decode cX8_takeChop 0 = .ok (.aload_n 0, 1) := by decide +kernel
theorem dX8_takeChop_1 : decode cX8_takeChop 1 = .ok (.getfield 34, 3) := by decide +kernel
theorem dX8_takeChop_4 : decode cX8_takeChop 4 = .ok (.iload_n 1, 1) := by decide +kernel
theorem dX8_takeChop_5 : decode cX8_takeChop 5 = .ok (.iconst (-1), 1) := by decide +kernel
theorem dX8_takeChop_6 : decode cX8_takeChop 6 = .ok (.invokevirtual 81, 3) := by decide +kernel
theorem dX8_takeChop_9 : decode cX8_takeChop 9 = .ok (.aload_n 0, 1) := by decide +kernel
theorem dX8_takeChop_10 : decode cX8_takeChop 10 = .ok (.getfield 37, 3) := by decide +kernel
theorem dX8_takeChop_13 : decode cX8_takeChop 13 = .ok (.iload_n 1, 1) := by decide +kernel
theorem dX8_takeChop_14 : decode cX8_takeChop 14 = .ok (.iconst 0, 1) := by decide +kernel
theorem dX8_takeChop_15 : decode cX8_takeChop 15 = .ok (.invokevirtual 81, 3) := by decide +kernel
theorem dX8_takeChop_18 : decode cX8_takeChop 18 = .ok (.aload_n 0, 1) := by decide +kernel
theorem dX8_takeChop_19 : decode cX8_takeChop 19 = .ok (.getfield 40, 3) := by decide +kernel
theorem dX8_takeChop_22 : decode cX8_takeChop 22 = .ok (.iload_n 1, 1) := by decide +kernel
theorem dX8_takeChop_23 : decode cX8_takeChop 23 = .ok (.iconst 0, 1) := by decide +kernel
theorem dX8_takeChop_24 : decode cX8_takeChop 24 = .ok (.invokevirtual 81, 3) := by decide +kernel
theorem dX8_takeChop_27 : decode cX8_takeChop 27 = .ok (.return_, 1) := by decide +kernel
theorem dX8_ageOfChop_0 : decode cX8_ageOfChop 0 = .ok (.aload_n 0, 1) := by decide +kernel
theorem dX8_ageOfChop_1 : decode cX8_ageOfChop 1 = .ok (.getfield 34, 3) := by decide +kernel
theorem dX8_ageOfChop_4 : decode cX8_ageOfChop 4 = .ok (.iload_n 1, 1) := by decide +kernel
theorem dX8_ageOfChop_5 : decode cX8_ageOfChop 5 = .ok (.invokevirtual 77, 3) := by decide +kernel
theorem dX8_ageOfChop_8 : decode cX8_ageOfChop 8 = .ok (.ifCond .ge 7, 3) := by decide +kernel
theorem dX8_ageOfChop_11 : decode cX8_ageOfChop 11 = .ok (.iconst 0, 1) := by decide +kernel
theorem dX8_ageOfChop_12 : decode cX8_ageOfChop 12 = .ok (.goto 16, 3) := by decide +kernel
theorem dX8_ageOfChop_15 : decode cX8_ageOfChop 15 = .ok (.aload_n 0, 1) := by decide +kernel
theorem dX8_ageOfChop_16 : decode cX8_ageOfChop 16 = .ok (.getfield 13, 3) := by decide +kernel
theorem dX8_ageOfChop_19 : decode cX8_ageOfChop 19 = .ok (.aload_n 0, 1) := by decide +kernel
theorem dX8_ageOfChop_20 : decode cX8_ageOfChop 20 = .ok (.getfield 40, 3) := by decide +kernel
theorem dX8_ageOfChop_23 : decode cX8_ageOfChop 23 = .ok (.iload_n 1, 1) := by decide +kernel
theorem dX8_ageOfChop_24 : decode cX8_ageOfChop 24 = .ok (.invokevirtual 77, 3) := by decide +kernel
theorem dX8_ageOfChop_27 : decode cX8_ageOfChop 27 = .ok (.isub, 1) := by decide +kernel
theorem dX8_ageOfChop_28 : decode cX8_ageOfChop 28 = .ok (.ireturn, 1) := by decide +kernel
theorem dX8_canBeSold_0 : decode cX8_canBeSold 0 = .ok (.aload_n 0, 1) := by decide +kernel
theorem dX8_canBeSold_1 : decode cX8_canBeSold 1 = .ok (.getfield 34, 3) := by decide +kernel
theorem dX8_canBeSold_4 : decode cX8_canBeSold 4 = .ok (.iload_n 1, 1) := by decide +kernel
theorem dX8_canBeSold_5 : decode cX8_canBeSold 5 = .ok (.invokevirtual 77, 3) := by decide +kernel
theorem dX8_canBeSold_8 : decode cX8_canBeSold 8 = .ok (.ifCond .lt 24, 3) := by decide +kernel
theorem dX8_canBeSold_11 : decode cX8_canBeSold 11 = .ok (.aload_n 0, 1) := by decide +kernel
theorem dX8_canBeSold_12 : decode cX8_canBeSold 12 = .ok (.getfield 13, 3) := by decide +kernel
theorem dX8_canBeSold_15 : decode cX8_canBeSold 15 = .ok (.aload_n 0, 1) := by decide +kernel
theorem dX8_canBeSold_16 : decode cX8_canBeSold 16 = .ok (.getfield 40, 3) := by decide +kernel
theorem dX8_canBeSold_19 : decode cX8_canBeSold 19 = .ok (.iload_n 1, 1) := by decide +kernel
theorem dX8_canBeSold_20 : decode cX8_canBeSold 20 = .ok (.invokevirtual 77, 3) := by decide +kernel
theorem dX8_canBeSold_23 : decode cX8_canBeSold 23 = .ok (.isub, 1) := by decide +kernel
theorem dX8_canBeSold_24 : decode cX8_canBeSold 24 = .ok (.iconst 5, 1) := by decide +kernel
theorem dX8_canBeSold_25 : decode cX8_canBeSold 25 = .ok (.if_icmp .gt 7, 3) := by decide +kernel
theorem dX8_canBeSold_28 : decode cX8_canBeSold 28 = .ok (.iconst 1, 1) := by decide +kernel
theorem dX8_canBeSold_29 : decode cX8_canBeSold 29 = .ok (.goto 4, 3) := by decide +kernel
theorem dX8_canBeSold_32 : decode cX8_canBeSold 32 = .ok (.iconst 0, 1) := by decide +kernel
theorem dX8_canBeSold_33 : decode cX8_canBeSold 33 = .ok (.ireturn, 1) := by decide +kernel
theorem dX8_isOverCredit_0 : decode cX8_isOverCredit 0 = .ok (.aload_n 0, 1) := by decide +kernel
theorem dX8_isOverCredit_1 : decode cX8_isOverCredit 1 = .ok (.getfield 49, 3) := by decide +kernel
theorem dX8_isOverCredit_4 : decode cX8_isOverCredit 4 = .ok (.iload_n 1, 1) := by decide +kernel
theorem dX8_isOverCredit_5 : decode cX8_isOverCredit 5 = .ok (.invokevirtual 112, 3) := by decide +kernel
theorem dX8_isOverCredit_8 : decode cX8_isOverCredit 8 = .ok (.aload_n 0, 1) := by decide +kernel
theorem dX8_isOverCredit_9 : decode cX8_isOverCredit 9 = .ok (.getfield 7, 3) := by decide +kernel
theorem dX8_isOverCredit_12 : decode cX8_isOverCredit 12 = .ok (.getfield 115, 3) := by decide +kernel
theorem dX8_isOverCredit_15 : decode cX8_isOverCredit 15 = .ok (.iload_n 1, 1) := by decide +kernel
theorem dX8_isOverCredit_16 : decode cX8_isOverCredit 16 = .ok (.invokevirtual 77, 3) := by decide +kernel
theorem dX8_isOverCredit_19 : decode cX8_isOverCredit 19 = .ok (.if_icmp .le 7, 3) := by decide +kernel
theorem dX8_isOverCredit_22 : decode cX8_isOverCredit 22 = .ok (.iconst 1, 1) := by decide +kernel
theorem dX8_isOverCredit_23 : decode cX8_isOverCredit 23 = .ok (.goto 4, 3) := by decide +kernel
theorem dX8_isOverCredit_26 : decode cX8_isOverCredit 26 = .ok (.iconst 0, 1) := by decide +kernel
theorem dX8_isOverCredit_27 : decode cX8_isOverCredit 27 = .ok (.ireturn, 1) := by decide +kernel
theorem dX8_wealthOf_0 : decode cX8_wealthOf 0 = .ok (.aload_n 0, 1) := by decide +kernel
theorem dX8_wealthOf_1 : decode cX8_wealthOf 1 = .ok (.getfield 43, 3) := by decide +kernel
theorem dX8_wealthOf_4 : decode cX8_wealthOf 4 = .ok (.iload_n 1, 1) := by decide +kernel
theorem dX8_wealthOf_5 : decode cX8_wealthOf 5 = .ok (.invokevirtual 77, 3) := by decide +kernel
theorem dX8_wealthOf_8 : decode cX8_wealthOf 8 = .ok (.aload_n 0, 1) := by decide +kernel
theorem dX8_wealthOf_9 : decode cX8_wealthOf 9 = .ok (.getfield 49, 3) := by decide +kernel
theorem dX8_wealthOf_12 : decode cX8_wealthOf 12 = .ok (.iload_n 1, 1) := by decide +kernel
theorem dX8_wealthOf_13 : decode cX8_wealthOf 13 = .ok (.invokevirtual 118, 3) := by decide +kernel
theorem dX8_wealthOf_16 : decode cX8_wealthOf 16 = .ok (.iadd, 1) := by decide +kernel
theorem dX8_wealthOf_17 : decode cX8_wealthOf 17 = .ok (.aload_n 0, 1) := by decide +kernel
theorem dX8_wealthOf_18 : decode cX8_wealthOf 18 = .ok (.getfield 49, 3) := by decide +kernel
theorem dX8_wealthOf_21 : decode cX8_wealthOf 21 = .ok (.iload_n 1, 1) := by decide +kernel
theorem dX8_wealthOf_22 : decode cX8_wealthOf 22 = .ok (.invokevirtual 112, 3) := by decide +kernel
theorem dX8_wealthOf_25 : decode cX8_wealthOf 25 = .ok (.isub, 1) := by decide +kernel
theorem dX8_wealthOf_26 : decode cX8_wealthOf 26 = .ok (.ireturn, 1) := by decide +kernel
theorem dX8_weightOfAll_0 : decode cX8_weightOfAll 0 = .ok (.aload_n 0, 1) := by decide +kernel
theorem dX8_weightOfAll_1 : decode cX8_weightOfAll 1 = .ok (.getfield 27, 3) := by decide +kernel
theorem dX8_weightOfAll_4 : decode cX8_weightOfAll 4 = .ok (.invokevirtual 121, 3) := by decide +kernel
theorem dX8_weightOfAll_7 : decode cX8_weightOfAll 7 = .ok (.ireturn, 1) := by decide +kernel
theorem dX8_tellAll_0 : decode cX8_tellAll 0 = .ok (.iload_n 1, 1) := by decide +kernel
theorem dX8_tellAll_1 : decode cX8_tellAll 1 = .ok (.tableswitch 66 7 11 #[35, 40, 48, 56, 61], 35) := by decide +kernel
theorem dX8_tellAll_36 : decode cX8_tellAll 36 = .ok (.aload_n 0, 1) := by decide +kernel
theorem dX8_tellAll_37 : decode cX8_tellAll 37 = .ok (.invokevirtual 125, 3) := by decide +kernel
theorem dX8_tellAll_40 : decode cX8_tellAll 40 = .ok (.ireturn, 1) := by decide +kernel
theorem dX8_tellAll_41 : decode cX8_tellAll 41 = .ok (.aload_n 0, 1) := by decide +kernel
theorem dX8_tellAll_42 : decode cX8_tellAll 42 = .ok (.getfield 49, 3) := by decide +kernel
theorem dX8_tellAll_45 : decode cX8_tellAll 45 = .ok (.invokevirtual 128, 3) := by decide +kernel
theorem dX8_tellAll_48 : decode cX8_tellAll 48 = .ok (.ireturn, 1) := by decide +kernel
theorem dX8_tellAll_49 : decode cX8_tellAll 49 = .ok (.aload_n 0, 1) := by decide +kernel
theorem dX8_tellAll_50 : decode cX8_tellAll 50 = .ok (.getfield 43, 3) := by decide +kernel
theorem dX8_tellAll_53 : decode cX8_tellAll 53 = .ok (.invokevirtual 121, 3) := by decide +kernel
theorem dX8_tellAll_56 : decode cX8_tellAll 56 = .ok (.ireturn, 1) := by decide +kernel
theorem dX8_tellAll_57 : decode cX8_tellAll 57 = .ok (.aload_n 0, 1) := by decide +kernel
theorem dX8_tellAll_58 : decode cX8_tellAll 58 = .ok (.getfield 59, 3) := by decide +kernel
theorem dX8_tellAll_61 : decode cX8_tellAll 61 = .ok (.ireturn, 1) := by decide +kernel
theorem dX8_tellAll_62 : decode cX8_tellAll 62 = .ok (.aload_n 0, 1) := by decide +kernel
theorem dX8_tellAll_63 : decode cX8_tellAll 63 = .ok (.getfield 62, 3) := by decide +kernel
theorem dX8_tellAll_66 : decode cX8_tellAll 66 = .ok (.ireturn, 1) := by decide +kernel
theorem dX8_tellAll_67 : decode cX8_tellAll 67 = .ok (.aload_n 0, 1) := by decide +kernel
theorem dX8_tellAll_68 : decode cX8_tellAll 68 = .ok (.getfield 65, 3) := by decide +kernel
theorem dX8_tellAll_71 : decode cX8_tellAll 71 = .ok (.ireturn, 1) := by decide +kernel
theorem dX8_tellLot_0 : decode cX8_tellLot 0 = .ok (.iload_n 2, 1) := by decide +kernel
theorem dX8_tellLot_1 : decode cX8_tellLot 1 = .ok (.tableswitch 93 0 5 #[39, 51, 60, 69, 78, 87], 39) := by decide +kernel
theorem dX8_tellLot_40 : decode cX8_tellLot 40 = .ok (.aload_n 0, 1) := by decide +kernel
theorem dX8_tellLot_41 : decode cX8_tellLot 41 = .ok (.getfield 7, 3) := by decide +kernel
theorem dX8_tellLot_44 : decode cX8_tellLot 44 = .ok (.getfield 106, 3) := by decide +kernel
theorem dX8_tellLot_47 : decode cX8_tellLot 47 = .ok (.iload_n 1, 1) := by decide +kernel
theorem dX8_tellLot_48 : decode cX8_tellLot 48 = .ok (.invokevirtual 77, 3) := by decide +kernel
theorem dX8_tellLot_51 : decode cX8_tellLot 51 = .ok (.ireturn, 1) := by decide +kernel
theorem dX8_tellLot_52 : decode cX8_tellLot 52 = .ok (.aload_n 0, 1) := by decide +kernel
theorem dX8_tellLot_53 : decode cX8_tellLot 53 = .ok (.getfield 27, 3) := by decide +kernel
theorem dX8_tellLot_56 : decode cX8_tellLot 56 = .ok (.iload_n 1, 1) := by decide +kernel
theorem dX8_tellLot_57 : decode cX8_tellLot 57 = .ok (.invokevirtual 77, 3) := by decide +kernel
theorem dX8_tellLot_60 : decode cX8_tellLot 60 = .ok (.ireturn, 1) := by decide +kernel
theorem dX8_tellLot_61 : decode cX8_tellLot 61 = .ok (.aload_n 0, 1) := by decide +kernel
theorem dX8_tellLot_62 : decode cX8_tellLot 62 = .ok (.getfield 31, 3) := by decide +kernel
theorem dX8_tellLot_65 : decode cX8_tellLot 65 = .ok (.iload_n 1, 1) := by decide +kernel
theorem dX8_tellLot_66 : decode cX8_tellLot 66 = .ok (.invokevirtual 77, 3) := by decide +kernel
theorem dX8_tellLot_69 : decode cX8_tellLot 69 = .ok (.ireturn, 1) := by decide +kernel
theorem dX8_tellLot_70 : decode cX8_tellLot 70 = .ok (.aload_n 0, 1) := by decide +kernel
theorem dX8_tellLot_71 : decode cX8_tellLot 71 = .ok (.getfield 34, 3) := by decide +kernel
theorem dX8_tellLot_74 : decode cX8_tellLot 74 = .ok (.iload_n 1, 1) := by decide +kernel
theorem dX8_tellLot_75 : decode cX8_tellLot 75 = .ok (.invokevirtual 77, 3) := by decide +kernel
theorem dX8_tellLot_78 : decode cX8_tellLot 78 = .ok (.ireturn, 1) := by decide +kernel
theorem dX8_tellLot_79 : decode cX8_tellLot 79 = .ok (.aload_n 0, 1) := by decide +kernel
theorem dX8_tellLot_80 : decode cX8_tellLot 80 = .ok (.getfield 37, 3) := by decide +kernel
theorem dX8_tellLot_83 : decode cX8_tellLot 83 = .ok (.iload_n 1, 1) := by decide +kernel
theorem dX8_tellLot_84 : decode cX8_tellLot 84 = .ok (.invokevirtual 77, 3) := by decide +kernel
theorem dX8_tellLot_87 : decode cX8_tellLot 87 = .ok (.ireturn, 1) := by decide +kernel
theorem dX8_tellLot_88 : decode cX8_tellLot 88 = .ok (.aload_n 0, 1) := by decide +kernel
theorem dX8_tellLot_89 : decode cX8_tellLot 89 = .ok (.iload_n 1, 1) := by decide +kernel
theorem dX8_tellLot_90 : decode cX8_tellLot 90 = .ok (.invokevirtual 131, 3) := by decide +kernel
theorem dX8_tellLot_93 : decode cX8_tellLot 93 = .ok (.ireturn, 1) := by decide +kernel
theorem dX8_tellLot_94 : decode cX8_tellLot 94 = .ok (.aload_n 0, 1) := by decide +kernel
theorem dX8_tellLot_95 : decode cX8_tellLot 95 = .ok (.iload_n 1, 1) := by decide +kernel
theorem dX8_tellLot_96 : decode cX8_tellLot 96 = .ok (.invokevirtual 134, 3) := by decide +kernel
theorem dX8_tellLot_99 : decode cX8_tellLot 99 = .ok (.ifCond .eq 7, 3) := by decide +kernel
theorem dX8_tellLot_102 : decode cX8_tellLot 102 = .ok (.iconst 1, 1) := by decide +kernel
theorem dX8_tellLot_103 : decode cX8_tellLot 103 = .ok (.goto 4, 3) := by decide +kernel
theorem dX8_tellLot_106 : decode cX8_tellLot 106 = .ok (.iconst 0, 1) := by decide +kernel
theorem dX8_tellLot_107 : decode cX8_tellLot 107 = .ok (.ireturn, 1) := by decide +kernel
theorem dX8_tellMerchant_0 : decode cX8_tellMerchant 0 = .ok (.iload_n 2, 1) := by decide +kernel
theorem dX8_tellMerchant_1 : decode cX8_tellMerchant 1 = .ok (.tableswitch 80 0 4 #[35, 44, 56, 65, 74], 35) := by decide +kernel
theorem dX8_tellMerchant_36 : decode cX8_tellMerchant 36 = .ok (.aload_n 0, 1) := by decide +kernel
theorem dX8_tellMerchant_37 : decode cX8_tellMerchant 37 = .ok (.getfield 43, 3) := by decide +kernel
theorem dX8_tellMerchant_40 : decode cX8_tellMerchant 40 = .ok (.iload_n 1, 1) := by decide +kernel
theorem dX8_tellMerchant_41 : decode cX8_tellMerchant 41 = .ok (.invokevirtual 77, 3) := by decide +kernel
theorem dX8_tellMerchant_44 : decode cX8_tellMerchant 44 = .ok (.ireturn, 1) := by decide +kernel
theorem dX8_tellMerchant_45 : decode cX8_tellMerchant 45 = .ok (.aload_n 0, 1) := by decide +kernel
theorem dX8_tellMerchant_46 : decode cX8_tellMerchant 46 = .ok (.getfield 7, 3) := by decide +kernel
theorem dX8_tellMerchant_49 : decode cX8_tellMerchant 49 = .ok (.getfield 115, 3) := by decide +kernel
theorem dX8_tellMerchant_52 : decode cX8_tellMerchant 52 = .ok (.iload_n 1, 1) := by decide +kernel
theorem dX8_tellMerchant_53 : decode cX8_tellMerchant 53 = .ok (.invokevirtual 77, 3) := by decide +kernel
theorem dX8_tellMerchant_56 : decode cX8_tellMerchant 56 = .ok (.ireturn, 1) := by decide +kernel
theorem dX8_tellMerchant_57 : decode cX8_tellMerchant 57 = .ok (.aload_n 0, 1) := by decide +kernel
theorem dX8_tellMerchant_58 : decode cX8_tellMerchant 58 = .ok (.getfield 49, 3) := by decide +kernel
theorem dX8_tellMerchant_61 : decode cX8_tellMerchant 61 = .ok (.iload_n 1, 1) := by decide +kernel
theorem dX8_tellMerchant_62 : decode cX8_tellMerchant 62 = .ok (.invokevirtual 112, 3) := by decide +kernel
theorem dX8_tellMerchant_65 : decode cX8_tellMerchant 65 = .ok (.ireturn, 1) := by decide +kernel
theorem dX8_tellMerchant_66 : decode cX8_tellMerchant 66 = .ok (.aload_n 0, 1) := by decide +kernel
theorem dX8_tellMerchant_67 : decode cX8_tellMerchant 67 = .ok (.getfield 49, 3) := by decide +kernel
theorem dX8_tellMerchant_70 : decode cX8_tellMerchant 70 = .ok (.iload_n 1, 1) := by decide +kernel
theorem dX8_tellMerchant_71 : decode cX8_tellMerchant 71 = .ok (.invokevirtual 118, 3) := by decide +kernel
theorem dX8_tellMerchant_74 : decode cX8_tellMerchant 74 = .ok (.ireturn, 1) := by decide +kernel
theorem dX8_tellMerchant_75 : decode cX8_tellMerchant 75 = .ok (.aload_n 0, 1) := by decide +kernel
theorem dX8_tellMerchant_76 : decode cX8_tellMerchant 76 = .ok (.iload_n 1, 1) := by decide +kernel
theorem dX8_tellMerchant_77 : decode cX8_tellMerchant 77 = .ok (.invokevirtual 138, 3) := by decide +kernel
theorem dX8_tellMerchant_80 : decode cX8_tellMerchant 80 = .ok (.ireturn, 1) := by decide +kernel
theorem dX8_tellMerchant_81 : decode cX8_tellMerchant 81 = .ok (.aload_n 0, 1) := by decide +kernel
theorem dX8_tellMerchant_82 : decode cX8_tellMerchant 82 = .ok (.iload_n 1, 1) := by decide +kernel
theorem dX8_tellMerchant_83 : decode cX8_tellMerchant 83 = .ok (.invokevirtual 141, 3) := by decide +kernel
theorem dX8_tellMerchant_86 : decode cX8_tellMerchant 86 = .ok (.ireturn, 1) := by decide +kernel
theorem dX8_tellGuild_0 : decode cX8_tellGuild 0 = .ok (.iload_n 2, 1) := by decide +kernel
theorem dX8_tellGuild_1 : decode cX8_tellGuild 1 = .ok (.tableswitch 60 0 2 #[27, 39, 51], 27) := by decide +kernel
theorem dX8_tellGuild_28 : decode cX8_tellGuild 28 = .ok (.aload_n 0, 1) := by decide +kernel
theorem dX8_tellGuild_29 : decode cX8_tellGuild 29 = .ok (.getfield 7, 3) := by decide +kernel
theorem dX8_tellGuild_32 : decode cX8_tellGuild 32 = .ok (.getfield 144, 3) := by decide +kernel
theorem dX8_tellGuild_35 : decode cX8_tellGuild 35 = .ok (.iload_n 1, 1) := by decide +kernel
theorem dX8_tellGuild_36 : decode cX8_tellGuild 36 = .ok (.invokevirtual 77, 3) := by decide +kernel
theorem dX8_tellGuild_39 : decode cX8_tellGuild 39 = .ok (.ireturn, 1) := by decide +kernel
theorem dX8_tellGuild_40 : decode cX8_tellGuild 40 = .ok (.aload_n 0, 1) := by decide +kernel
theorem dX8_tellGuild_41 : decode cX8_tellGuild 41 = .ok (.getfield 7, 3) := by decide +kernel
theorem dX8_tellGuild_44 : decode cX8_tellGuild 44 = .ok (.getfield 147, 3) := by decide +kernel
theorem dX8_tellGuild_47 : decode cX8_tellGuild 47 = .ok (.iload_n 1, 1) := by decide +kernel
theorem dX8_tellGuild_48 : decode cX8_tellGuild 48 = .ok (.invokevirtual 77, 3) := by decide +kernel
theorem dX8_tellGuild_51 : decode cX8_tellGuild 51 = .ok (.ireturn, 1) := by decide +kernel
theorem dX8_tellGuild_52 : decode cX8_tellGuild 52 = .ok (.aload_n 0, 1) := by decide +kernel
theorem dX8_tellGuild_53 : decode cX8_tellGuild 53 = .ok (.getfield 53, 3) := by decide +kernel
theorem dX8_tellGuild_56 : decode cX8_tellGuild 56 = .ok (.iload_n 1, 1) := by decide +kernel
theorem dX8_tellGuild_57 : decode cX8_tellGuild 57 = .ok (.invokevirtual 77, 3) := by decide +kernel
theorem dX8_tellGuild_60 : decode cX8_tellGuild 60 = .ok (.ireturn, 1) := by decide +kernel
theorem dX8_tellGuild_61 : decode cX8_tellGuild 61 = .ok (.aload_n 0, 1) := by decide +kernel
theorem dX8_tellGuild_62 : decode cX8_tellGuild 62 = .ok (.iload_n 1, 1) := by decide +kernel
theorem dX8_tellGuild_63 : decode cX8_tellGuild 63 = .ok (.invokevirtual 150, 3) := by decide +kernel
theorem dX8_tellGuild_66 : decode cX8_tellGuild 66 = .ok (.ireturn, 1) := by decide +kernel
theorem dX8_lotsOf_0 : decode cX8_lotsOf 0 = .ok (.iconst 0, 1) := by decide +kernel
theorem dX8_lotsOf_1 : decode cX8_lotsOf 1 = .ok (.istore_n 2, 1) := by decide +kernel
theorem dX8_lotsOf_2 : decode cX8_lotsOf 2 = .ok (.iconst 0, 1) := by decide +kernel
theorem dX8_lotsOf_3 : decode cX8_lotsOf 3 = .ok (.istore_n 3, 1) := by decide +kernel
theorem dX8_lotsOf_4 : decode cX8_lotsOf 4 = .ok (.iload_n 3, 1) := by decide +kernel
theorem dX8_lotsOf_5 : decode cX8_lotsOf 5 = .ok (.aload_n 0, 1) := by decide +kernel
theorem dX8_lotsOf_6 : decode cX8_lotsOf 6 = .ok (.getfield 7, 3) := by decide +kernel
theorem dX8_lotsOf_9 : decode cX8_lotsOf 9 = .ok (.getfield 71, 3) := by decide +kernel
theorem dX8_lotsOf_12 : decode cX8_lotsOf 12 = .ok (.if_icmp .ge 24, 3) := by decide +kernel
theorem dX8_lotsOf_15 : decode cX8_lotsOf 15 = .ok (.aload_n 0, 1) := by decide +kernel
theorem dX8_lotsOf_16 : decode cX8_lotsOf 16 = .ok (.getfield 31, 3) := by decide +kernel
theorem dX8_lotsOf_19 : decode cX8_lotsOf 19 = .ok (.iload_n 3, 1) := by decide +kernel
theorem dX8_lotsOf_20 : decode cX8_lotsOf 20 = .ok (.invokevirtual 77, 3) := by decide +kernel
theorem dX8_lotsOf_23 : decode cX8_lotsOf 23 = .ok (.iload_n 1, 1) := by decide +kernel
theorem dX8_lotsOf_24 : decode cX8_lotsOf 24 = .ok (.if_icmp .ne 6, 3) := by decide +kernel
theorem dX8_lotsOf_27 : decode cX8_lotsOf 27 = .ok (.iinc 2 1, 3) := by decide +kernel
theorem dX8_lotsOf_30 : decode cX8_lotsOf 30 = .ok (.iinc 3 1, 3) := by decide +kernel
theorem dX8_lotsOf_33 : decode cX8_lotsOf 33 = .ok (.goto (-29), 3) := by decide +kernel
theorem dX8_lotsOf_36 : decode cX8_lotsOf 36 = .ok (.iload_n 2, 1) := by decide +kernel
theorem dX8_lotsOf_37 : decode cX8_lotsOf 37 = .ok (.ireturn, 1) := by decide +kernel
theorem dX8_weightOfLotsOf_0 : decode cX8_weightOfLotsOf 0 = .ok (.iconst 0, 1) := by decide +kernel
theorem dX8_weightOfLotsOf_1 : decode cX8_weightOfLotsOf 1 = .ok (.istore_n 2, 1) := by decide +kernel
theorem dX8_weightOfLotsOf_2 : decode cX8_weightOfLotsOf 2 = .ok (.iconst 0, 1) := by decide +kernel
theorem dX8_weightOfLotsOf_3 : decode cX8_weightOfLotsOf 3 = .ok (.istore_n 3, 1) := by decide +kernel
theorem dX8_weightOfLotsOf_4 : decode cX8_weightOfLotsOf 4 = .ok (.iload_n 3, 1) := by decide +kernel
theorem dX8_weightOfLotsOf_5 : decode cX8_weightOfLotsOf 5 = .ok (.aload_n 0, 1) := by decide +kernel
theorem dX8_weightOfLotsOf_6 : decode cX8_weightOfLotsOf 6 = .ok (.getfield 7, 3) := by decide +kernel
theorem dX8_weightOfLotsOf_9 : decode cX8_weightOfLotsOf 9 = .ok (.getfield 71, 3) := by decide +kernel
theorem dX8_weightOfLotsOf_12 : decode cX8_weightOfLotsOf 12 = .ok (.if_icmp .ge 32, 3) := by decide +kernel
theorem dX8_weightOfLotsOf_15 : decode cX8_weightOfLotsOf 15 = .ok (.aload_n 0, 1) := by decide +kernel
theorem dX8_weightOfLotsOf_16 : decode cX8_weightOfLotsOf 16 = .ok (.getfield 31, 3) := by decide +kernel
theorem dX8_weightOfLotsOf_19 : decode cX8_weightOfLotsOf 19 = .ok (.iload_n 3, 1) := by decide +kernel
theorem dX8_weightOfLotsOf_20 : decode cX8_weightOfLotsOf 20 = .ok (.invokevirtual 77, 3) := by decide +kernel
theorem dX8_weightOfLotsOf_23 : decode cX8_weightOfLotsOf 23 = .ok (.iload_n 1, 1) := by decide +kernel
theorem dX8_weightOfLotsOf_24 : decode cX8_weightOfLotsOf 24 = .ok (.if_icmp .ne 14, 3) := by decide +kernel
theorem dX8_weightOfLotsOf_27 : decode cX8_weightOfLotsOf 27 = .ok (.iload_n 2, 1) := by decide +kernel
theorem dX8_weightOfLotsOf_28 : decode cX8_weightOfLotsOf 28 = .ok (.aload_n 0, 1) := by decide +kernel
theorem dX8_weightOfLotsOf_29 : decode cX8_weightOfLotsOf 29 = .ok (.getfield 27, 3) := by decide +kernel
theorem dX8_weightOfLotsOf_32 : decode cX8_weightOfLotsOf 32 = .ok (.iload_n 3, 1) := by decide +kernel
theorem dX8_weightOfLotsOf_33 : decode cX8_weightOfLotsOf 33 = .ok (.invokevirtual 77, 3) := by decide +kernel
theorem dX8_weightOfLotsOf_36 : decode cX8_weightOfLotsOf 36 = .ok (.iadd, 1) := by decide +kernel
theorem dX8_weightOfLotsOf_37 : decode cX8_weightOfLotsOf 37 = .ok (.istore_n 2, 1) := by decide +kernel
theorem dX8_weightOfLotsOf_38 : decode cX8_weightOfLotsOf 38 = .ok (.iinc 3 1, 3) := by decide +kernel
theorem dX8_weightOfLotsOf_41 : decode cX8_weightOfLotsOf 41 = .ok (.goto (-37), 3) := by decide +kernel
theorem dX8_weightOfLotsOf_44 : decode cX8_weightOfLotsOf 44 = .ok (.iload_n 2, 1) := by decide +kernel
theorem dX8_weightOfLotsOf_45 : decode cX8_weightOfLotsOf 45 = .ok (.ireturn, 1) := by decide +kernel
theorem dX8_lotsWithChopOf_0 : decode cX8_lotsWithChopOf 0 = .ok (.iconst 0, 1) := by decide +kernel
theorem dX8_lotsWithChopOf_1 : decode cX8_lotsWithChopOf 1 = .ok (.istore_n 2, 1) := by decide +kernel
theorem dX8_lotsWithChopOf_2 : decode cX8_lotsWithChopOf 2 = .ok (.iconst 0, 1) := by decide +kernel
theorem dX8_lotsWithChopOf_3 : decode cX8_lotsWithChopOf 3 = .ok (.istore_n 3, 1) := by decide +kernel
theorem dX8_lotsWithChopOf_4 : decode cX8_lotsWithChopOf 4 = .ok (.iload_n 3, 1) := by decide +kernel
theorem dX8_lotsWithChopOf_5 : decode cX8_lotsWithChopOf 5 = .ok (.aload_n 0, 1) := by decide +kernel
theorem dX8_lotsWithChopOf_6 : decode cX8_lotsWithChopOf 6 = .ok (.getfield 7, 3) := by decide +kernel
theorem dX8_lotsWithChopOf_9 : decode cX8_lotsWithChopOf 9 = .ok (.getfield 71, 3) := by decide +kernel
theorem dX8_lotsWithChopOf_12 : decode cX8_lotsWithChopOf 12 = .ok (.if_icmp .ge 24, 3) := by decide +kernel
theorem dX8_lotsWithChopOf_15 : decode cX8_lotsWithChopOf 15 = .ok (.aload_n 0, 1) := by decide +kernel
theorem dX8_lotsWithChopOf_16 : decode cX8_lotsWithChopOf 16 = .ok (.getfield 34, 3) := by decide +kernel
theorem dX8_lotsWithChopOf_19 : decode cX8_lotsWithChopOf 19 = .ok (.iload_n 3, 1) := by decide +kernel
theorem dX8_lotsWithChopOf_20 : decode cX8_lotsWithChopOf 20 = .ok (.invokevirtual 77, 3) := by decide +kernel
theorem dX8_lotsWithChopOf_23 : decode cX8_lotsWithChopOf 23 = .ok (.iload_n 1, 1) := by decide +kernel
theorem dX8_lotsWithChopOf_24 : decode cX8_lotsWithChopOf 24 = .ok (.if_icmp .ne 6, 3) := by decide +kernel
theorem dX8_lotsWithChopOf_27 : decode cX8_lotsWithChopOf 27 = .ok (.iinc 2 1, 3) := by decide +kernel
theorem dX8_lotsWithChopOf_30 : decode cX8_lotsWithChopOf 30 = .ok (.iinc 3 1, 3) := by decide +kernel
theorem dX8_lotsWithChopOf_33 : decode cX8_lotsWithChopOf 33 = .ok (.goto (-29), 3) := by decide +kernel
theorem dX8_lotsWithChopOf_36 : decode cX8_lotsWithChopOf 36 = .ok (.iload_n 2, 1) := by decide +kernel
theorem dX8_lotsWithChopOf_37 : decode cX8_lotsWithChopOf 37 = .ok (.ireturn, 1) := by decide +kernel
theorem dX9_init_0 : decode cX9_init 0 = .ok (.aload_n 0, 1) := by decide +kernel
theorem dX9_init_1 : decode cX9_init 1 = .ok (.invokespecial 3, 3) := by decide +kernel
theorem dX9_init_4 : decode cX9_init 4 = .ok (.aload_n 0, 1) := by decide +kernel
theorem dX9_init_5 : decode cX9_init 5 = .ok (.iconst 0, 1) := by decide +kernel
theorem dX9_init_6 : decode cX9_init 6 = .ok (.putfield 9, 3) := by decide +kernel
theorem dX9_init_9 : decode cX9_init 9 = .ok (.aload_n 0, 1) := by decide +kernel
theorem dX9_init_10 : decode cX9_init 10 = .ok (.new 15, 3) := by decide +kernel
theorem dX9_init_13 : decode cX9_init 13 = .ok (.dup, 1) := by decide +kernel
theorem dX9_init_14 : decode cX9_init 14 = .ok (.sipush 400, 3) := by decide +kernel
theorem dX9_init_17 : decode cX9_init 17 = .ok (.invokespecial 17, 3) := by decide +kernel
theorem dX9_init_20 : decode cX9_init 20 = .ok (.putfield 20, 3) := by decide +kernel
theorem dX9_init_23 : decode cX9_init 23 = .ok (.aload_n 0, 1) := by decide +kernel
theorem dX9_init_24 : decode cX9_init 24 = .ok (.new 15, 3) := by decide +kernel
theorem dX9_init_27 : decode cX9_init 27 = .ok (.dup, 1) := by decide +kernel
theorem dX9_init_28 : decode cX9_init 28 = .ok (.sipush 400, 3) := by decide +kernel
theorem dX9_init_31 : decode cX9_init 31 = .ok (.invokespecial 17, 3) := by decide +kernel
theorem dX9_init_34 : decode cX9_init 34 = .ok (.putfield 24, 3) := by decide +kernel
theorem dX9_init_37 : decode cX9_init 37 = .ok (.aload_n 0, 1) := by decide +kernel
theorem dX9_init_38 : decode cX9_init 38 = .ok (.new 15, 3) := by decide +kernel
theorem dX9_init_41 : decode cX9_init 41 = .ok (.dup, 1) := by decide +kernel
theorem dX9_init_42 : decode cX9_init 42 = .ok (.sipush 400, 3) := by decide +kernel
theorem dX9_init_45 : decode cX9_init 45 = .ok (.invokespecial 17, 3) := by decide +kernel
theorem dX9_init_48 : decode cX9_init 48 = .ok (.putfield 27, 3) := by decide +kernel
theorem dX9_init_51 : decode cX9_init 51 = .ok (.return_, 1) := by decide +kernel
theorem dX9_add_0 : decode cX9_add 0 = .ok (.aload_n 0, 1) := by decide +kernel
theorem dX9_add_1 : decode cX9_add 1 = .ok (.getfield 20, 3) := by decide +kernel
theorem dX9_add_4 : decode cX9_add 4 = .ok (.aload_n 0, 1) := by decide +kernel
theorem dX9_add_5 : decode cX9_add 5 = .ok (.getfield 9, 3) := by decide +kernel
theorem dX9_add_8 : decode cX9_add 8 = .ok (.iload_n 1, 1) := by decide +kernel
theorem dX9_add_9 : decode cX9_add 9 = .ok (.invokevirtual 30, 3) := by decide +kernel
theorem dX9_add_12 : decode cX9_add 12 = .ok (.aload_n 0, 1) := by decide +kernel
theorem dX9_add_13 : decode cX9_add 13 = .ok (.getfield 24, 3) := by decide +kernel
theorem dX9_add_16 : decode cX9_add 16 = .ok (.aload_n 0, 1) := by decide +kernel
theorem dX9_add_17 : decode cX9_add 17 = .ok (.getfield 9, 3) := by decide +kernel
theorem dX9_add_20 : decode cX9_add 20 = .ok (.iload_n 2, 1) := by decide +kernel
theorem dX9_add_21 : decode cX9_add 21 = .ok (.invokevirtual 30, 3) := by decide +kernel
theorem dX9_add_24 : decode cX9_add 24 = .ok (.aload_n 0, 1) := by decide +kernel
theorem dX9_add_25 : decode cX9_add 25 = .ok (.getfield 27, 3) := by decide +kernel
theorem dX9_add_28 : decode cX9_add 28 = .ok (.aload_n 0, 1) := by decide +kernel
theorem dX9_add_29 : decode cX9_add 29 = .ok (.getfield 9, 3) := by decide +kernel
theorem dX9_add_32 : decode cX9_add 32 = .ok (.iload_n 3, 1) := by decide +kernel
theorem dX9_add_33 : decode cX9_add 33 = .ok (.invokevirtual 30, 3) := by decide +kernel
theorem dX9_add_36 : decode cX9_add 36 = .ok (.aload_n 0, 1) := by decide +kernel
theorem dX9_add_37 : decode cX9_add 37 = .ok (.dup, 1) := by decide +kernel
theorem dX9_add_38 : decode cX9_add 38 = .ok (.getfield 9, 3) := by decide +kernel
theorem dX9_add_41 : decode cX9_add 41 = .ok (.iconst 1, 1) := by decide +kernel
theorem dX9_add_42 : decode cX9_add 42 = .ok (.iadd, 1) := by decide +kernel
theorem dX9_add_43 : decode cX9_add 43 = .ok (.putfield 9, 3) := by decide +kernel
theorem dX9_add_46 : decode cX9_add 46 = .ok (.return_, 1) := by decide +kernel
theorem dX9_copyFrom_0 : decode cX9_copyFrom 0 = .ok (.aload_n 0, 1) := by decide +kernel
theorem dX9_copyFrom_1 : decode cX9_copyFrom 1 = .ok (.aload_n 1, 1) := by decide +kernel
theorem dX9_copyFrom_2 : decode cX9_copyFrom 2 = .ok (.getfield 9, 3) := by decide +kernel
theorem dX9_copyFrom_5 : decode cX9_copyFrom 5 = .ok (.putfield 9, 3) := by decide +kernel
theorem dX9_copyFrom_8 : decode cX9_copyFrom 8 = .ok (.aload_n 0, 1) := by decide +kernel
theorem dX9_copyFrom_9 : decode cX9_copyFrom 9 = .ok (.getfield 20, 3) := by decide +kernel
theorem dX9_copyFrom_12 : decode cX9_copyFrom 12 = .ok (.aload_n 1, 1) := by decide +kernel
theorem dX9_copyFrom_13 : decode cX9_copyFrom 13 = .ok (.getfield 20, 3) := by decide +kernel
theorem dX9_copyFrom_16 : decode cX9_copyFrom 16 = .ok (.invokevirtual 34, 3) := by decide +kernel
theorem dX9_copyFrom_19 : decode cX9_copyFrom 19 = .ok (.aload_n 0, 1) := by decide +kernel
theorem dX9_copyFrom_20 : decode cX9_copyFrom 20 = .ok (.getfield 24, 3) := by decide +kernel
theorem dX9_copyFrom_23 : decode cX9_copyFrom 23 = .ok (.aload_n 1, 1) := by decide +kernel
theorem dX9_copyFrom_24 : decode cX9_copyFrom 24 = .ok (.getfield 24, 3) := by decide +kernel
theorem dX9_copyFrom_27 : decode cX9_copyFrom 27 = .ok (.invokevirtual 34, 3) := by decide +kernel
theorem dX9_copyFrom_30 : decode cX9_copyFrom 30 = .ok (.aload_n 0, 1) := by decide +kernel
theorem dX9_copyFrom_31 : decode cX9_copyFrom 31 = .ok (.getfield 27, 3) := by decide +kernel
theorem dX9_copyFrom_34 : decode cX9_copyFrom 34 = .ok (.aload_n 1, 1) := by decide +kernel
theorem dX9_copyFrom_35 : decode cX9_copyFrom 35 = .ok (.getfield 27, 3) := by decide +kernel
theorem dX9_copyFrom_38 : decode cX9_copyFrom 38 = .ok (.invokevirtual 34, 3) := by decide +kernel
theorem dX9_copyFrom_41 : decode cX9_copyFrom 41 = .ok (.return_, 1) := by decide +kernel
