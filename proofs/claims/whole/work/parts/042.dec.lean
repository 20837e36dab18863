theorem dX14_manyOf_13 : decode cX14_manyOf 13 = .ok (.if_icmp .ne 10, 3) := by decide +kernel
theorem dX14_manyOf_16 : decode cX14_manyOf 16 = .ok (.aload_n 1, 1) := by decide +kernel
theorem dX14_manyOf_17 : decode cX14_manyOf 17 = .ok (.getfield 174, 3) := by decide +kernel
theorem dX14_manyOf_20 : decode cX14_manyOf 20 = .ok (.goto 19, 3) := by decide +kernel
theorem dX14_manyOf_23 : decode cX14_manyOf 23 = .ok (.iload_n 2, 1) := by decide +kernel
theorem dX14_manyOf_24 : decode cX14_manyOf 24 = .ok (.iconst 5, 1) := by decide +kernel
theorem dX14_manyOf_25 : decode cX14_manyOf 25 = .ok (.if_icmp .ne 10, 3) := by decide +kernel
theorem dX14_manyOf_28 : decode cX14_manyOf 28 = .ok (.aload_n 1, 1) := by decide +kernel
theorem dX14_manyOf_29 : decode cX14_manyOf 29 = .ok (.getfield 43, 3) := by decide +kernel
theorem dX14_manyOf_32 : decode cX14_manyOf 32 = .ok (.goto 7, 3) := by decide +kernel
theorem dX14_manyOf_35 : decode cX14_manyOf 35 = .ok (.aload_n 1, 1) := by decide +kernel
theorem dX14_manyOf_36 : decode cX14_manyOf 36 = .ok (.getfield 54, 3) := by decide +kernel
theorem dX14_manyOf_39 : decode cX14_manyOf 39 = .ok (.ireturn, 1) := by decide +kernel
theorem dX14_errorOfNew_0 : decode cX14_errorOfNew 0 = .ok (.aload_n 0, 1) := by decide +kernel
theorem dX14_errorOfNew_1 : decode cX14_errorOfNew 1 = .ok (.aload_n 1, 1) := by decide +kernel
theorem dX14_errorOfNew_2 : decode cX14_errorOfNew 2 = .ok (.iload_n 3, 1) := by decide +kernel
theorem dX14_errorOfNew_3 : decode cX14_errorOfNew 3 = .ok (.invokevirtual 177, 3) := by decide +kernel
theorem dX14_errorOfNew_6 : decode cX14_errorOfNew 6 = .ok (.istore 4, 2) := by decide +kernel
theorem dX14_errorOfNew_8 : decode cX14_errorOfNew 8 = .ok (.aload_n 0, 1) := by decide +kernel
theorem dX14_errorOfNew_9 : decode cX14_errorOfNew 9 = .ok (.aload_n 1, 1) := by decide +kernel
theorem dX14_errorOfNew_10 : decode cX14_errorOfNew 10 = .ok (.iload_n 3, 1) := by decide +kernel
theorem dX14_errorOfNew_11 : decode cX14_errorOfNew 11 = .ok (.invokevirtual 181, 3) := by decide +kernel
theorem dX14_errorOfNew_14 : decode cX14_errorOfNew 14 = .ok (.astore 5, 2) := by decide +kernel
theorem dX14_errorOfNew_16 : decode cX14_errorOfNew 16 = .ok (.aload_n 0, 1) := by decide +kernel
theorem dX14_errorOfNew_17 : decode cX14_errorOfNew 17 = .ok (.aload_n 1, 1) := by decide +kernel
theorem dX14_errorOfNew_18 : decode cX14_errorOfNew 18 = .ok (.aload 5, 2) := by decide +kernel
theorem dX14_errorOfNew_20 : decode cX14_errorOfNew 20 = .ok (.iload 4, 2) := by decide +kernel
theorem dX14_errorOfNew_22 : decode cX14_errorOfNew 22 = .ok (.iload_n 2, 1) := by decide +kernel
theorem dX14_errorOfNew_23 : decode cX14_errorOfNew 23 = .ok (.invokevirtual 185, 3) := by decide +kernel
theorem dX14_errorOfNew_26 : decode cX14_errorOfNew 26 = .ok (.iconst (-1), 1) := by decide +kernel
theorem dX14_errorOfNew_27 : decode cX14_errorOfNew 27 = .ok (.if_icmp .eq 5, 3) := by decide +kernel
theorem dX14_errorOfNew_30 : decode cX14_errorOfNew 30 = .ok (.iconst 2, 1) := by decide +kernel
theorem dX14_errorOfNew_31 : decode cX14_errorOfNew 31 = .ok (.ireturn, 1) := by decide +kernel
theorem dX14_errorOfNew_32 : decode cX14_errorOfNew 32 = .ok (.iload 4, 2) := by decide +kernel
theorem dX14_errorOfNew_34 : decode cX14_errorOfNew 34 = .ok (.aload 5, 2) := by decide +kernel
theorem dX14_errorOfNew_36 : decode cX14_errorOfNew 36 = .ok (.arraylength, 1) := by decide +kernel
theorem dX14_errorOfNew_37 : decode cX14_errorOfNew 37 = .ok (.if_icmp .ne 5, 3) := by decide +kernel
theorem dX14_errorOfNew_40 : decode cX14_errorOfNew 40 = .ok (.iconst 4, 1) := by decide +kernel
theorem dX14_errorOfNew_41 : decode cX14_errorOfNew 41 = .ok (.ireturn, 1) := by decide +kernel
theorem dX14_errorOfNew_42 : decode cX14_errorOfNew 42 = .ok (.aload 5, 2) := by decide +kernel
theorem dX14_errorOfNew_44 : decode cX14_errorOfNew 44 = .ok (.iload 4, 2) := by decide +kernel
theorem dX14_errorOfNew_46 : decode cX14_errorOfNew 46 = .ok (.iload_n 2, 1) := by decide +kernel
theorem dX14_errorOfNew_47 : decode cX14_errorOfNew 47 = .ok (.iastore, 1) := by decide +kernel
theorem dX14_errorOfNew_48 : decode cX14_errorOfNew 48 = .ok (.iload_n 3, 1) := by decide +kernel
theorem dX14_errorOfNew_49 : decode cX14_errorOfNew 49 = .ok (.lookupswitch 74 #[(0, 35), (2, 48), (5, 61)], 35) := by decide +kernel
theorem dX14_errorOfNew_84 : decode cX14_errorOfNew 84 = .ok (.aload_n 1, 1) := by decide +kernel
theorem dX14_errorOfNew_85 : decode cX14_errorOfNew 85 = .ok (.dup, 1) := by decide +kernel
theorem dX14_errorOfNew_86 : decode cX14_errorOfNew 86 = .ok (.getfield 171, 3) := by decide +kernel
theorem dX14_errorOfNew_89 : decode cX14_errorOfNew 89 = .ok (.iconst 1, 1) := by decide +kernel
theorem dX14_errorOfNew_90 : decode cX14_errorOfNew 90 = .ok (.iadd, 1) := by decide +kernel
theorem dX14_errorOfNew_91 : decode cX14_errorOfNew 91 = .ok (.putfield 171, 3) := by decide +kernel
theorem dX14_errorOfNew_94 : decode cX14_errorOfNew 94 = .ok (.goto 39, 3) := by decide +kernel
theorem dX14_errorOfNew_97 : decode cX14_errorOfNew 97 = .ok (.aload_n 1, 1) := by decide +kernel
theorem dX14_errorOfNew_98 : decode cX14_errorOfNew 98 = .ok (.dup, 1) := by decide +kernel
theorem dX14_errorOfNew_99 : decode cX14_errorOfNew 99 = .ok (.getfield 174, 3) := by decide +kernel
theorem dX14_errorOfNew_102 : decode cX14_errorOfNew 102 = .ok (.iconst 1, 1) := by decide +kernel
theorem dX14_errorOfNew_103 : decode cX14_errorOfNew 103 = .ok (.iadd, 1) := by decide +kernel
theorem dX14_errorOfNew_104 : decode cX14_errorOfNew 104 = .ok (.putfield 174, 3) := by decide +kernel
theorem dX14_errorOfNew_107 : decode cX14_errorOfNew 107 = .ok (.goto 26, 3) := by decide +kernel
theorem dX14_errorOfNew_110 : decode cX14_errorOfNew 110 = .ok (.aload_n 1, 1) := by decide +kernel
theorem dX14_errorOfNew_111 : decode cX14_errorOfNew 111 = .ok (.dup, 1) := by decide +kernel
theorem dX14_errorOfNew_112 : decode cX14_errorOfNew 112 = .ok (.getfield 43, 3) := by decide +kernel
theorem dX14_errorOfNew_115 : decode cX14_errorOfNew 115 = .ok (.iconst 1, 1) := by decide +kernel
theorem dX14_errorOfNew_116 : decode cX14_errorOfNew 116 = .ok (.iadd, 1) := by decide +kernel
theorem dX14_errorOfNew_117 : decode cX14_errorOfNew 117 = .ok (.putfield 43, 3) := by decide +kernel
theorem dX14_errorOfNew_120 : decode cX14_errorOfNew 120 = .ok (.goto 13, 3) := by decide +kernel
theorem dX14_errorOfNew_123 : decode cX14_errorOfNew 123 = .ok (.aload_n 1, 1) := by decide +kernel
theorem dX14_errorOfNew_124 : decode cX14_errorOfNew 124 = .ok (.dup, 1) := by decide +kernel
theorem dX14_errorOfNew_125 : decode cX14_errorOfNew 125 = .ok (.getfield 54, 3) := by decide +kernel
theorem dX14_errorOfNew_128 : decode cX14_errorOfNew 128 = .ok (.iconst 1, 1) := by decide +kernel
theorem dX14_errorOfNew_129 : decode cX14_errorOfNew 129 = .ok (.iadd, 1) := by decide +kernel
theorem dX14_errorOfNew_130 : decode cX14_errorOfNew 130 = .ok (.putfield 54, 3) := by decide +kernel
theorem dX14_errorOfNew_133 : decode cX14_errorOfNew 133 = .ok (.iconst 0, 1) := by decide +kernel
theorem dX14_errorOfNew_134 : decode cX14_errorOfNew 134 = .ok (.ireturn, 1) := by decide +kernel
theorem dX14_sortOf_0 : decode cX14_sortOf 0 = .ok (.aload_n 0, 1) := by decide +kernel
theorem dX14_sortOf_1 : decode cX14_sortOf 1 = .ok (.getfield 102, 3) := by decide +kernel
theorem dX14_sortOf_4 : decode cX14_sortOf 4 = .ok (.iload_n 1, 1) := by decide +kernel
theorem dX14_sortOf_5 : decode cX14_sortOf 5 = .ok (.iconst 1, 1) := by decide +kernel
theorem dX14_sortOf_6 : decode cX14_sortOf 6 = .ok (.isub, 1) := by decide +kernel
theorem dX14_sortOf_7 : decode cX14_sortOf 7 = .ok (.iaload, 1) := by decide +kernel
theorem dX14_sortOf_8 : decode cX14_sortOf 8 = .ok (.istore_n 2, 1) := by decide +kernel
theorem dX14_sortOf_9 : decode cX14_sortOf 9 = .ok (.iload_n 2, 1) := by decide +kernel
theorem dX14_sortOf_10 : decode cX14_sortOf 10 = .ok (.tableswitch 160 6 35 #[138, 160, 160, 134, 160, 138, 160, 136, 160, 138, 138, 160, 160, 160, 160, 160, 160, 160, 138, 138, 138, 160, 160, 160, 160, 160, 160, 160, 160, 140], 134) := by decide +kernel
theorem dX14_sortOf_144 : decode cX14_sortOf 144 = .ok (.iconst 0, 1) := by decide +kernel
theorem dX14_sortOf_145 : decode cX14_sortOf 145 = .ok (.ireturn, 1) := by decide +kernel
theorem dX14_sortOf_146 : decode cX14_sortOf 146 = .ok (.iconst 2, 1) := by decide +kernel
theorem dX14_sortOf_147 : decode cX14_sortOf 147 = .ok (.ireturn, 1) := by decide +kernel
theorem dX14_sortOf_148 : decode cX14_sortOf 148 = .ok (.iconst 5, 1) := by decide +kernel
theorem dX14_sortOf_149 : decode cX14_sortOf 149 = .ok (.ireturn, 1) := by decide +kernel
theorem dX14_sortOf_150 : decode cX14_sortOf 150 = .ok (.aload_n 0, 1) := by decide +kernel
theorem dX14_sortOf_151 : decode cX14_sortOf 151 = .ok (.getfield 102, 3) := by decide +kernel
theorem dX14_sortOf_154 : decode cX14_sortOf 154 = .ok (.iload_n 1, 1) := by decide +kernel
theorem dX14_sortOf_155 : decode cX14_sortOf 155 = .ok (.iconst 2, 1) := by decide +kernel
theorem dX14_sortOf_156 : decode cX14_sortOf 156 = .ok (.isub, 1) := by decide +kernel
theorem dX14_sortOf_157 : decode cX14_sortOf 157 = .ok (.iaload, 1) := by decide +kernel
theorem dX14_sortOf_158 : decode cX14_sortOf 158 = .ok (.bipush 25, 2) := by decide +kernel
theorem dX14_sortOf_160 : decode cX14_sortOf 160 = .ok (.if_icmp .ne 7, 3) := by decide +kernel
theorem dX14_sortOf_163 : decode cX14_sortOf 163 = .ok (.iconst 5, 1) := by decide +kernel
theorem dX14_sortOf_164 : decode cX14_sortOf 164 = .ok (.goto 5, 3) := by decide +kernel
theorem dX14_sortOf_167 : decode cX14_sortOf 167 = .ok (.bipush 8, 2) := by decide +kernel
theorem dX14_sortOf_169 : decode cX14_sortOf 169 = .ok (.ireturn, 1) := by decide +kernel
theorem dX14_sortOf_170 : decode cX14_sortOf 170 = .ok (.bipush 8, 2) := by decide +kernel
theorem dX14_sortOf_172 : decode cX14_sortOf 172 = .ok (.ireturn, 1) := by decide +kernel
theorem dX14_errorOfName_0 : decode cX14_errorOfName 0 = .ok (.aload_n 1, 1) := by decide +kernel
theorem dX14_errorOfName_1 : decode cX14_errorOfName 1 = .ok (.getfield 102, 3) := by decide +kernel
theorem dX14_errorOfName_4 : decode cX14_errorOfName 4 = .ok (.iload_n 2, 1) := by decide +kernel
theorem dX14_errorOfName_5 : decode cX14_errorOfName 5 = .ok (.iconst 1, 1) := by decide +kernel
theorem dX14_errorOfName_6 : decode cX14_errorOfName 6 = .ok (.isub, 1) := by decide +kernel
theorem dX14_errorOfName_7 : decode cX14_errorOfName 7 = .ok (.iaload, 1) := by decide +kernel
theorem dX14_errorOfName_8 : decode cX14_errorOfName 8 = .ok (.istore_n 3, 1) := by decide +kernel
theorem dX14_errorOfName_9 : decode cX14_errorOfName 9 = .ok (.iload_n 3, 1) := by decide +kernel
theorem dX14_errorOfName_10 : decode cX14_errorOfName 10 = .ok (.ifCond .eq 19, 3) := by decide +kernel
theorem dX14_errorOfName_13 : decode cX14_errorOfName 13 = .ok (.iload_n 3, 1) := by decide +kernel
theorem dX14_errorOfName_14 : decode cX14_errorOfName 14 = .ok (.iconst 2, 1) := by decide +kernel
theorem dX14_errorOfName_15 : decode cX14_errorOfName 15 = .ok (.if_icmp .eq 14, 3) := by decide +kernel
theorem dX14_errorOfName_18 : decode cX14_errorOfName 18 = .ok (.iload_n 3, 1) := by decide +kernel
theorem dX14_errorOfName_19 : decode cX14_errorOfName 19 = .ok (.iconst 5, 1) := by decide +kernel
theorem dX14_errorOfName_20 : decode cX14_errorOfName 20 = .ok (.if_icmp .eq 9, 3) := by decide +kernel
theorem dX14_errorOfName_23 : decode cX14_errorOfName 23 = .ok (.iload_n 3, 1) := by decide +kernel
theorem dX14_errorOfName_24 : decode cX14_errorOfName 24 = .ok (.bipush 8, 2) := by decide +kernel
theorem dX14_errorOfName_26 : decode cX14_errorOfName 26 = .ok (.if_icmp .ne 11, 3) := by decide +kernel
theorem dX14_errorOfName_29 : decode cX14_errorOfName 29 = .ok (.aload_n 0, 1) := by decide +kernel
theorem dX14_errorOfName_30 : decode cX14_errorOfName 30 = .ok (.aload_n 1, 1) := by decide +kernel
theorem dX14_errorOfName_31 : decode cX14_errorOfName 31 = .ok (.iload_n 2, 1) := by decide +kernel
theorem dX14_errorOfName_32 : decode cX14_errorOfName 32 = .ok (.iload_n 3, 1) := by decide +kernel
theorem dX14_errorOfName_33 : decode cX14_errorOfName 33 = .ok (.invokevirtual 189, 3) := by decide +kernel
theorem dX14_errorOfName_36 : decode cX14_errorOfName 36 = .ok (.ireturn, 1) := by decide +kernel
theorem dX14_errorOfName_37 : decode cX14_errorOfName 37 = .ok (.aload_n 1, 1) := by decide +kernel
theorem dX14_errorOfName_38 : decode cX14_errorOfName 38 = .ok (.iload_n 2, 1) := by decide +kernel
theorem dX14_errorOfName_39 : decode cX14_errorOfName 39 = .ok (.invokestatic 193, 3) := by decide +kernel
theorem dX14_errorOfName_42 : decode cX14_errorOfName 42 = .ok (.istore 4, 2) := by decide +kernel
theorem dX14_errorOfName_44 : decode cX14_errorOfName 44 = .ok (.aload_n 0, 1) := by decide +kernel
theorem dX14_errorOfName_45 : decode cX14_errorOfName 45 = .ok (.aload_n 1, 1) := by decide +kernel
theorem dX14_errorOfName_46 : decode cX14_errorOfName 46 = .ok (.aload_n 0, 1) := by decide +kernel
theorem dX14_errorOfName_47 : decode cX14_errorOfName 47 = .ok (.aload_n 1, 1) := by decide +kernel
theorem dX14_errorOfName_48 : decode cX14_errorOfName 48 = .ok (.iload 4, 2) := by decide +kernel
theorem dX14_errorOfName_50 : decode cX14_errorOfName 50 = .ok (.invokevirtual 181, 3) := by decide +kernel
theorem dX14_errorOfName_53 : decode cX14_errorOfName 53 = .ok (.aload_n 0, 1) := by decide +kernel
theorem dX14_errorOfName_54 : decode cX14_errorOfName 54 = .ok (.aload_n 1, 1) := by decide +kernel
theorem dX14_errorOfName_55 : decode cX14_errorOfName 55 = .ok (.iload 4, 2) := by decide +kernel
theorem dX14_errorOfName_57 : decode cX14_errorOfName 57 = .ok (.invokevirtual 177, 3) := by decide +kernel
theorem dX14_errorOfName_60 : decode cX14_errorOfName 60 = .ok (.iload_n 2, 1) := by decide +kernel
theorem dX14_errorOfName_61 : decode cX14_errorOfName 61 = .ok (.invokevirtual 185, 3) := by decide +kernel
theorem dX14_errorOfName_64 : decode cX14_errorOfName 64 = .ok (.istore 5, 2) := by decide +kernel
theorem dX14_errorOfName_66 : decode cX14_errorOfName 66 = .ok (.iload 5, 2) := by decide +kernel
theorem dX14_errorOfName_68 : decode cX14_errorOfName 68 = .ok (.iconst (-1), 1) := by decide +kernel
theorem dX14_errorOfName_69 : decode cX14_errorOfName 69 = .ok (.if_icmp .ne 5, 3) := by decide +kernel
theorem dX14_errorOfName_72 : decode cX14_errorOfName 72 = .ok (.iconst 3, 1) := by decide +kernel
theorem dX14_errorOfName_73 : decode cX14_errorOfName 73 = .ok (.ireturn, 1) := by decide +kernel
theorem dX14_errorOfName_74 : decode cX14_errorOfName 74 = .ok (.aload_n 1, 1) := by decide +kernel
theorem dX14_errorOfName_75 : decode cX14_errorOfName 75 = .ok (.getfield 196, 3) := by decide +kernel
theorem dX14_errorOfName_78 : decode cX14_errorOfName 78 = .ok (.iload_n 2, 1) := by decide +kernel
theorem dX14_errorOfName_79 : decode cX14_errorOfName 79 = .ok (.iload 5, 2) := by decide +kernel
theorem dX14_errorOfName_81 : decode cX14_errorOfName 81 = .ok (.iastore, 1) := by decide +kernel
theorem dX14_errorOfName_82 : decode cX14_errorOfName 82 = .ok (.iload_n 3, 1) := by decide +kernel
theorem dX14_errorOfName_83 : decode cX14_errorOfName 83 = .ok (.bipush 9, 2) := by decide +kernel
theorem dX14_errorOfName_85 : decode cX14_errorOfName 85 = .ok (.if_icmp .ne 16, 3) := by decide +kernel
theorem dX14_errorOfName_88 : decode cX14_errorOfName 88 = .ok (.aload_n 1, 1) := by decide +kernel
theorem dX14_errorOfName_89 : decode cX14_errorOfName 89 = .ok (.getfield 199, 3) := by decide +kernel
theorem dX14_errorOfName_92 : decode cX14_errorOfName 92 = .ok (.aload_n 1, 1) := by decide +kernel
theorem dX14_errorOfName_93 : decode cX14_errorOfName 93 = .ok (.getfield 54, 3) := by decide +kernel
theorem dX14_errorOfName_96 : decode cX14_errorOfName 96 = .ok (.iconst 1, 1) := by decide +kernel
theorem dX14_errorOfName_97 : decode cX14_errorOfName 97 = .ok (.isub, 1) := by decide +kernel
theorem dX14_errorOfName_98 : decode cX14_errorOfName 98 = .ok (.iload 5, 2) := by decide +kernel
theorem dX14_errorOfName_100 : decode cX14_errorOfName 100 = .ok (.iastore, 1) := by decide +kernel
theorem dX14_errorOfName_101 : decode cX14_errorOfName 101 = .ok (.iload_n 3, 1) := by decide +kernel
theorem dX14_errorOfName_102 : decode cX14_errorOfName 102 = .ok (.bipush 11, 2) := by decide +kernel
theorem dX14_errorOfName_104 : decode cX14_errorOfName 104 = .ok (.if_icmp .ne 16, 3) := by decide +kernel
theorem dX14_errorOfName_107 : decode cX14_errorOfName 107 = .ok (.aload_n 1, 1) := by decide +kernel
theorem dX14_errorOfName_108 : decode cX14_errorOfName 108 = .ok (.getfield 202, 3) := by decide +kernel
theorem dX14_errorOfName_111 : decode cX14_errorOfName 111 = .ok (.aload_n 1, 1) := by decide +kernel
theorem dX14_errorOfName_112 : decode cX14_errorOfName 112 = .ok (.getfield 54, 3) := by decide +kernel
theorem dX14_errorOfName_115 : decode cX14_errorOfName 115 = .ok (.iconst 1, 1) := by decide +kernel
theorem dX14_errorOfName_116 : decode cX14_errorOfName 116 = .ok (.isub, 1) := by decide +kernel
theorem dX14_errorOfName_117 : decode cX14_errorOfName 117 = .ok (.iload 5, 2) := by decide +kernel
theorem dX14_errorOfName_119 : decode cX14_errorOfName 119 = .ok (.iastore, 1) := by decide +kernel
theorem dX14_errorOfName_120 : decode cX14_errorOfName 120 = .ok (.iload_n 3, 1) := by decide +kernel
theorem dX14_errorOfName_121 : decode cX14_errorOfName 121 = .ok (.bipush 12, 2) := by decide +kernel
theorem dX14_errorOfName_123 : decode cX14_errorOfName 123 = .ok (.if_icmp .eq 15, 3) := by decide +kernel
theorem dX14_errorOfName_126 : decode cX14_errorOfName 126 = .ok (.iload_n 3, 1) := by decide +kernel
theorem dX14_errorOfName_127 : decode cX14_errorOfName 127 = .ok (.bipush 14, 2) := by decide +kernel
theorem dX14_errorOfName_129 : decode cX14_errorOfName 129 = .ok (.if_icmp .eq 9, 3) := by decide +kernel
theorem dX14_errorOfName_132 : decode cX14_errorOfName 132 = .ok (.iload_n 3, 1) := by decide +kernel
theorem dX14_errorOfName_133 : decode cX14_errorOfName 133 = .ok (.bipush 16, 2) := by decide +kernel
theorem dX14_errorOfName_135 : decode cX14_errorOfName 135 = .ok (.if_icmp .ne 16, 3) := by decide +kernel
theorem dX14_errorOfName_138 : decode cX14_errorOfName 138 = .ok (.aload_n 1, 1) := by decide +kernel
theorem dX14_errorOfName_139 : decode cX14_errorOfName 139 = .ok (.getfield 205, 3) := by decide +kernel
theorem dX14_errorOfName_142 : decode cX14_errorOfName 142 = .ok (.aload_n 1, 1) := by decide +kernel
theorem dX14_errorOfName_143 : decode cX14_errorOfName 143 = .ok (.getfield 208, 3) := by decide +kernel
theorem dX14_errorOfName_146 : decode cX14_errorOfName 146 = .ok (.iconst 1, 1) := by decide +kernel
theorem dX14_errorOfName_147 : decode cX14_errorOfName 147 = .ok (.isub, 1) := by decide +kernel
theorem dX14_errorOfName_148 : decode cX14_errorOfName 148 = .ok (.iload 5, 2) := by decide +kernel
theorem dX14_errorOfName_150 : decode cX14_errorOfName 150 = .ok (.iastore, 1) := by decide +kernel
theorem dX14_errorOfName_151 : decode cX14_errorOfName 151 = .ok (.iload_n 3, 1) := by decide +kernel
theorem dX14_errorOfName_152 : decode cX14_errorOfName 152 = .ok (.bipush 13, 2) := by decide +kernel
theorem dX14_errorOfName_154 : decode cX14_errorOfName 154 = .ok (.if_icmp .eq 9, 3) := by decide +kernel
theorem dX14_errorOfName_157 : decode cX14_errorOfName 157 = .ok (.iload_n 3, 1) := by decide +kernel
theorem dX14_errorOfName_158 : decode cX14_errorOfName 158 = .ok (.bipush 15, 2) := by decide +kernel
theorem dX14_errorOfName_160 : decode cX14_errorOfName 160 = .ok (.if_icmp .ne 16, 3) := by decide +kernel
theorem dX14_errorOfName_163 : decode cX14_errorOfName 163 = .ok (.aload_n 1, 1) := by decide +kernel
theorem dX14_errorOfName_164 : decode cX14_errorOfName 164 = .ok (.getfield 211, 3) := by decide +kernel
theorem dX14_errorOfName_167 : decode cX14_errorOfName 167 = .ok (.aload_n 1, 1) := by decide +kernel
theorem dX14_errorOfName_168 : decode cX14_errorOfName 168 = .ok (.getfield 208, 3) := by decide +kernel
theorem dX14_errorOfName_171 : decode cX14_errorOfName 171 = .ok (.iconst 1, 1) := by decide +kernel
theorem dX14_errorOfName_172 : decode cX14_errorOfName 172 = .ok (.isub, 1) := by decide +kernel
theorem dX14_errorOfName_173 : decode cX14_errorOfName 173 = .ok (.iload 5, 2) := by decide +kernel
theorem dX14_errorOfName_175 : decode cX14_errorOfName 175 = .ok (.iastore, 1) := by decide +kernel
theorem dX14_errorOfName_176 : decode cX14_errorOfName 176 = .ok (.iconst 0, 1) := by decide +kernel
theorem dX14_errorOfName_177 : decode cX14_errorOfName 177 = .ok (.ireturn, 1) := by decide +kernel
theorem dX14_errorOfRange_0 : decode cX14_errorOfRange 0 = .ok (.iload_n 0, 1) := by decide +kernel
theorem dX14_errorOfRange_1 : decode cX14_errorOfRange 1 = .ok (.iload_n 1, 1) := by decide +kernel
theorem dX14_errorOfRange_2 : decode cX14_errorOfRange 2 = .ok (.iload_n 2, 1) := by decide +kernel
theorem dX14_errorOfRange_3 : decode cX14_errorOfRange 3 = .ok (.invokestatic 46, 3) := by decide +kernel
theorem dX14_errorOfRange_6 : decode cX14_errorOfRange 6 = .ok (.ifCond .eq 7, 3) := by decide +kernel
theorem dX14_errorOfRange_9 : decode cX14_errorOfRange 9 = .ok (.iconst 0, 1) := by decide +kernel
theorem dX14_errorOfRange_10 : decode cX14_errorOfRange 10 = .ok (.goto 4, 3) := by decide +kernel
theorem dX14_errorOfRange_13 : decode cX14_errorOfRange 13 = .ok (.iconst 5, 1) := by decide +kernel
theorem dX14_errorOfRange_14 : decode cX14_errorOfRange 14 = .ok (.ireturn, 1) := by decide +kernel
theorem dX14_errorOfNumber_0 : decode cX14_errorOfNumber 0 = .ok (.aload_n 0, 1) := by decide +kernel
theorem dX14_errorOfNumber_1 : decode cX14_errorOfNumber 1 = .ok (.aload_n 1, 1) := by decide +kernel
theorem dX14_errorOfNumber_2 : decode cX14_errorOfNumber 2 = .ok (.iload_n 2, 1) := by decide +kernel
theorem dX14_errorOfNumber_3 : decode cX14_errorOfNumber 3 = .ok (.invokevirtual 214, 3) := by decide +kernel
theorem dX14_errorOfNumber_6 : decode cX14_errorOfNumber 6 = .ok (.istore_n 3, 1) := by decide +kernel
theorem dX14_errorOfNumber_7 : decode cX14_errorOfNumber 7 = .ok (.aload_n 1, 1) := by decide +kernel
theorem dX14_errorOfNumber_8 : decode cX14_errorOfNumber 8 = .ok (.getfield 196, 3) := by decide +kernel
theorem dX14_errorOfNumber_11 : decode cX14_errorOfNumber 11 = .ok (.iload_n 2, 1) := by decide +kernel
theorem dX14_errorOfNumber_12 : decode cX14_errorOfNumber 12 = .ok (.iload_n 3, 1) := by decide +kernel
theorem dX14_errorOfNumber_13 : decode cX14_errorOfNumber 13 = .ok (.iastore, 1) := by decide +kernel
theorem dX14_errorOfNumber_14 : decode cX14_errorOfNumber 14 = .ok (.aload_n 1, 1) := by decide +kernel
theorem dX14_errorOfNumber_15 : decode cX14_errorOfNumber 15 = .ok (.getfield 102, 3) := by decide +kernel
theorem dX14_errorOfNumber_18 : decode cX14_errorOfNumber 18 = .ok (.iload_n 2, 1) := by decide +kernel
theorem dX14_errorOfNumber_19 : decode cX14_errorOfNumber 19 = .ok (.iconst 1, 1) := by decide +kernel
theorem dX14_errorOfNumber_20 : decode cX14_errorOfNumber 20 = .ok (.isub, 1) := by decide +kernel
theorem dX14_errorOfNumber_21 : decode cX14_errorOfNumber 21 = .ok (.iaload, 1) := by decide +kernel
theorem dX14_errorOfNumber_22 : decode cX14_errorOfNumber 22 = .ok (.tableswitch 176 1 10 #[54, 176, 74, 94, 176, 114, 135, 176, 176, 156], 54) := by decide +kernel
theorem dX14_errorOfNumber_76 : decode cX14_errorOfNumber 76 = .ok (.aload_n 1, 1) := by decide +kernel
theorem dX14_errorOfNumber_77 : decode cX14_errorOfNumber 77 = .ok (.getfield 217, 3) := by decide +kernel
theorem dX14_errorOfNumber_80 : decode cX14_errorOfNumber 80 = .ok (.aload_n 1, 1) := by decide +kernel
theorem dX14_errorOfNumber_81 : decode cX14_errorOfNumber 81 = .ok (.getfield 171, 3) := by decide +kernel
theorem dX14_errorOfNumber_84 : decode cX14_errorOfNumber 84 = .ok (.iconst 1, 1) := by decide +kernel
theorem dX14_errorOfNumber_85 : decode cX14_errorOfNumber 85 = .ok (.isub, 1) := by decide +kernel
theorem dX14_errorOfNumber_86 : decode cX14_errorOfNumber 86 = .ok (.iload_n 3, 1) := by decide +kernel
theorem dX14_errorOfNumber_87 : decode cX14_errorOfNumber 87 = .ok (.iastore, 1) := by decide +kernel
theorem dX14_errorOfNumber_88 : decode cX14_errorOfNumber 88 = .ok (.iload_n 3, 1) := by decide +kernel
theorem dX14_errorOfNumber_89 : decode cX14_errorOfNumber 89 = .ok (.iconst 0, 1) := by decide +kernel
theorem dX14_errorOfNumber_90 : decode cX14_errorOfNumber 90 = .ok (.bipush 9, 2) := by decide +kernel
theorem dX14_errorOfNumber_92 : decode cX14_errorOfNumber 92 = .ok (.invokestatic 220, 3) := by decide +kernel
theorem dX14_errorOfNumber_95 : decode cX14_errorOfNumber 95 = .ok (.ireturn, 1) := by decide +kernel
theorem dX14_errorOfNumber_96 : decode cX14_errorOfNumber 96 = .ok (.aload_n 1, 1) := by decide +kernel
theorem dX14_errorOfNumber_97 : decode cX14_errorOfNumber 97 = .ok (.getfield 224, 3) := by decide +kernel
theorem dX14_errorOfNumber_100 : decode cX14_errorOfNumber 100 = .ok (.aload_n 1, 1) := by decide +kernel
theorem dX14_errorOfNumber_101 : decode cX14_errorOfNumber 101 = .ok (.getfield 174, 3) := by decide +kernel
theorem dX14_errorOfNumber_104 : decode cX14_errorOfNumber 104 = .ok (.iconst 1, 1) := by decide +kernel
theorem dX14_errorOfNumber_105 : decode cX14_errorOfNumber 105 = .ok (.isub, 1) := by decide +kernel
theorem dX14_errorOfNumber_106 : decode cX14_errorOfNumber 106 = .ok (.iload_n 3, 1) := by decide +kernel
theorem dX14_errorOfNumber_107 : decode cX14_errorOfNumber 107 = .ok (.iastore, 1) := by decide +kernel
theorem dX14_errorOfNumber_108 : decode cX14_errorOfNumber 108 = .ok (.iload_n 3, 1) := by decide +kernel
theorem dX14_errorOfNumber_109 : decode cX14_errorOfNumber 109 = .ok (.iconst 0, 1) := by decide +kernel
theorem dX14_errorOfNumber_110 : decode cX14_errorOfNumber 110 = .ok (.bipush 99, 2) := by decide +kernel
theorem dX14_errorOfNumber_112 : decode cX14_errorOfNumber 112 = .ok (.invokestatic 220, 3) := by decide +kernel
theorem dX14_errorOfNumber_115 : decode cX14_errorOfNumber 115 = .ok (.ireturn, 1) := by decide +kernel
theorem dX14_errorOfNumber_116 : decode cX14_errorOfNumber 116 = .ok (.aload_n 1, 1) := by decide +kernel
theorem dX14_errorOfNumber_117 : decode cX14_errorOfNumber 117 = .ok (.getfield 227, 3) := by decide +kernel
theorem dX14_errorOfNumber_120 : decode cX14_errorOfNumber 120 = .ok (.aload_n 1, 1) := by decide +kernel
theorem dX14_errorOfNumber_121 : decode cX14_errorOfNumber 121 = .ok (.getfield 174, 3) := by decide +kernel
theorem dX14_errorOfNumber_124 : decode cX14_errorOfNumber 124 = .ok (.iconst 1, 1) := by decide +kernel
theorem dX14_errorOfNumber_125 : decode cX14_errorOfNumber 125 = .ok (.isub, 1) := by decide +kernel
theorem dX14_errorOfNumber_126 : decode cX14_errorOfNumber 126 = .ok (.iload_n 3, 1) := by decide +kernel
theorem dX14_errorOfNumber_127 : decode cX14_errorOfNumber 127 = .ok (.iastore, 1) := by decide +kernel
theorem dX14_errorOfNumber_128 : decode cX14_errorOfNumber 128 = .ok (.iload_n 3, 1) := by decide +kernel
theorem dX14_errorOfNumber_129 : decode cX14_errorOfNumber 129 = .ok (.iconst 0, 1) := by decide +kernel
theorem dX14_errorOfNumber_130 : decode cX14_errorOfNumber 130 = .ok (.bipush 20, 2) := by decide +kernel
theorem dX14_errorOfNumber_132 : decode cX14_errorOfNumber 132 = .ok (.invokestatic 220, 3) := by decide +kernel
theorem dX14_errorOfNumber_135 : decode cX14_errorOfNumber 135 = .ok (.ireturn, 1) := by decide +kernel
theorem dX14_errorOfNumber_136 : decode cX14_errorOfNumber 136 = .ok (.aload_n 1, 1) := by decide +kernel
theorem dX14_errorOfNumber_137 : decode cX14_errorOfNumber 137 = .ok (.getfield 230, 3) := by decide +kernel
theorem dX14_errorOfNumber_140 : decode cX14_errorOfNumber 140 = .ok (.aload_n 1, 1) := by decide +kernel
theorem dX14_errorOfNumber_141 : decode cX14_errorOfNumber 141 = .ok (.getfield 43, 3) := by decide +kernel
theorem dX14_errorOfNumber_144 : decode cX14_errorOfNumber 144 = .ok (.iconst 1, 1) := by decide +kernel
theorem dX14_errorOfNumber_145 : decode cX14_errorOfNumber 145 = .ok (.isub, 1) := by decide +kernel
theorem dX14_errorOfNumber_146 : decode cX14_errorOfNumber 146 = .ok (.iload_n 3, 1) := by decide +kernel
theorem dX14_errorOfNumber_147 : decode cX14_errorOfNumber 147 = .ok (.iastore, 1) := by decide +kernel
theorem dX14_errorOfNumber_148 : decode cX14_errorOfNumber 148 = .ok (.iload_n 3, 1) := by decide +kernel
theorem dX14_errorOfNumber_149 : decode cX14_errorOfNumber 149 = .ok (.iconst 0, 1) := by decide +kernel
theorem dX14_errorOfNumber_150 : decode cX14_errorOfNumber 150 = .ok (.sipush 9999, 3) := by decide +kernel
theorem dX14_errorOfNumber_153 : decode cX14_errorOfNumber 153 = .ok (.invokestatic 220, 3) := by decide +kernel
theorem dX14_errorOfNumber_156 : decode cX14_errorOfNumber 156 = .ok (.ireturn, 1) := by decide +kernel
theorem dX14_errorOfNumber_157 : decode cX14_errorOfNumber 157 = .ok (.aload_n 1, 1) := by decide +kernel
theorem dX14_errorOfNumber_158 : decode cX14_errorOfNumber 158 = .ok (.getfield 233, 3) := by decide +kernel
theorem dX14_errorOfNumber_161 : decode cX14_errorOfNumber 161 = .ok (.aload_n 1, 1) := by decide +kernel
theorem dX14_errorOfNumber_162 : decode cX14_errorOfNumber 162 = .ok (.getfield 43, 3) := by decide +kernel
theorem dX14_errorOfNumber_165 : decode cX14_errorOfNumber 165 = .ok (.iconst 1, 1) := by decide +kernel
theorem dX14_errorOfNumber_166 : decode cX14_errorOfNumber 166 = .ok (.isub, 1) := by decide +kernel
theorem dX14_errorOfNumber_167 : decode cX14_errorOfNumber 167 = .ok (.iload_n 3, 1) := by decide +kernel
theorem dX14_errorOfNumber_168 : decode cX14_errorOfNumber 168 = .ok (.iastore, 1) := by decide +kernel
theorem dX14_errorOfNumber_169 : decode cX14_errorOfNumber 169 = .ok (.iload_n 3, 1) := by decide +kernel
theorem dX14_errorOfNumber_170 : decode cX14_errorOfNumber 170 = .ok (.iconst 0, 1) := by decide +kernel
theorem dX14_errorOfNumber_171 : decode cX14_errorOfNumber 171 = .ok (.sipush 9999, 3) := by decide +kernel
theorem dX14_errorOfNumber_174 : decode cX14_errorOfNumber 174 = .ok (.invokestatic 220, 3) := by decide +kernel
theorem dX14_errorOfNumber_177 : decode cX14_errorOfNumber 177 = .ok (.ireturn, 1) := by decide +kernel
theorem dX14_errorOfNumber_178 : decode cX14_errorOfNumber 178 = .ok (.aload_n 1, 1) := by decide +kernel
theorem dX14_errorOfNumber_179 : decode cX14_errorOfNumber 179 = .ok (.getfield 236, 3) := by decide +kernel
theorem dX14_errorOfNumber_182 : decode cX14_errorOfNumber 182 = .ok (.aload_n 1, 1) := by decide +kernel
theorem dX14_errorOfNumber_183 : decode cX14_errorOfNumber 183 = .ok (.getfield 54, 3) := by decide +kernel
theorem dX14_errorOfNumber_186 : decode cX14_errorOfNumber 186 = .ok (.iconst 1, 1) := by decide +kernel
theorem dX14_errorOfNumber_187 : decode cX14_errorOfNumber 187 = .ok (.isub, 1) := by decide +kernel
theorem dX14_errorOfNumber_188 : decode cX14_errorOfNumber 188 = .ok (.iload_n 3, 1) := by decide +kernel
theorem dX14_errorOfNumber_189 : decode cX14_errorOfNumber 189 = .ok (.iastore, 1) := by decide +kernel
theorem dX14_errorOfNumber_190 : decode cX14_errorOfNumber 190 = .ok (.iload_n 3, 1) := by decide +kernel
theorem dX14_errorOfNumber_191 : decode cX14_errorOfNumber 191 = .ok (.iconst 1, 1) := by decide +kernel
theorem dX14_errorOfNumber_192 : decode cX14_errorOfNumber 192 = .ok (.bipush 90, 2) := by decide +kernel
theorem dX14_errorOfNumber_194 : decode cX14_errorOfNumber 194 = .ok (.invokestatic 220, 3) := by decide +kernel
theorem dX14_errorOfNumber_197 : decode cX14_errorOfNumber 197 = .ok (.ireturn, 1) := by decide +kernel
theorem dX14_errorOfNumber_198 : decode cX14_errorOfNumber 198 = .ok (.iconst 0, 1) := by decide +kernel
theorem dX14_errorOfNumber_199 : decode cX14_errorOfNumber 199 = .ok (.ireturn, 1) := by decide +kernel
theorem dX14_errorOfOrder_0 : decode cX14_errorOfOrder 0 = .ok (.aload_n 1, 1) := by decide +kernel
theorem dX14_errorOfOrder_1 : decode cX14_errorOfOrder 1 = .ok (.getfield 208, 3) := by decide +kernel
theorem dX14_errorOfOrder_4 : decode cX14_errorOfOrder 4 = .ok (.bipush 24, 2) := by decide +kernel
theorem dX14_errorOfOrder_6 : decode cX14_errorOfOrder 6 = .ok (.if_icmp .ne 5, 3) := by decide +kernel
theorem dX14_errorOfOrder_9 : decode cX14_errorOfOrder 9 = .ok (.iconst 4, 1) := by decide +kernel
theorem dX14_errorOfOrder_10 : decode cX14_errorOfOrder 10 = .ok (.ireturn, 1) := by decide +kernel
theorem dX14_errorOfOrder_11 : decode cX14_errorOfOrder 11 = .ok (.aload_n 1, 1) := by decide +kernel
theorem dX14_errorOfOrder_12 : decode cX14_errorOfOrder 12 = .ok (.getfield 239, 3) := by decide +kernel
theorem dX14_errorOfOrder_15 : decode cX14_errorOfOrder 15 = .ok (.aload_n 1, 1) := by decide +kernel
theorem dX14_errorOfOrder_16 : decode cX14_errorOfOrder 16 = .ok (.getfield 208, 3) := by decide +kernel
theorem dX14_errorOfOrder_19 : decode cX14_errorOfOrder 19 = .ok (.iload_n 2, 1) := by decide +kernel
theorem dX14_errorOfOrder_20 : decode cX14_errorOfOrder 20 = .ok (.bipush 12, 2) := by decide +kernel
theorem dX14_errorOfOrder_22 : decode cX14_errorOfOrder 22 = .ok (.if_icmp .ne 7, 3) := by decide +kernel
theorem dX14_errorOfOrder_25 : decode cX14_errorOfOrder 25 = .ok (.iconst 0, 1) := by decide +kernel
theorem dX14_errorOfOrder_26 : decode cX14_errorOfOrder 26 = .ok (.goto 14, 3) := by decide +kernel
theorem dX14_errorOfOrder_29 : decode cX14_errorOfOrder 29 = .ok (.iload_n 2, 1) := by decide +kernel
theorem dX14_errorOfOrder_30 : decode cX14_errorOfOrder 30 = .ok (.bipush 14, 2) := by decide +kernel
theorem dX14_errorOfOrder_32 : decode cX14_errorOfOrder 32 = .ok (.if_icmp .ne 7, 3) := by decide +kernel
theorem dX14_errorOfOrder_35 : decode cX14_errorOfOrder 35 = .ok (.iconst 1, 1) := by decide +kernel
theorem dX14_errorOfOrder_36 : decode cX14_errorOfOrder 36 = .ok (.goto 4, 3) := by decide +kernel
theorem dX14_errorOfOrder_39 : decode cX14_errorOfOrder 39 = .ok (.iconst 2, 1) := by decide +kernel
theorem dX14_errorOfOrder_40 : decode cX14_errorOfOrder 40 = .ok (.iastore, 1) := by decide +kernel
theorem dX14_errorOfOrder_41 : decode cX14_errorOfOrder 41 = .ok (.aload_n 1, 1) := by decide +kernel
theorem dX14_errorOfOrder_42 : decode cX14_errorOfOrder 42 = .ok (.getfield 242, 3) := by decide +kernel
theorem dX14_errorOfOrder_45 : decode cX14_errorOfOrder 45 = .ok (.aload_n 1, 1) := by decide +kernel
theorem dX14_errorOfOrder_46 : decode cX14_errorOfOrder 46 = .ok (.getfield 208, 3) := by decide +kernel
theorem dX14_errorOfOrder_49 : decode cX14_errorOfOrder 49 = .ok (.iconst (-1), 1) := by decide +kernel
theorem dX14_errorOfOrder_50 : decode cX14_errorOfOrder 50 = .ok (.iastore, 1) := by decide +kernel
theorem dX14_errorOfOrder_51 : decode cX14_errorOfOrder 51 = .ok (.aload_n 1, 1) := by decide +kernel
theorem dX14_errorOfOrder_52 : decode cX14_errorOfOrder 52 = .ok (.getfield 245, 3) := by decide +kernel
theorem dX14_errorOfOrder_55 : decode cX14_errorOfOrder 55 = .ok (.aload_n 1, 1) := by decide +kernel
theorem dX14_errorOfOrder_56 : decode cX14_errorOfOrder 56 = .ok (.getfield 208, 3) := by decide +kernel
theorem dX14_errorOfOrder_59 : decode cX14_errorOfOrder 59 = .ok (.iconst (-1), 1) := by decide +kernel
theorem dX14_errorOfOrder_60 : decode cX14_errorOfOrder 60 = .ok (.iastore, 1) := by decide +kernel
theorem dX14_errorOfOrder_61 : decode cX14_errorOfOrder 61 = .ok (.aload_n 1, 1) := by decide +kernel
theorem dX14_errorOfOrder_62 : decode cX14_errorOfOrder 62 = .ok (.dup, 1) := by decide +kernel
theorem dX14_errorOfOrder_63 : decode cX14_errorOfOrder 63 = .ok (.getfield 208, 3) := by decide +kernel
theorem dX14_errorOfOrder_66 : decode cX14_errorOfOrder 66 = .ok (.iconst 1, 1) := by decide +kernel
theorem dX14_errorOfOrder_67 : decode cX14_errorOfOrder 67 = .ok (.iadd, 1) := by decide +kernel
theorem dX14_errorOfOrder_68 : decode cX14_errorOfOrder 68 = .ok (.putfield 208, 3) := by decide +kernel
theorem dX14_errorOfOrder_71 : decode cX14_errorOfOrder 71 = .ok (.iconst 0, 1) := by decide +kernel
theorem dX14_errorOfOrder_72 : decode cX14_errorOfOrder 72 = .ok (.ireturn, 1) := by decide +kernel
theorem dX14_errorOf_0 : decode cX14_errorOf 0 = .ok (.aload_n 1, 1) := by decide +kernel
theorem dX14_errorOf_1 : decode cX14_errorOf 1 = .ok (.getfield 102, 3) := by decide +kernel
theorem dX14_errorOf_4 : decode cX14_errorOf 4 = .ok (.iload_n 2, 1) := by decide +kernel
theorem dX14_errorOf_5 : decode cX14_errorOf 5 = .ok (.iaload, 1) := by decide +kernel
theorem dX14_errorOf_6 : decode cX14_errorOf 6 = .ok (.istore_n 3, 1) := by decide +kernel
theorem dX14_errorOf_7 : decode cX14_errorOf 7 = .ok (.iload_n 3, 1) := by decide +kernel
theorem dX14_errorOf_8 : decode cX14_errorOf 8 = .ok (.tableswitch 169 12 36 #[130, 169, 130, 169, 130, 137, 153, 169, 169, 169, 169, 169, 169, 169, 169, 169, 169, 169, 169, 169, 169, 169, 169, 116, 123], 116) := by decide +kernel
theorem dX14_errorOf_124 : decode cX14_errorOf 124 = .ok (.aload_n 0, 1) := by decide +kernel
theorem dX14_errorOf_125 : decode cX14_errorOf 125 = .ok (.aload_n 1, 1) := by decide +kernel
theorem dX14_errorOf_126 : decode cX14_errorOf 126 = .ok (.iload_n 2, 1) := by decide +kernel
theorem dX14_errorOf_127 : decode cX14_errorOf 127 = .ok (.invokevirtual 248, 3) := by decide +kernel
theorem dX14_errorOf_130 : decode cX14_errorOf 130 = .ok (.ireturn, 1) := by decide +kernel
theorem dX14_errorOf_131 : decode cX14_errorOf 131 = .ok (.aload_n 0, 1) := by decide +kernel
theorem dX14_errorOf_132 : decode cX14_errorOf 132 = .ok (.aload_n 1, 1) := by decide +kernel
theorem dX14_errorOf_133 : decode cX14_errorOf 133 = .ok (.iload_n 2, 1) := by decide +kernel
theorem dX14_errorOf_134 : decode cX14_errorOf 134 = .ok (.invokevirtual 251, 3) := by decide +kernel
theorem dX14_errorOf_137 : decode cX14_errorOf 137 = .ok (.ireturn, 1) := by decide +kernel
theorem dX14_errorOf_138 : decode cX14_errorOf 138 = .ok (.aload_n 0, 1) := by decide +kernel
theorem dX14_errorOf_139 : decode cX14_errorOf 139 = .ok (.aload_n 1, 1) := by decide +kernel
theorem dX14_errorOf_140 : decode cX14_errorOf 140 = .ok (.iload_n 3, 1) := by decide +kernel
theorem dX14_errorOf_141 : decode cX14_errorOf 141 = .ok (.invokevirtual 254, 3) := by decide +kernel
theorem dX14_errorOf_144 : decode cX14_errorOf 144 = .ok (.ireturn, 1) := by decide +kernel
theorem dX14_errorOf_145 : decode cX14_errorOf 145 = .ok (.aload_n 1, 1) := by decide +kernel
theorem dX14_errorOf_146 : decode cX14_errorOf 146 = .ok (.getfield 242, 3) := by decide +kernel
theorem dX14_errorOf_149 : decode cX14_errorOf 149 = .ok (.aload_n 1, 1) := by decide +kernel
theorem dX14_errorOf_150 : decode cX14_errorOf 150 = .ok (.getfield 208, 3) := by decide +kernel
theorem dX14_errorOf_153 : decode cX14_errorOf 153 = .ok (.iconst 1, 1) := by decide +kernel
theorem dX14_errorOf_154 : decode cX14_errorOf 154 = .ok (.isub, 1) := by decide +kernel
theorem dX14_errorOf_155 : decode cX14_errorOf 155 = .ok (.iload_n 2, 1) := by decide +kernel
theorem dX14_errorOf_156 : decode cX14_errorOf 156 = .ok (.iconst 1, 1) := by decide +kernel
theorem dX14_errorOf_157 : decode cX14_errorOf 157 = .ok (.iadd, 1) := by decide +kernel
theorem dX14_errorOf_158 : decode cX14_errorOf 158 = .ok (.iastore, 1) := by decide +kernel
theorem dX14_errorOf_159 : decode cX14_errorOf 159 = .ok (.iconst 0, 1) := by decide +kernel
theorem dX14_errorOf_160 : decode cX14_errorOf 160 = .ok (.ireturn, 1) := by decide +kernel
theorem dX14_errorOf_161 : decode cX14_errorOf 161 = .ok (.aload_n 1, 1) := by decide +kernel
theorem dX14_errorOf_162 : decode cX14_errorOf 162 = .ok (.getfield 245, 3) := by decide +kernel
theorem dX14_errorOf_165 : decode cX14_errorOf 165 = .ok (.aload_n 1, 1) := by decide +kernel
theorem dX14_errorOf_166 : decode cX14_errorOf 166 = .ok (.getfield 208, 3) := by decide +kernel
theorem dX14_errorOf_169 : decode cX14_errorOf 169 = .ok (.iconst 1, 1) := by decide +kernel
theorem dX14_errorOf_170 : decode cX14_errorOf 170 = .ok (.isub, 1) := by decide +kernel
theorem dX14_errorOf_171 : decode cX14_errorOf 171 = .ok (.iload_n 2, 1) := by decide +kernel
theorem dX14_errorOf_172 : decode cX14_errorOf 172 = .ok (.iconst 1, 1) := by decide +kernel
theorem dX14_errorOf_173 : decode cX14_errorOf 173 = .ok (.iadd, 1) := by decide +kernel
theorem dX14_errorOf_174 : decode cX14_errorOf 174 = .ok (.iastore, 1) := by decide +kernel
theorem dX14_errorOf_175 : decode cX14_errorOf 175 = .ok (.iconst 0, 1) := by decide +kernel
theorem dX14_errorOf_176 : decode cX14_errorOf 176 = .ok (.ireturn, 1) := by decide +kernel
theorem dX14_errorOf_177 : decode cX14_errorOf 177 = .ok (.iconst 0, 1) := by decide +kernel
theorem dX14_errorOf_178 : decode cX14_errorOf 178 = .ok (.ireturn, 1) := by decide +kernel
theorem dX14_read_0 : decode cX14_read 0 = .ok (.aload_n 0, 1) := by decide +kernel
theorem dX14_read_1 : decode cX14_read 1 = .ok (.aload_n 1, 1) := by decide +kernel
theorem dX14_read_2 : decode cX14_read 2 = .ok (.invokevirtual 257, 3) := by decide +kernel
theorem dX14_read_5 : decode cX14_read 5 = .ok (.aload_n 0, 1) := by decide +kernel
theorem dX14_read_6 : decode cX14_read 6 = .ok (.iconst 0, 1) := by decide +kernel
theorem dX14_read_7 : decode cX14_read 7 = .ok (.putfield 108, 3) := by decide +kernel
theorem dX14_read_10 : decode cX14_read 10 = .ok (.aload_n 0, 1) := by decide +kernel
theorem dX14_read_11 : decode cX14_read 11 = .ok (.iconst 0, 1) := by decide +kernel
theorem dX14_read_12 : decode cX14_read 12 = .ok (.putfield 111, 3) := by decide +kernel
theorem dX14_read_15 : decode cX14_read 15 = .ok (.aload_n 0, 1) := by decide +kernel
theorem dX14_read_16 : decode cX14_read 16 = .ok (.aload_n 1, 1) := by decide +kernel
theorem dX14_read_17 : decode cX14_read 17 = .ok (.invokevirtual 261, 3) := by decide +kernel
theorem dX14_read_20 : decode cX14_read 20 = .ok (.ifCond .ne 18, 3) := by decide +kernel
theorem dX14_read_23 : decode cX14_read 23 = .ok (.aload_n 0, 1) := by decide +kernel
theorem dX14_read_24 : decode cX14_read 24 = .ok (.aload_n 1, 1) := by decide +kernel
theorem dX14_read_25 : decode cX14_read 25 = .ok (.getfield 93, 3) := by decide +kernel
theorem dX14_read_28 : decode cX14_read 28 = .ok (.aload_n 0, 1) := by decide +kernel
theorem dX14_read_29 : decode cX14_read 29 = .ok (.getfield 108, 3) := by decide +kernel
theorem dX14_read_32 : decode cX14_read 32 = .ok (.iaload, 1) := by decide +kernel
theorem dX14_read_33 : decode cX14_read 33 = .ok (.putfield 13, 3) := by decide +kernel
theorem dX14_read_36 : decode cX14_read 36 = .ok (.iconst 1, 1) := by decide +kernel
theorem dX14_read_37 : decode cX14_read 37 = .ok (.ireturn, 1) := by decide +kernel
theorem dX14_read_38 : decode cX14_read 38 = .ok (.iconst 0, 1) := by decide +kernel
theorem dX14_read_39 : decode cX14_read 39 = .ok (.istore_n 2, 1) := by decide +kernel
theorem dX14_read_40 : decode cX14_read 40 = .ok (.iload_n 2, 1) := by decide +kernel
theorem dX14_read_41 : decode cX14_read 41 = .ok (.aload_n 0, 1) := by decide +kernel
theorem dX14_read_42 : decode cX14_read 42 = .ok (.getfield 108, 3) := by decide +kernel
theorem dX14_read_45 : decode cX14_read 45 = .ok (.if_icmp .ge 35, 3) := by decide +kernel
theorem dX14_read_48 : decode cX14_read 48 = .ok (.aload_n 0, 1) := by decide +kernel
theorem dX14_read_49 : decode cX14_read 49 = .ok (.aload_n 1, 1) := by decide +kernel
theorem dX14_read_50 : decode cX14_read 50 = .ok (.iload_n 2, 1) := by decide +kernel
theorem dX14_read_51 : decode cX14_read 51 = .ok (.invokevirtual 264, 3) := by decide +kernel
theorem dX14_read_54 : decode cX14_read 54 = .ok (.istore_n 3, 1) := by decide +kernel
theorem dX14_read_55 : decode cX14_read 55 = .ok (.iload_n 3, 1) := by decide +kernel
theorem dX14_read_56 : decode cX14_read 56 = .ok (.ifCond .ne 6, 3) := by decide +kernel
theorem dX14_read_59 : decode cX14_read 59 = .ok (.goto 15, 3) := by decide +kernel
theorem dX14_read_62 : decode cX14_read 62 = .ok (.aload_n 0, 1) := by decide +kernel
theorem dX14_read_63 : decode cX14_read 63 = .ok (.aload_n 1, 1) := by decide +kernel
theorem dX14_read_64 : decode cX14_read 64 = .ok (.getfield 93, 3) := by decide +kernel
theorem dX14_read_67 : decode cX14_read 67 = .ok (.iload_n 2, 1) := by decide +kernel
theorem dX14_read_68 : decode cX14_read 68 = .ok (.iaload, 1) := by decide +kernel
theorem dX14_read_69 : decode cX14_read 69 = .ok (.putfield 13, 3) := by decide +kernel
theorem dX14_read_72 : decode cX14_read 72 = .ok (.iload_n 3, 1) := by decide +kernel
theorem dX14_read_73 : decode cX14_read 73 = .ok (.ireturn, 1) := by decide +kernel
theorem dX14_read_74 : decode cX14_read 74 = .ok (.iinc 2 1, 3) := by decide +kernel
theorem dX14_read_77 : decode cX14_read 77 = .ok (.goto (-37), 3) := by decide +kernel
theorem dX14_read_80 : decode cX14_read 80 = .ok (.iconst 0, 1) := by decide +kernel
theorem dX14_read_81 : decode cX14_read 81 = .ok (.ireturn, 1) := by decide +kernel
theorem dX14_goesBy_0 : decode cX14_goesBy 0 = .ok (.aload_n 0, 1) := by decide +kernel
theorem dX14_goesBy_1 : decode cX14_goesBy 1 = .ok (.getfield 20, 3) := by decide +kernel
theorem dX14_goesBy_4 : decode cX14_goesBy 4 = .ok (.getfield 102, 3) := by decide +kernel
theorem dX14_goesBy_7 : decode cX14_goesBy 7 = .ok (.aload_n 0, 1) := by decide +kernel
theorem dX14_goesBy_8 : decode cX14_goesBy 8 = .ok (.getfield 267, 3) := by decide +kernel
theorem dX14_goesBy_11 : decode cX14_goesBy 11 = .ok (.iaload, 1) := by decide +kernel
theorem dX14_goesBy_12 : decode cX14_goesBy 12 = .ok (.iload_n 1, 1) := by decide +kernel
theorem dX14_goesBy_13 : decode cX14_goesBy 13 = .ok (.if_icmp .eq 5, 3) := by decide +kernel
theorem dX14_goesBy_16 : decode cX14_goesBy 16 = .ok (.iconst 0, 1) := by decide +kernel
theorem dX14_goesBy_17 : decode cX14_goesBy 17 = .ok (.ireturn, 1) := by decide +kernel
theorem dX14_goesBy_18 : decode cX14_goesBy 18 = .ok (.aload_n 0, 1) := by decide +kernel
theorem dX14_goesBy_19 : decode cX14_goesBy 19 = .ok (.dup, 1) := by decide +kernel
theorem dX14_goesBy_20 : decode cX14_goesBy 20 = .ok (.getfield 267, 3) := by decide +kernel
theorem dX14_goesBy_23 : decode cX14_goesBy 23 = .ok (.iconst 1, 1) := by decide +kernel
theorem dX14_goesBy_24 : decode cX14_goesBy 24 = .ok (.iadd, 1) := by decide +kernel
theorem dX14_goesBy_25 : decode cX14_goesBy 25 = .ok (.putfield 267, 3) := by decide +kernel
theorem dX14_goesBy_28 : decode cX14_goesBy 28 = .ok (.iconst 1, 1) := by decide +kernel
theorem dX14_goesBy_29 : decode cX14_goesBy 29 = .ok (.ireturn, 1) := by decide +kernel
theorem dX14_test_0 : decode cX14_test 0 = .ok (.aload_n 0, 1) := by decide +kernel
theorem dX14_test_1 : decode cX14_test 1 = .ok (.invokevirtual 270, 3) := by decide +kernel
theorem dX14_test_4 : decode cX14_test 4 = .ok (.istore_n 1, 1) := by decide +kernel
theorem dX14_test_5 : decode cX14_test 5 = .ok (.aload_n 0, 1) := by decide +kernel
theorem dX14_test_6 : decode cX14_test 6 = .ok (.bipush 29, 2) := by decide +kernel
theorem dX14_test_8 : decode cX14_test 8 = .ok (.invokevirtual 274, 3) := by decide +kernel
theorem dX14_test_11 : decode cX14_test 11 = .ok (.ifCond .eq 13, 3) := by decide +kernel
theorem dX14_test_14 : decode cX14_test 14 = .ok (.iload_n 1, 1) := by decide +kernel
theorem dX14_test_15 : decode cX14_test 15 = .ok (.aload_n 0, 1) := by decide +kernel
theorem dX14_test_16 : decode cX14_test 16 = .ok (.invokevirtual 270, 3) := by decide +kernel
theorem dX14_test_19 : decode cX14_test 19 = .ok (.ior, 1) := by decide +kernel
theorem dX14_test_20 : decode cX14_test 20 = .ok (.istore_n 1, 1) := by decide +kernel
theorem dX14_test_21 : decode cX14_test 21 = .ok (.goto (-16), 3) := by decide +kernel
theorem dX14_test_24 : decode cX14_test 24 = .ok (.iload_n 1, 1) := by decide +kernel
theorem dX14_test_25 : decode cX14_test 25 = .ok (.ireturn, 1) := by decide +kernel
theorem dX14_both_0 : decode cX14_both 0 = .ok (.aload_n 0, 1) := by decide +kernel
theorem dX14_both_1 : decode cX14_both 1 = .ok (.invokevirtual 277, 3) := by decide +kernel
theorem dX14_both_4 : decode cX14_both 4 = .ok (.istore_n 1, 1) := by decide +kernel
theorem dX14_both_5 : decode cX14_both 5 = .ok (.aload_n 0, 1) := by decide +kernel
theorem dX14_both_6 : decode cX14_both 6 = .ok (.bipush 28, 2) := by decide +kernel
theorem dX14_both_8 : decode cX14_both 8 = .ok (.invokevirtual 274, 3) := by decide +kernel
theorem dX14_both_11 : decode cX14_both 11 = .ok (.ifCond .eq 13, 3) := by decide +kernel
theorem dX14_both_14 : decode cX14_both 14 = .ok (.iload_n 1, 1) := by decide +kernel
theorem dX14_both_15 : decode cX14_both 15 = .ok (.aload_n 0, 1) := by decide +kernel
theorem dX14_both_16 : decode cX14_both 16 = .ok (.invokevirtual 277, 3) := by decide +kernel
theorem dX14_both_19 : decode cX14_both 19 = .ok (.iand, 1) := by decide +kernel
theorem dX14_both_20 : decode cX14_both 20 = .ok (.istore_n 1, 1) := by decide +kernel
theorem dX14_both_21 : decode cX14_both 21 = .ok (.goto (-16), 3) := by decide +kernel
theorem dX14_both_24 : decode cX14_both 24 = .ok (.iload_n 1, 1) := by decide +kernel
theorem dX14_both_25 : decode cX14_both 25 = .ok (.ireturn, 1) := by decide +kernel
theorem dX14_single_0 : decode cX14_single 0 = .ok (.aload_n 0, 1) := by decide +kernel
theorem dX14_single_1 : decode cX14_single 1 = .ok (.bipush 27, 2) := by decide +kernel
theorem dX14_single_3 : decode cX14_single 3 = .ok (.invokevirtual 274, 3) := by decide +kernel
theorem dX14_single_6 : decode cX14_single 6 = .ok (.ifCond .eq 16, 3) := by decide +kernel
theorem dX14_single_9 : decode cX14_single 9 = .ok (.aload_n 0, 1) := by decide +kernel
theorem dX14_single_10 : decode cX14_single 10 = .ok (.invokevirtual 277, 3) := by decide +kernel
theorem dX14_single_13 : decode cX14_single 13 = .ok (.ifCond .ne 7, 3) := by decide +kernel
theorem dX14_single_16 : decode cX14_single 16 = .ok (.iconst 1, 1) := by decide +kernel
theorem dX14_single_17 : decode cX14_single 17 = .ok (.goto 4, 3) := by decide +kernel
theorem dX14_single_20 : decode cX14_single 20 = .ok (.iconst 0, 1) := by decide +kernel
theorem dX14_single_21 : decode cX14_single 21 = .ok (.ireturn, 1) := by decide +kernel
theorem dX14_single_22 : decode cX14_single 22 = .ok (.aload_n 0, 1) := by decide +kernel
theorem dX14_single_23 : decode cX14_single 23 = .ok (.bipush 42, 2) := by decide +kernel
theorem dX14_single_25 : decode cX14_single 25 = .ok (.invokevirtual 274, 3) := by decide +kernel
theorem dX14_single_28 : decode cX14_single 28 = .ok (.ifCond .eq 20, 3) := by decide +kernel
theorem dX14_single_31 : decode cX14_single 31 = .ok (.aload_n 0, 1) := by decide +kernel
theorem dX14_single_32 : decode cX14_single 32 = .ok (.invokevirtual 280, 3) := by decide +kernel
theorem dX14_single_35 : decode cX14_single 35 = .ok (.istore_n 1, 1) := by decide +kernel
theorem dX14_single_36 : decode cX14_single 36 = .ok (.aload_n 0, 1) := by decide +kernel
theorem dX14_single_37 : decode cX14_single 37 = .ok (.dup, 1) := by decide +kernel
theorem dX14_single_38 : decode cX14_single 38 = .ok (.getfield 267, 3) := by decide +kernel
theorem dX14_single_41 : decode cX14_single 41 = .ok (.iconst 1, 1) := by decide +kernel
theorem dX14_single_42 : decode cX14_single 42 = .ok (.iadd, 1) := by decide +kernel
theorem dX14_single_43 : decode cX14_single 43 = .ok (.putfield 267, 3) := by decide +kernel
theorem dX14_single_46 : decode cX14_single 46 = .ok (.iload_n 1, 1) := by decide +kernel
theorem dX14_single_47 : decode cX14_single 47 = .ok (.ireturn, 1) := by decide +kernel
theorem dX14_single_48 : decode cX14_single 48 = .ok (.aload_n 0, 1) := by decide +kernel
theorem dX14_single_49 : decode cX14_single 49 = .ok (.bipush 26, 2) := by decide +kernel
theorem dX14_single_51 : decode cX14_single 51 = .ok (.invokevirtual 274, 3) := by decide +kernel
theorem dX14_single_54 : decode cX14_single 54 = .ok (.ifCond .eq 58, 3) := by decide +kernel
theorem dX14_single_57 : decode cX14_single 57 = .ok (.aload_n 0, 1) := by decide +kernel
theorem dX14_single_58 : decode cX14_single 58 = .ok (.dup, 1) := by decide +kernel
theorem dX14_single_59 : decode cX14_single 59 = .ok (.getfield 267, 3) := by decide +kernel
theorem dX14_single_62 : decode cX14_single 62 = .ok (.iconst 2, 1) := by decide +kernel
theorem dX14_single_63 : decode cX14_single 63 = .ok (.iadd, 1) := by decide +kernel
theorem dX14_single_64 : decode cX14_single 64 = .ok (.putfield 267, 3) := by decide +kernel
theorem dX14_single_67 : decode cX14_single 67 = .ok (.aload_n 0, 1) := by decide +kernel
theorem dX14_single_68 : decode cX14_single 68 = .ok (.getfield 37, 3) := by decide +kernel
theorem dX14_single_71 : decode cX14_single 71 = .ok (.getfield 283, 3) := by decide +kernel
theorem dX14_single_74 : decode cX14_single 74 = .ok (.aload_n 0, 1) := by decide +kernel
theorem dX14_single_75 : decode cX14_single 75 = .ok (.getfield 20, 3) := by decide +kernel
theorem dX14_single_78 : decode cX14_single 78 = .ok (.getfield 196, 3) := by decide +kernel
theorem dX14_single_81 : decode cX14_single 81 = .ok (.aload_n 0, 1) := by decide +kernel
theorem dX14_single_82 : decode cX14_single 82 = .ok (.getfield 267, 3) := by decide +kernel
theorem dX14_single_85 : decode cX14_single 85 = .ok (.iconst 1, 1) := by decide +kernel
theorem dX14_single_86 : decode cX14_single 86 = .ok (.isub, 1) := by decide +kernel
theorem dX14_single_87 : decode cX14_single 87 = .ok (.iaload, 1) := by decide +kernel
theorem dX14_single_88 : decode cX14_single 88 = .ok (.iaload, 1) := by decide +kernel
theorem dX14_single_89 : decode cX14_single 89 = .ok (.aload_n 0, 1) := by decide +kernel
theorem dX14_single_90 : decode cX14_single 90 = .ok (.getfield 20, 3) := by decide +kernel
theorem dX14_single_93 : decode cX14_single 93 = .ok (.getfield 196, 3) := by decide +kernel
theorem dX14_single_96 : decode cX14_single 96 = .ok (.aload_n 0, 1) := by decide +kernel
theorem dX14_single_97 : decode cX14_single 97 = .ok (.getfield 267, 3) := by decide +kernel
theorem dX14_single_100 : decode cX14_single 100 = .ok (.iconst 2, 1) := by decide +kernel
theorem dX14_single_101 : decode cX14_single 101 = .ok (.isub, 1) := by decide +kernel
theorem dX14_single_102 : decode cX14_single 102 = .ok (.iaload, 1) := by decide +kernel
theorem dX14_single_103 : decode cX14_single 103 = .ok (.if_icmp .ne 7, 3) := by decide +kernel
theorem dX14_single_106 : decode cX14_single 106 = .ok (.iconst 1, 1) := by decide +kernel
theorem dX14_single_107 : decode cX14_single 107 = .ok (.goto 4, 3) := by decide +kernel
theorem dX14_single_110 : decode cX14_single 110 = .ok (.iconst 0, 1) := by decide +kernel
theorem dX14_single_111 : decode cX14_single 111 = .ok (.ireturn, 1) := by decide +kernel
theorem dX14_single_112 : decode cX14_single 112 = .ok (.aload_n 0, 1) := by decide +kernel
theorem dX14_single_113 : decode cX14_single 113 = .ok (.invokevirtual 284, 3) := by decide +kernel
theorem dX14_single_116 : decode cX14_single 116 = .ok (.istore_n 1, 1) := by decide +kernel
theorem dX14_single_117 : decode cX14_single 117 = .ok (.aload_n 0, 1) := by decide +kernel
theorem dX14_single_118 : decode cX14_single 118 = .ok (.getfield 20, 3) := by decide +kernel
theorem dX14_single_121 : decode cX14_single 121 = .ok (.getfield 102, 3) := by decide +kernel
theorem dX14_single_124 : decode cX14_single 124 = .ok (.aload_n 0, 1) := by decide +kernel
theorem dX14_single_125 : decode cX14_single 125 = .ok (.getfield 267, 3) := by decide +kernel
theorem dX14_single_128 : decode cX14_single 128 = .ok (.iaload, 1) := by decide +kernel
theorem dX14_single_129 : decode cX14_single 129 = .ok (.istore_n 2, 1) := by decide +kernel
theorem dX14_single_130 : decode cX14_single 130 = .ok (.aload_n 0, 1) := by decide +kernel
theorem dX14_single_131 : decode cX14_single 131 = .ok (.dup, 1) := by decide +kernel
theorem dX14_single_132 : decode cX14_single 132 = .ok (.getfield 267, 3) := by decide +kernel
theorem dX14_single_135 : decode cX14_single 135 = .ok (.iconst 1, 1) := by decide +kernel
theorem dX14_single_136 : decode cX14_single 136 = .ok (.iadd, 1) := by decide +kernel
theorem dX14_single_137 : decode cX14_single 137 = .ok (.putfield 267, 3) := by decide +kernel
theorem dX14_single_140 : decode cX14_single 140 = .ok (.aload_n 0, 1) := by decide +kernel
theorem dX14_single_141 : decode cX14_single 141 = .ok (.invokevirtual 284, 3) := by decide +kernel
theorem dX14_single_144 : decode cX14_single 144 = .ok (.istore_n 3, 1) := by decide +kernel
theorem dX14_single_145 : decode cX14_single 145 = .ok (.iload_n 1, 1) := by decide +kernel
theorem dX14_single_146 : decode cX14_single 146 = .ok (.iload_n 3, 1) := by decide +kernel
theorem dX14_single_147 : decode cX14_single 147 = .ok (.if_icmp .ne 21, 3) := by decide +kernel
theorem dX14_single_150 : decode cX14_single 150 = .ok (.iload_n 2, 1) := by decide +kernel
theorem dX14_single_151 : decode cX14_single 151 = .ok (.bipush 52, 2) := by decide +kernel
theorem dX14_single_153 : decode cX14_single 153 = .ok (.if_icmp .eq 9, 3) := by decide +kernel
theorem dX14_single_156 : decode cX14_single 156 = .ok (.iload_n 2, 1) := by decide +kernel
theorem dX14_single_157 : decode cX14_single 157 = .ok (.bipush 53, 2) := by decide +kernel
theorem dX14_single_159 : decode cX14_single 159 = .ok (.if_icmp .lt 7, 3) := by decide +kernel
theorem dX14_single_162 : decode cX14_single 162 = .ok (.iconst 1, 1) := by decide +kernel
theorem dX14_single_163 : decode cX14_single 163 = .ok (.goto 4, 3) := by decide +kernel
theorem dX14_single_166 : decode cX14_single 166 = .ok (.iconst 0, 1) := by decide +kernel
theorem dX14_single_167 : decode cX14_single 167 = .ok (.ireturn, 1) := by decide +kernel
theorem dX14_single_168 : decode cX14_single 168 = .ok (.iload_n 1, 1) := by decide +kernel
theorem dX14_single_169 : decode cX14_single 169 = .ok (.iload_n 3, 1) := by decide +kernel
theorem dX14_single_170 : decode cX14_single 170 = .ok (.if_icmp .ge 23, 3) := by decide +kernel
theorem dX14_single_173 : decode cX14_single 173 = .ok (.iload_n 2, 1) := by decide +kernel
theorem dX14_single_174 : decode cX14_single 174 = .ok (.bipush 50, 2) := by decide +kernel
theorem dX14_single_176 : decode cX14_single 176 = .ok (.if_icmp .eq 9, 3) := by decide +kernel
theorem dX14_single_179 : decode cX14_single 179 = .ok (.iload_n 2, 1) := by decide +kernel
theorem dX14_single_180 : decode cX14_single 180 = .ok (.bipush 53, 2) := by decide +kernel
theorem dX14_single_182 : decode cX14_single 182 = .ok (.if_icmp .ne 7, 3) := by decide +kernel
theorem dX14_single_185 : decode cX14_single 185 = .ok (.iconst 1, 1) := by decide +kernel
theorem dX14_single_186 : decode cX14_single 186 = .ok (.goto 24, 3) := by decide +kernel
theorem dX14_single_189 : decode cX14_single 189 = .ok (.iconst 0, 1) := by decide +kernel
theorem dX14_single_190 : decode cX14_single 190 = .ok (.goto 20, 3) := by decide +kernel
theorem dX14_single_193 : decode cX14_single 193 = .ok (.iload_n 2, 1) := by decide +kernel
theorem dX14_single_194 : decode cX14_single 194 = .ok (.bipush 51, 2) := by decide +kernel
theorem dX14_single_196 : decode cX14_single 196 = .ok (.if_icmp .eq 9, 3) := by decide +kernel
theorem dX14_single_199 : decode cX14_single 199 = .ok (.iload_n 2, 1) := by decide +kernel
theorem dX14_single_200 : decode cX14_single 200 = .ok (.bipush 54, 2) := by decide +kernel
theorem dX14_single_202 : decode cX14_single 202 = .ok (.if_icmp .ne 7, 3) := by decide +kernel
theorem dX14_single_205 : decode cX14_single 205 = .ok (.iconst 1, 1) := by decide +kernel
theorem dX14_single_206 : decode cX14_single 206 = .ok (.goto 4, 3) := by decide +kernel
theorem dX14_single_209 : decode cX14_single 209 = .ok (.iconst 0, 1) := by decide +kernel
theorem dX14_single_210 : decode cX14_single 210 = .ok (.ireturn, 1) := by decide +kernel
theorem dX14_sum_0 : decode cX14_sum 0 = .ok (.aload_n 0, 1) := by decide +kernel
theorem dX14_sum_1 : decode cX14_sum 1 = .ok (.invokevirtual 286, 3) := by decide +kernel
theorem dX14_sum_4 : decode cX14_sum 4 = .ok (.istore_n 1, 1) := by decide +kernel
theorem dX14_sum_5 : decode cX14_sum 5 = .ok (.aload_n 0, 1) := by decide +kernel
theorem dX14_sum_6 : decode cX14_sum 6 = .ok (.getfield 20, 3) := by decide +kernel
theorem dX14_sum_9 : decode cX14_sum 9 = .ok (.getfield 102, 3) := by decide +kernel
theorem dX14_sum_12 : decode cX14_sum 12 = .ok (.aload_n 0, 1) := by decide +kernel
theorem dX14_sum_13 : decode cX14_sum 13 = .ok (.getfield 267, 3) := by decide +kernel
theorem dX14_sum_16 : decode cX14_sum 16 = .ok (.iaload, 1) := by decide +kernel
theorem dX14_sum_17 : decode cX14_sum 17 = .ok (.bipush 46, 2) := by decide +kernel
theorem dX14_sum_19 : decode cX14_sum 19 = .ok (.bipush 47, 2) := by decide +kernel
theorem dX14_sum_21 : decode cX14_sum 21 = .ok (.invokestatic 46, 3) := by decide +kernel
theorem dX14_sum_24 : decode cX14_sum 24 = .ok (.ifCond .eq 50, 3) := by decide +kernel
theorem dX14_sum_27 : decode cX14_sum 27 = .ok (.aload_n 0, 1) := by decide +kernel
theorem dX14_sum_28 : decode cX14_sum 28 = .ok (.getfield 20, 3) := by decide +kernel
theorem dX14_sum_31 : decode cX14_sum 31 = .ok (.getfield 102, 3) := by decide +kernel
theorem dX14_sum_34 : decode cX14_sum 34 = .ok (.aload_n 0, 1) := by decide +kernel
theorem dX14_sum_35 : decode cX14_sum 35 = .ok (.getfield 267, 3) := by decide +kernel
theorem dX14_sum_38 : decode cX14_sum 38 = .ok (.iaload, 1) := by decide +kernel
theorem dX14_sum_39 : decode cX14_sum 39 = .ok (.istore_n 2, 1) := by decide +kernel
theorem dX14_sum_40 : decode cX14_sum 40 = .ok (.aload_n 0, 1) := by decide +kernel
theorem dX14_sum_41 : decode cX14_sum 41 = .ok (.dup, 1) := by decide +kernel
theorem dX14_sum_42 : decode cX14_sum 42 = .ok (.getfield 267, 3) := by decide +kernel
theorem dX14_sum_45 : decode cX14_sum 45 = .ok (.iconst 1, 1) := by decide +kernel
theorem dX14_sum_46 : decode cX14_sum 46 = .ok (.iadd, 1) := by decide +kernel
theorem dX14_sum_47 : decode cX14_sum 47 = .ok (.putfield 267, 3) := by decide +kernel
theorem dX14_sum_50 : decode cX14_sum 50 = .ok (.aload_n 0, 1) := by decide +kernel
theorem dX14_sum_51 : decode cX14_sum 51 = .ok (.invokevirtual 286, 3) := by decide +kernel
theorem dX14_sum_54 : decode cX14_sum 54 = .ok (.istore_n 3, 1) := by decide +kernel
theorem dX14_sum_55 : decode cX14_sum 55 = .ok (.iload_n 2, 1) := by decide +kernel
theorem dX14_sum_56 : decode cX14_sum 56 = .ok (.bipush 46, 2) := by decide +kernel
theorem dX14_sum_58 : decode cX14_sum 58 = .ok (.if_icmp .ne 9, 3) := by decide +kernel
theorem dX14_sum_61 : decode cX14_sum 61 = .ok (.iload_n 1, 1) := by decide +kernel
theorem dX14_sum_62 : decode cX14_sum 62 = .ok (.iload_n 3, 1) := by decide +kernel
theorem dX14_sum_63 : decode cX14_sum 63 = .ok (.iadd, 1) := by decide +kernel
theorem dX14_sum_64 : decode cX14_sum 64 = .ok (.goto 6, 3) := by decide +kernel
theorem dX14_sum_67 : decode cX14_sum 67 = .ok (.iload_n 1, 1) := by decide +kernel
theorem dX14_sum_68 : decode cX14_sum 68 = .ok (.iload_n 3, 1) := by decide +kernel
theorem dX14_sum_69 : decode cX14_sum 69 = .ok (.isub, 1) := by decide +kernel
theorem dX14_sum_70 : decode cX14_sum 70 = .ok (.istore_n 1, 1) := by decide +kernel
theorem dX14_sum_71 : decode cX14_sum 71 = .ok (.goto (-66), 3) := by decide +kernel
theorem dX14_sum_74 : decode cX14_sum 74 = .ok (.iload_n 1, 1) := by decide +kernel
theorem dX14_sum_75 : decode cX14_sum 75 = .ok (.ireturn, 1) := by decide +kernel
theorem dX14_product_0 : decode cX14_product 0 = .ok (.aload_n 0, 1) := by decide +kernel
theorem dX14_product_1 : decode cX14_product 1 = .ok (.invokevirtual 289, 3) := by decide +kernel
theorem dX14_product_4 : decode cX14_product 4 = .ok (.istore_n 1, 1) := by decide +kernel
theorem dX14_product_5 : decode cX14_product 5 = .ok (.aload_n 0, 1) := by decide +kernel
theorem dX14_product_6 : decode cX14_product 6 = .ok (.getfield 20, 3) := by decide +kernel
theorem dX14_product_9 : decode cX14_product 9 = .ok (.getfield 102, 3) := by decide +kernel
theorem dX14_product_12 : decode cX14_product 12 = .ok (.aload_n 0, 1) := by decide +kernel
theorem dX14_product_13 : decode cX14_product 13 = .ok (.getfield 267, 3) := by decide +kernel
theorem dX14_product_16 : decode cX14_product 16 = .ok (.iaload, 1) := by decide +kernel
theorem dX14_product_17 : decode cX14_product 17 = .ok (.bipush 48, 2) := by decide +kernel
theorem dX14_product_19 : decode cX14_product 19 = .ok (.bipush 49, 2) := by decide +kernel
theorem dX14_product_21 : decode cX14_product 21 = .ok (.invokestatic 46, 3) := by decide +kernel
theorem dX14_product_24 : decode cX14_product 24 = .ok (.ifCond .eq 58, 3) := by decide +kernel
theorem dX14_product_27 : decode cX14_product 27 = .ok (.aload_n 0, 1) := by decide +kernel
theorem dX14_product_28 : decode cX14_product 28 = .ok (.getfield 20, 3) := by decide +kernel
theorem dX14_product_31 : decode cX14_product 31 = .ok (.getfield 102, 3) := by decide +kernel
theorem dX14_product_34 : decode cX14_product 34 = .ok (.aload_n 0, 1) := by decide +kernel
theorem dX14_product_35 : decode cX14_product 35 = .ok (.getfield 267, 3) := by decide +kernel
theorem dX14_product_38 : decode cX14_product 38 = .ok (.iaload, 1) := by decide +kernel
theorem dX14_product_39 : decode cX14_product 39 = .ok (.istore_n 2, 1) := by decide +kernel
theorem dX14_product_40 : decode cX14_product 40 = .ok (.aload_n 0, 1) := by decide +kernel
theorem dX14_product_41 : decode cX14_product 41 = .ok (.dup, 1) := by decide +kernel
theorem dX14_product_42 : decode cX14_product 42 = .ok (.getfield 267, 3) := by decide +kernel
theorem dX14_product_45 : decode cX14_product 45 = .ok (.iconst 1, 1) := by decide +kernel
theorem dX14_product_46 : decode cX14_product 46 = .ok (.iadd, 1) := by decide +kernel
theorem dX14_product_47 : decode cX14_product 47 = .ok (.putfield 267, 3) := by decide +kernel
theorem dX14_product_50 : decode cX14_product 50 = .ok (.aload_n 0, 1) := by decide +kernel
theorem dX14_product_51 : decode cX14_product 51 = .ok (.invokevirtual 289, 3) := by decide +kernel
theorem dX14_product_54 : decode cX14_product 54 = .ok (.istore_n 3, 1) := by decide +kernel
theorem dX14_product_55 : decode cX14_product 55 = .ok (.iload_n 2, 1) := by decide +kernel
theorem dX14_product_56 : decode cX14_product 56 = .ok (.bipush 48, 2) := by decide +kernel
theorem dX14_product_58 : decode cX14_product 58 = .ok (.if_icmp .ne 9, 3) := by decide +kernel
theorem dX14_product_61 : decode cX14_product 61 = .ok (.iload_n 1, 1) := by decide +kernel
theorem dX14_product_62 : decode cX14_product 62 = .ok (.iload_n 3, 1) := by decide +kernel
theorem dX14_product_63 : decode cX14_product 63 = .ok (.imul, 1) := by decide +kernel
theorem dX14_product_64 : decode cX14_product 64 = .ok (.goto 14, 3) := by decide +kernel
theorem dX14_product_67 : decode cX14_product 67 = .ok (.iload_n 3, 1) := by decide +kernel
theorem dX14_product_68 : decode cX14_product 68 = .ok (.ifCond .ne 7, 3) := by decide +kernel
theorem dX14_product_71 : decode cX14_product 71 = .ok (.iconst 0, 1) := by decide +kernel
theorem dX14_product_72 : decode cX14_product 72 = .ok (.goto 6, 3) := by decide +kernel
theorem dX14_product_75 : decode cX14_product 75 = .ok (.iload_n 1, 1) := by decide +kernel
theorem dX14_product_76 : decode cX14_product 76 = .ok (.iload_n 3, 1) := by decide +kernel
theorem dX14_product_77 : decode cX14_product 77 = .ok (.idiv, 1) := by decide +kernel
theorem dX14_product_78 : decode cX14_product 78 = .ok (.istore_n 1, 1) := by decide +kernel
theorem dX14_product_79 : decode cX14_product 79 = .ok (.goto (-74), 3) := by decide +kernel
theorem dX14_product_82 : decode cX14_product 82 = .ok (.iload_n 1, 1) := by decide +kernel
theorem dX14_product_83 : decode cX14_product 83 = .ok (.ireturn, 1) := by decide +kernel
theorem dX14_ofOne_0 : decode cX14_ofOne 0 = .ok (.iload_n 1, 1) := by decide +kernel
theorem dX14_ofOne_1 : decode cX14_ofOne 1 = .ok (.lookupswitch 99 #[(6, 89), (21, 43), (22, 53), (23, 80)], 43) := by decide +kernel
theorem dX14_ofOne_44 : decode cX14_ofOne 44 = .ok (.aload_n 0, 1) := by decide +kernel
theorem dX14_ofOne_45 : decode cX14_ofOne 45 = .ok (.getfield 37, 3) := by decide +kernel
theorem dX14_ofOne_48 : decode cX14_ofOne 48 = .ok (.getfield 292, 3) := by decide +kernel
theorem dX14_ofOne_51 : decode cX14_ofOne 51 = .ok (.iload_n 2, 1) := by decide +kernel
theorem dX14_ofOne_52 : decode cX14_ofOne 52 = .ok (.iaload, 1) := by decide +kernel
theorem dX14_ofOne_53 : decode cX14_ofOne 53 = .ok (.ireturn, 1) := by decide +kernel
theorem dX14_ofOne_54 : decode cX14_ofOne 54 = .ok (.aload_n 0, 1) := by decide +kernel
theorem dX14_ofOne_55 : decode cX14_ofOne 55 = .ok (.getfield 37, 3) := by decide +kernel
theorem dX14_ofOne_58 : decode cX14_ofOne 58 = .ok (.getfield 295, 3) := by decide +kernel
theorem dX14_ofOne_61 : decode cX14_ofOne 61 = .ok (.iload_n 2, 1) := by decide +kernel
theorem dX14_ofOne_62 : decode cX14_ofOne 62 = .ok (.iaload, 1) := by decide +kernel
theorem dX14_ofOne_63 : decode cX14_ofOne 63 = .ok (.iconst (-1), 1) := by decide +kernel
theorem dX14_ofOne_64 : decode cX14_ofOne 64 = .ok (.if_icmp .ne 7, 3) := by decide +kernel
theorem dX14_ofOne_67 : decode cX14_ofOne 67 = .ok (.iconst 0, 1) := by decide +kernel
theorem dX14_ofOne_68 : decode cX14_ofOne 68 = .ok (.goto 12, 3) := by decide +kernel
theorem dX14_ofOne_71 : decode cX14_ofOne 71 = .ok (.aload_n 0, 1) := by decide +kernel
theorem dX14_ofOne_72 : decode cX14_ofOne 72 = .ok (.getfield 37, 3) := by decide +kernel
theorem dX14_ofOne_75 : decode cX14_ofOne 75 = .ok (.getfield 298, 3) := by decide +kernel
theorem dX14_ofOne_78 : decode cX14_ofOne 78 = .ok (.iload_n 2, 1) := by decide +kernel
theorem dX14_ofOne_79 : decode cX14_ofOne 79 = .ok (.iaload, 1) := by decide +kernel
theorem dX14_ofOne_80 : decode cX14_ofOne 80 = .ok (.ireturn, 1) := by decide +kernel
theorem dX14_ofOne_81 : decode cX14_ofOne 81 = .ok (.aload_n 0, 1) := by decide +kernel
theorem dX14_ofOne_82 : decode cX14_ofOne 82 = .ok (.getfield 37, 3) := by decide +kernel
theorem dX14_ofOne_85 : decode cX14_ofOne 85 = .ok (.iload_n 2, 1) := by decide +kernel
theorem dX14_ofOne_86 : decode cX14_ofOne 86 = .ok (.invokevirtual 301, 3) := by decide +kernel
theorem dX14_ofOne_89 : decode cX14_ofOne 89 = .ok (.ireturn, 1) := by decide +kernel
theorem dX14_ofOne_90 : decode cX14_ofOne 90 = .ok (.aload_n 0, 1) := by decide +kernel
theorem dX14_ofOne_91 : decode cX14_ofOne 91 = .ok (.getfield 37, 3) := by decide +kernel
theorem dX14_ofOne_94 : decode cX14_ofOne 94 = .ok (.getfield 304, 3) := by decide +kernel
theorem dX14_ofOne_97 : decode cX14_ofOne 97 = .ok (.iload_n 2, 1) := by decide +kernel
theorem dX14_ofOne_98 : decode cX14_ofOne 98 = .ok (.iaload, 1) := by decide +kernel
theorem dX14_ofOne_99 : decode cX14_ofOne 99 = .ok (.ireturn, 1) := by decide +kernel
theorem dX14_ofOne_100 : decode cX14_ofOne 100 = .ok (.aload_n 0, 1) := by decide +kernel
theorem dX14_ofOne_101 : decode cX14_ofOne 101 = .ok (.getfield 37, 3) := by decide +kernel
theorem dX14_ofOne_104 : decode cX14_ofOne 104 = .ok (.iload_n 2, 1) := by decide +kernel
theorem dX14_ofOne_105 : decode cX14_ofOne 105 = .ok (.invokevirtual 305, 3) := by decide +kernel
theorem dX14_ofOne_108 : decode cX14_ofOne 108 = .ok (.ireturn, 1) := by decide +kernel
theorem dX14_value_0 : decode cX14_value 0 = .ok (.aload_n 0, 1) := by decide +kernel
theorem dX14_value_1 : decode cX14_value 1 = .ok (.getfield 20, 3) := by decide +kernel
theorem dX14_value_4 : decode cX14_value 4 = .ok (.getfield 102, 3) := by decide +kernel
theorem dX14_value_7 : decode cX14_value 7 = .ok (.aload_n 0, 1) := by decide +kernel
theorem dX14_value_8 : decode cX14_value 8 = .ok (.getfield 267, 3) := by decide +kernel
theorem dX14_value_11 : decode cX14_value 11 = .ok (.iaload, 1) := by decide +kernel
theorem dX14_value_12 : decode cX14_value 12 = .ok (.istore_n 1, 1) := by decide +kernel
theorem dX14_value_13 : decode cX14_value 13 = .ok (.aload_n 0, 1) := by decide +kernel
theorem dX14_value_14 : decode cX14_value 14 = .ok (.dup, 1) := by decide +kernel
theorem dX14_value_15 : decode cX14_value 15 = .ok (.getfield 267, 3) := by decide +kernel
theorem dX14_value_18 : decode cX14_value 18 = .ok (.iconst 1, 1) := by decide +kernel
theorem dX14_value_19 : decode cX14_value 19 = .ok (.iadd, 1) := by decide +kernel
theorem dX14_value_20 : decode cX14_value 20 = .ok (.putfield 267, 3) := by decide +kernel
theorem dX14_value_23 : decode cX14_value 23 = .ok (.iload_n 1, 1) := by decide +kernel
theorem dX14_value_24 : decode cX14_value 24 = .ok (.tableswitch 314 6 47 #[221, 314, 314, 314, 314, 314, 314, 314, 314, 314, 314, 314, 314, 199, 207, 221, 221, 221, 221, 251, 314, 314, 314, 314, 314, 314, 314, 314, 314, 314, 184, 314, 314, 314, 297, 314, 314, 314, 314, 314, 314, 215], 184) := by decide +kernel
theorem dX14_value_208 : decode cX14_value 208 = .ok (.aload_n 0, 1) := by decide +kernel
theorem dX14_value_209 : decode cX14_value 209 = .ok (.getfield 20, 3) := by decide +kernel
theorem dX14_value_212 : decode cX14_value 212 = .ok (.getfield 196, 3) := by decide +kernel
theorem dX14_value_215 : decode cX14_value 215 = .ok (.aload_n 0, 1) := by decide +kernel
theorem dX14_value_216 : decode cX14_value 216 = .ok (.getfield 267, 3) := by decide +kernel
theorem dX14_value_219 : decode cX14_value 219 = .ok (.iconst 1, 1) := by decide +kernel
theorem dX14_value_220 : decode cX14_value 220 = .ok (.isub, 1) := by decide +kernel
theorem dX14_value_221 : decode cX14_value 221 = .ok (.iaload, 1) := by decide +kernel
theorem dX14_value_222 : decode cX14_value 222 = .ok (.ireturn, 1) := by decide +kernel
theorem dX14_value_223 : decode cX14_value 223 = .ok (.aload_n 0, 1) := by decide +kernel
theorem dX14_value_224 : decode cX14_value 224 = .ok (.getfield 37, 3) := by decide +kernel
theorem dX14_value_227 : decode cX14_value 227 = .ok (.getfield 308, 3) := by decide +kernel
theorem dX14_value_230 : decode cX14_value 230 = .ok (.ireturn, 1) := by decide +kernel
theorem dX14_value_231 : decode cX14_value 231 = .ok (.aload_n 0, 1) := by decide +kernel
theorem dX14_value_232 : decode cX14_value 232 = .ok (.getfield 37, 3) := by decide +kernel
theorem dX14_value_235 : decode cX14_value 235 = .ok (.getfield 311, 3) := by decide +kernel
theorem dX14_value_238 : decode cX14_value 238 = .ok (.ireturn, 1) := by decide +kernel
theorem dX14_value_239 : decode cX14_value 239 = .ok (.aload_n 0, 1) := by decide +kernel
theorem dX14_value_240 : decode cX14_value 240 = .ok (.invokevirtual 289, 3) := by decide +kernel
theorem dX14_value_243 : decode cX14_value 243 = .ok (.ineg, 1) := by decide +kernel
theorem dX14_value_244 : decode cX14_value 244 = .ok (.ireturn, 1) := by decide +kernel
theorem dX14_value_245 : decode cX14_value 245 = .ok (.aload_n 0, 1) := by decide +kernel
theorem dX14_value_246 : decode cX14_value 246 = .ok (.dup, 1) := by decide +kernel
theorem dX14_value_247 : decode cX14_value 247 = .ok (.getfield 267, 3) := by decide +kernel
theorem dX14_value_250 : decode cX14_value 250 = .ok (.iconst 1, 1) := by decide +kernel
theorem dX14_value_251 : decode cX14_value 251 = .ok (.iadd, 1) := by decide +kernel
theorem dX14_value_252 : decode cX14_value 252 = .ok (.putfield 267, 3) := by decide +kernel
theorem dX14_value_255 : decode cX14_value 255 = .ok (.aload_n 0, 1) := by decide +kernel
theorem dX14_value_256 : decode cX14_value 256 = .ok (.iload_n 1, 1) := by decide +kernel
theorem dX14_value_257 : decode cX14_value 257 = .ok (.aload_n 0, 1) := by decide +kernel
theorem dX14_value_258 : decode cX14_value 258 = .ok (.getfield 20, 3) := by decide +kernel
theorem dX14_value_261 : decode cX14_value 261 = .ok (.getfield 196, 3) := by decide +kernel
theorem dX14_value_264 : decode cX14_value 264 = .ok (.aload_n 0, 1) := by decide +kernel
theorem dX14_value_265 : decode cX14_value 265 = .ok (.getfield 267, 3) := by decide +kernel
theorem dX14_value_268 : decode cX14_value 268 = .ok (.iconst 1, 1) := by decide +kernel
theorem dX14_value_269 : decode cX14_value 269 = .ok (.isub, 1) := by decide +kernel
theorem dX14_value_270 : decode cX14_value 270 = .ok (.iaload, 1) := by decide +kernel
theorem dX14_value_271 : decode cX14_value 271 = .ok (.invokevirtual 314, 3) := by decide +kernel
theorem dX14_value_274 : decode cX14_value 274 = .ok (.ireturn, 1) := by decide +kernel
theorem dX14_value_275 : decode cX14_value 275 = .ok (.aload_n 0, 1) := by decide +kernel
theorem dX14_value_276 : decode cX14_value 276 = .ok (.dup, 1) := by decide +kernel
theorem dX14_value_277 : decode cX14_value 277 = .ok (.getfield 267, 3) := by decide +kernel
theorem dX14_value_280 : decode cX14_value 280 = .ok (.iconst 2, 1) := by decide +kernel
theorem dX14_value_281 : decode cX14_value 281 = .ok (.iadd, 1) := by decide +kernel
theorem dX14_value_282 : decode cX14_value 282 = .ok (.putfield 267, 3) := by decide +kernel
theorem dX14_value_285 : decode cX14_value 285 = .ok (.aload_n 0, 1) := by decide +kernel
theorem dX14_value_286 : decode cX14_value 286 = .ok (.getfield 37, 3) := by decide +kernel
theorem dX14_value_289 : decode cX14_value 289 = .ok (.aload_n 0, 1) := by decide +kernel
theorem dX14_value_290 : decode cX14_value 290 = .ok (.getfield 20, 3) := by decide +kernel
theorem dX14_value_293 : decode cX14_value 293 = .ok (.getfield 196, 3) := by decide +kernel
theorem dX14_value_296 : decode cX14_value 296 = .ok (.aload_n 0, 1) := by decide +kernel
theorem dX14_value_297 : decode cX14_value 297 = .ok (.getfield 267, 3) := by decide +kernel
theorem dX14_value_300 : decode cX14_value 300 = .ok (.iconst 2, 1) := by decide +kernel
theorem dX14_value_301 : decode cX14_value 301 = .ok (.isub, 1) := by decide +kernel
theorem dX14_value_302 : decode cX14_value 302 = .ok (.iaload, 1) := by decide +kernel
theorem dX14_value_303 : decode cX14_value 303 = .ok (.aload_n 0, 1) := by decide +kernel
theorem dX14_value_304 : decode cX14_value 304 = .ok (.getfield 20, 3) := by decide +kernel
theorem dX14_value_307 : decode cX14_value 307 = .ok (.getfield 196, 3) := by decide +kernel
theorem dX14_value_310 : decode cX14_value 310 = .ok (.aload_n 0, 1) := by decide +kernel
theorem dX14_value_311 : decode cX14_value 311 = .ok (.getfield 267, 3) := by decide +kernel
theorem dX14_value_314 : decode cX14_value 314 = .ok (.iconst 1, 1) := by decide +kernel
theorem dX14_value_315 : decode cX14_value 315 = .ok (.isub, 1) := by decide +kernel
theorem dX14_value_316 : decode cX14_value 316 = .ok (.iaload, 1) := by decide +kernel
theorem dX14_value_317 : decode cX14_value 317 = .ok (.invokevirtual 317, 3) := by decide +kernel
theorem dX14_value_320 : decode cX14_value 320 = .ok (.ireturn, 1) := by decide +kernel
theorem dX14_value_321 : decode cX14_value 321 = .ok (.aload_n 0, 1) := by decide +kernel
theorem dX14_value_322 : decode cX14_value 322 = .ok (.invokevirtual 284, 3) := by decide +kernel
theorem dX14_value_325 : decode cX14_value 325 = .ok (.istore_n 2, 1) := by decide +kernel
theorem dX14_value_326 : decode cX14_value 326 = .ok (.aload_n 0, 1) := by decide +kernel
theorem dX14_value_327 : decode cX14_value 327 = .ok (.dup, 1) := by decide +kernel
theorem dX14_value_328 : decode cX14_value 328 = .ok (.getfield 267, 3) := by decide +kernel
theorem dX14_value_331 : decode cX14_value 331 = .ok (.iconst 1, 1) := by decide +kernel
theorem dX14_value_332 : decode cX14_value 332 = .ok (.iadd, 1) := by decide +kernel
theorem dX14_value_333 : decode cX14_value 333 = .ok (.putfield 267, 3) := by decide +kernel
theorem dX14_value_336 : decode cX14_value 336 = .ok (.iload_n 2, 1) := by decide +kernel
theorem dX14_value_337 : decode cX14_value 337 = .ok (.ireturn, 1) := by decide +kernel
theorem dX14_value_338 : decode cX14_value 338 = .ok (.aload_n 0, 1) := by decide +kernel
theorem dX14_value_339 : decode cX14_value 339 = .ok (.dup, 1) := by decide +kernel
theorem dX14_value_340 : decode cX14_value 340 = .ok (.getfield 267, 3) := by decide +kernel
theorem dX14_value_343 : decode cX14_value 343 = .ok (.iconst 1, 1) := by decide +kernel
theorem dX14_value_344 : decode cX14_value 344 = .ok (.iadd, 1) := by decide +kernel
theorem dX14_value_345 : decode cX14_value 345 = .ok (.putfield 267, 3) := by decide +kernel
theorem dX14_value_348 : decode cX14_value 348 = .ok (.aload_n 0, 1) := by decide +kernel
theorem dX14_value_349 : decode cX14_value 349 = .ok (.invokevirtual 284, 3) := by decide +kernel
theorem dX14_value_352 : decode cX14_value 352 = .ok (.istore_n 2, 1) := by decide +kernel
theorem dX14_value_353 : decode cX14_value 353 = .ok (.aload_n 0, 1) := by decide +kernel
theorem dX14_value_354 : decode cX14_value 354 = .ok (.dup, 1) := by decide +kernel
theorem dX14_value_355 : decode cX14_value 355 = .ok (.getfield 267, 3) := by decide +kernel
theorem dX14_value_358 : decode cX14_value 358 = .ok (.iconst 1, 1) := by decide +kernel
theorem dX14_value_359 : decode cX14_value 359 = .ok (.iadd, 1) := by decide +kernel
theorem dX14_value_360 : decode cX14_value 360 = .ok (.putfield 267, 3) := by decide +kernel
theorem dX14_value_363 : decode cX14_value 363 = .ok (.aload_n 0, 1) := by decide +kernel
theorem dX14_value_364 : decode cX14_value 364 = .ok (.invokevirtual 284, 3) := by decide +kernel
theorem dX14_value_367 : decode cX14_value 367 = .ok (.istore_n 3, 1) := by decide +kernel
theorem dX14_value_368 : decode cX14_value 368 = .ok (.aload_n 0, 1) := by decide +kernel
theorem dX14_value_369 : decode cX14_value 369 = .ok (.dup, 1) := by decide +kernel
theorem dX14_value_370 : decode cX14_value 370 = .ok (.getfield 267, 3) := by decide +kernel
theorem dX14_value_373 : decode cX14_value 373 = .ok (.iconst 1, 1) := by decide +kernel
theorem dX14_value_374 : decode cX14_value 374 = .ok (.iadd, 1) := by decide +kernel
theorem dX14_value_375 : decode cX14_value 375 = .ok (.putfield 267, 3) := by decide +kernel
theorem dX14_value_378 : decode cX14_value 378 = .ok (.iload_n 1, 1) := by decide +kernel
theorem dX14_value_379 : decode cX14_value 379 = .ok (.bipush 30, 2) := by decide +kernel
theorem dX14_value_381 : decode cX14_value 381 = .ok (.if_icmp .ne 11, 3) := by decide +kernel
theorem dX14_value_384 : decode cX14_value 384 = .ok (.iload_n 2, 1) := by decide +kernel
theorem dX14_value_385 : decode cX14_value 385 = .ok (.iload_n 3, 1) := by decide +kernel
theorem dX14_value_386 : decode cX14_value 386 = .ok (.invokestatic 320, 3) := by decide +kernel
theorem dX14_value_389 : decode cX14_value 389 = .ok (.goto 8, 3) := by decide +kernel
theorem dX14_value_392 : decode cX14_value 392 = .ok (.iload_n 2, 1) := by decide +kernel
theorem dX14_value_393 : decode cX14_value 393 = .ok (.iload_n 3, 1) := by decide +kernel
theorem dX14_value_394 : decode cX14_value 394 = .ok (.invokestatic 325, 3) := by decide +kernel
theorem dX14_value_397 : decode cX14_value 397 = .ok (.ireturn, 1) := by decide +kernel
theorem dX14_holds_0 : decode cX14_holds 0 = .ok (.aload_n 0, 1) := by decide +kernel
theorem dX14_holds_1 : decode cX14_holds 1 = .ok (.aload_n 1, 1) := by decide +kernel
theorem dX14_holds_2 : decode cX14_holds 2 = .ok (.putfield 37, 3) := by decide +kernel
theorem dX14_holds_5 : decode cX14_holds 5 = .ok (.aload_n 0, 1) := by decide +kernel
theorem dX14_holds_6 : decode cX14_holds 6 = .ok (.aload_n 0, 1) := by decide +kernel
theorem dX14_holds_7 : decode cX14_holds 7 = .ok (.getfield 20, 3) := by decide +kernel
theorem dX14_holds_10 : decode cX14_holds 10 = .ok (.getfield 245, 3) := by decide +kernel
theorem dX14_holds_13 : decode cX14_holds 13 = .ok (.iload_n 2, 1) := by decide +kernel
theorem dX14_holds_14 : decode cX14_holds 14 = .ok (.iaload, 1) := by decide +kernel
theorem dX14_holds_15 : decode cX14_holds 15 = .ok (.putfield 267, 3) := by decide +kernel
theorem dX14_holds_18 : decode cX14_holds 18 = .ok (.aload_n 0, 1) := by decide +kernel
theorem dX14_holds_19 : decode cX14_holds 19 = .ok (.getfield 267, 3) := by decide +kernel
theorem dX14_holds_22 : decode cX14_holds 22 = .ok (.iconst (-1), 1) := by decide +kernel
theorem dX14_holds_23 : decode cX14_holds 23 = .ok (.if_icmp .eq 10, 3) := by decide +kernel
theorem dX14_holds_26 : decode cX14_holds 26 = .ok (.aload_n 0, 1) := by decide +kernel
theorem dX14_holds_27 : decode cX14_holds 27 = .ok (.invokevirtual 280, 3) := by decide +kernel
theorem dX14_holds_30 : decode cX14_holds 30 = .ok (.ifCond .eq 7, 3) := by decide +kernel
theorem dX14_holds_33 : decode cX14_holds 33 = .ok (.iconst 1, 1) := by decide +kernel
theorem dX14_holds_34 : decode cX14_holds 34 = .ok (.goto 4, 3) := by decide +kernel
theorem dX14_holds_37 : decode cX14_holds 37 = .ok (.iconst 0, 1) := by decide +kernel
theorem dX14_holds_38 : decode cX14_holds 38 = .ok (.ireturn, 1) := by decide +kernel
theorem dX14_sumOf_0 : decode cX14_sumOf 0 = .ok (.aload_n 0, 1) := by decide +kernel
theorem dX14_sumOf_1 : decode cX14_sumOf 1 = .ok (.aload_n 1, 1) := by decide +kernel
theorem dX14_sumOf_2 : decode cX14_sumOf 2 = .ok (.putfield 37, 3) := by decide +kernel
theorem dX14_sumOf_5 : decode cX14_sumOf 5 = .ok (.aload_n 0, 1) := by decide +kernel
theorem dX14_sumOf_6 : decode cX14_sumOf 6 = .ok (.aload_n 0, 1) := by decide +kernel
theorem dX14_sumOf_7 : decode cX14_sumOf 7 = .ok (.getfield 20, 3) := by decide +kernel
theorem dX14_sumOf_10 : decode cX14_sumOf 10 = .ok (.getfield 242, 3) := by decide +kernel
theorem dX14_sumOf_13 : decode cX14_sumOf 13 = .ok (.iload_n 2, 1) := by decide +kernel
theorem dX14_sumOf_14 : decode cX14_sumOf 14 = .ok (.iaload, 1) := by decide +kernel
theorem dX14_sumOf_15 : decode cX14_sumOf 15 = .ok (.putfield 267, 3) := by decide +kernel
theorem dX14_sumOf_18 : decode cX14_sumOf 18 = .ok (.aload_n 0, 1) := by decide +kernel
theorem dX14_sumOf_19 : decode cX14_sumOf 19 = .ok (.invokevirtual 284, 3) := by decide +kernel
theorem dX14_sumOf_22 : decode cX14_sumOf 22 = .ok (.ireturn, 1) := by decide +kernel
theorem dX14_priceOf_0 : decode cX14_priceOf 0 = .ok (.iconst 0, 1) := by decide +kernel
theorem dX14_priceOf_1 : decode cX14_priceOf 1 = .ok (.sipush 999, 3) := by decide +kernel
theorem dX14_priceOf_4 : decode cX14_priceOf 4 = .ok (.aload_n 0, 1) := by decide +kernel
theorem dX14_priceOf_5 : decode cX14_priceOf 5 = .ok (.aload_n 1, 1) := by decide +kernel
theorem dX14_priceOf_6 : decode cX14_priceOf 6 = .ok (.iload_n 2, 1) := by decide +kernel
theorem dX14_priceOf_7 : decode cX14_priceOf 7 = .ok (.invokevirtual 328, 3) := by decide +kernel
theorem dX14_priceOf_10 : decode cX14_priceOf 10 = .ok (.invokestatic 320, 3) := by decide +kernel
theorem dX14_priceOf_13 : decode cX14_priceOf 13 = .ok (.invokestatic 325, 3) := by decide +kernel
theorem dX14_priceOf_16 : decode cX14_priceOf 16 = .ok (.aload_n 1, 1) := by decide +kernel
theorem dX14_priceOf_17 : decode cX14_priceOf 17 = .ok (.getfield 298, 3) := by decide +kernel
theorem dX14_priceOf_20 : decode cX14_priceOf 20 = .ok (.aload_n 0, 1) := by decide +kernel
theorem dX14_priceOf_21 : decode cX14_priceOf 21 = .ok (.getfield 20, 3) := by decide +kernel
theorem dX14_priceOf_24 : decode cX14_priceOf 24 = .ok (.getfield 205, 3) := by decide +kernel
theorem dX14_priceOf_27 : decode cX14_priceOf 27 = .ok (.iload_n 2, 1) := by decide +kernel
theorem dX14_priceOf_28 : decode cX14_priceOf 28 = .ok (.iaload, 1) := by decide +kernel
theorem dX14_priceOf_29 : decode cX14_priceOf 29 = .ok (.iaload, 1) := by decide +kernel
theorem dX14_priceOf_30 : decode cX14_priceOf 30 = .ok (.imul, 1) := by decide +kernel
theorem dX14_priceOf_31 : decode cX14_priceOf 31 = .ok (.bipush 100, 2) := by decide +kernel
theorem dX14_priceOf_33 : decode cX14_priceOf 33 = .ok (.idiv, 1) := by decide +kernel
theorem dX14_priceOf_34 : decode cX14_priceOf 34 = .ok (.ireturn, 1) := by decide +kernel
theorem dX14_payOf_0 : decode cX14_payOf 0 = .ok (.aload_n 0, 1) := by decide +kernel
theorem dX14_payOf_1 : decode cX14_payOf 1 = .ok (.getfield 20, 3) := by decide +kernel
theorem dX14_payOf_4 : decode cX14_payOf 4 = .ok (.getfield 205, 3) := by decide +kernel
theorem dX14_payOf_7 : decode cX14_payOf 7 = .ok (.iload_n 2, 1) := by decide +kernel
theorem dX14_payOf_8 : decode cX14_payOf 8 = .ok (.iaload, 1) := by decide +kernel
theorem dX14_payOf_9 : decode cX14_payOf 9 = .ok (.istore_n 3, 1) := by decide +kernel
theorem dX14_payOf_10 : decode cX14_payOf 10 = .ok (.aload_n 0, 1) := by decide +kernel
theorem dX14_payOf_11 : decode cX14_payOf 11 = .ok (.getfield 20, 3) := by decide +kernel
theorem dX14_payOf_14 : decode cX14_payOf 14 = .ok (.getfield 211, 3) := by decide +kernel
theorem dX14_payOf_17 : decode cX14_payOf 17 = .ok (.iload_n 2, 1) := by decide +kernel
theorem dX14_payOf_18 : decode cX14_payOf 18 = .ok (.iaload, 1) := by decide +kernel
theorem dX14_payOf_19 : decode cX14_payOf 19 = .ok (.istore 4, 2) := by decide +kernel
theorem dX14_payOf_21 : decode cX14_payOf 21 = .ok (.iload_n 3, 1) := by decide +kernel
theorem dX14_payOf_22 : decode cX14_payOf 22 = .ok (.iload 4, 2) := by decide +kernel
theorem dX14_payOf_24 : decode cX14_payOf 24 = .ok (.if_icmp .ne 7, 3) := by decide +kernel
theorem dX14_payOf_27 : decode cX14_payOf 27 = .ok (.iconst 0, 1) := by decide +kernel
theorem dX14_payOf_28 : decode cX14_payOf 28 = .ok (.goto 28, 3) := by decide +kernel
theorem dX14_payOf_31 : decode cX14_payOf 31 = .ok (.aload_n 0, 1) := by decide +kernel
theorem dX14_payOf_32 : decode cX14_payOf 32 = .ok (.aload_n 1, 1) := by decide +kernel
theorem dX14_payOf_33 : decode cX14_payOf 33 = .ok (.iload_n 2, 1) := by decide +kernel
theorem dX14_payOf_34 : decode cX14_payOf 34 = .ok (.invokevirtual 328, 3) := by decide +kernel
theorem dX14_payOf_37 : decode cX14_payOf 37 = .ok (.aload_n 1, 1) := by decide +kernel
theorem dX14_payOf_38 : decode cX14_payOf 38 = .ok (.iload_n 3, 1) := by decide +kernel
theorem dX14_payOf_39 : decode cX14_payOf 39 = .ok (.iload 4, 2) := by decide +kernel
theorem dX14_payOf_41 : decode cX14_payOf 41 = .ok (.invokevirtual 317, 3) := by decide +kernel
theorem dX14_payOf_44 : decode cX14_payOf 44 = .ok (.invokestatic 320, 3) := by decide +kernel
theorem dX14_payOf_47 : decode cX14_payOf 47 = .ok (.aload_n 1, 1) := by decide +kernel
theorem dX14_payOf_48 : decode cX14_payOf 48 = .ok (.getfield 304, 3) := by decide +kernel
theorem dX14_payOf_51 : decode cX14_payOf 51 = .ok (.iload_n 3, 1) := by decide +kernel
theorem dX14_payOf_52 : decode cX14_payOf 52 = .ok (.iaload, 1) := by decide +kernel
theorem dX14_payOf_53 : decode cX14_payOf 53 = .ok (.invokestatic 320, 3) := by decide +kernel
theorem dX14_payOf_56 : decode cX14_payOf 56 = .ok (.ireturn, 1) := by decide +kernel
theorem dX14_canSell_0 : decode cX14_canSell 0 = .ok (.aload_n 0, 1) := by decide +kernel
theorem dX14_canSell_1 : decode cX14_canSell 1 = .ok (.getfield 20, 3) := by decide +kernel
theorem dX14_canSell_4 : decode cX14_canSell 4 = .ok (.getfield 205, 3) := by decide +kernel
theorem dX14_canSell_7 : decode cX14_canSell 7 = .ok (.iload_n 2, 1) := by decide +kernel
theorem dX14_canSell_8 : decode cX14_canSell 8 = .ok (.iaload, 1) := by decide +kernel
theorem dX14_canSell_9 : decode cX14_canSell 9 = .ok (.istore_n 3, 1) := by decide +kernel
theorem dX14_canSell_10 : decode cX14_canSell 10 = .ok (.aload_n 0, 1) := by decide +kernel
theorem dX14_canSell_11 : decode cX14_canSell 11 = .ok (.getfield 20, 3) := by decide +kernel
theorem dX14_canSell_14 : decode cX14_canSell 14 = .ok (.getfield 211, 3) := by decide +kernel
theorem dX14_canSell_17 : decode cX14_canSell 17 = .ok (.iload_n 2, 1) := by decide +kernel
theorem dX14_canSell_18 : decode cX14_canSell 18 = .ok (.iaload, 1) := by decide +kernel
theorem dX14_canSell_19 : decode cX14_canSell 19 = .ok (.istore 4, 2) := by decide +kernel
theorem dX14_canSell_21 : decode cX14_canSell 21 = .ok (.aload_n 1, 1) := by decide +kernel
theorem dX14_canSell_22 : decode cX14_canSell 22 = .ok (.iload_n 3, 1) := by decide +kernel
theorem dX14_canSell_23 : decode cX14_canSell 23 = .ok (.invokevirtual 332, 3) := by decide +kernel
theorem dX14_canSell_26 : decode cX14_canSell 26 = .ok (.ifCond .eq 14, 3) := by decide +kernel
theorem dX14_canSell_29 : decode cX14_canSell 29 = .ok (.aload_n 1, 1) := by decide +kernel
theorem dX14_canSell_30 : decode cX14_canSell 30 = .ok (.getfield 283, 3) := by decide +kernel
theorem dX14_canSell_33 : decode cX14_canSell 33 = .ok (.iload_n 3, 1) := by decide +kernel
theorem dX14_canSell_34 : decode cX14_canSell 34 = .ok (.iaload, 1) := by decide +kernel
theorem dX14_canSell_35 : decode cX14_canSell 35 = .ok (.iload 4, 2) := by decide +kernel
theorem dX14_canSell_37 : decode cX14_canSell 37 = .ok (.if_icmp .ne 5, 3) := by decide +kernel
theorem dX14_canSell_40 : decode cX14_canSell 40 = .ok (.iconst 0, 1) := by decide +kernel
theorem dX14_canSell_41 : decode cX14_canSell 41 = .ok (.ireturn, 1) := by decide +kernel
theorem dX14_canSell_42 : decode cX14_canSell 42 = .ok (.iconst 0, 1) := by decide +kernel
theorem dX14_canSell_43 : decode cX14_canSell 43 = .ok (.aload_n 0, 1) := by decide +kernel
theorem dX14_canSell_44 : decode cX14_canSell 44 = .ok (.aload_n 1, 1) := by decide +kernel
theorem dX14_canSell_45 : decode cX14_canSell 45 = .ok (.iload_n 2, 1) := by decide +kernel
theorem dX14_canSell_46 : decode cX14_canSell 46 = .ok (.invokevirtual 335, 3) := by decide +kernel
theorem dX14_canSell_49 : decode cX14_canSell 49 = .ok (.aload_n 1, 1) := by decide +kernel
theorem dX14_canSell_50 : decode cX14_canSell 50 = .ok (.getfield 304, 3) := by decide +kernel
theorem dX14_canSell_53 : decode cX14_canSell 53 = .ok (.iload 4, 2) := by decide +kernel
theorem dX14_canSell_55 : decode cX14_canSell 55 = .ok (.iaload, 1) := by decide +kernel
theorem dX14_canSell_56 : decode cX14_canSell 56 = .ok (.isub, 1) := by decide +kernel
theorem dX14_canSell_57 : decode cX14_canSell 57 = .ok (.invokestatic 325, 3) := by decide +kernel
theorem dX14_canSell_60 : decode cX14_canSell 60 = .ok (.istore 5, 2) := by decide +kernel
theorem dX14_canSell_62 : decode cX14_canSell 62 = .ok (.aload_n 1, 1) := by decide +kernel
theorem dX14_canSell_63 : decode cX14_canSell 63 = .ok (.iload 4, 2) := by decide +kernel
theorem dX14_canSell_65 : decode cX14_canSell 65 = .ok (.invokevirtual 305, 3) := by decide +kernel
theorem dX14_canSell_68 : decode cX14_canSell 68 = .ok (.iload 5, 2) := by decide +kernel
theorem dX14_canSell_70 : decode cX14_canSell 70 = .ok (.iadd, 1) := by decide +kernel
theorem dX14_canSell_71 : decode cX14_canSell 71 = .ok (.aload_n 0, 1) := by decide +kernel
theorem dX14_canSell_72 : decode cX14_canSell 72 = .ok (.getfield 20, 3) := by decide +kernel
theorem dX14_canSell_75 : decode cX14_canSell 75 = .ok (.getfield 233, 3) := by decide +kernel
theorem dX14_canSell_78 : decode cX14_canSell 78 = .ok (.iload 4, 2) := by decide +kernel
theorem dX14_canSell_80 : decode cX14_canSell 80 = .ok (.iaload, 1) := by decide +kernel
theorem dX14_canSell_81 : decode cX14_canSell 81 = .ok (.if_icmp .gt 7, 3) := by decide +kernel
theorem dX14_canSell_84 : decode cX14_canSell 84 = .ok (.iconst 1, 1) := by decide +kernel
theorem dX14_canSell_85 : decode cX14_canSell 85 = .ok (.goto 4, 3) := by decide +kernel
theorem dX14_canSell_88 : decode cX14_canSell 88 = .ok (.iconst 0, 1) := by decide +kernel
theorem dX14_canSell_89 : decode cX14_canSell 89 = .ok (.ireturn, 1) := by decide +kernel
theorem dX14_can_0 : decode cX14_can 0 = .ok (.aload_n 0, 1) := by decide +kernel
theorem dX14_can_1 : decode cX14_can 1 = .ok (.aload_n 1, 1) := by decide +kernel
theorem dX14_can_2 : decode cX14_can 2 = .ok (.iload_n 2, 1) := by decide +kernel
theorem dX14_can_3 : decode cX14_can 3 = .ok (.invokevirtual 338, 3) := by decide +kernel
theorem dX14_can_6 : decode cX14_can 6 = .ok (.ifCond .ne 5, 3) := by decide +kernel
theorem dX14_can_9 : decode cX14_can 9 = .ok (.iconst 0, 1) := by decide +kernel
theorem dX14_can_10 : decode cX14_can 10 = .ok (.ireturn, 1) := by decide +kernel
theorem dX14_can_11 : decode cX14_can 11 = .ok (.aload_n 0, 1) := by decide +kernel
theorem dX14_can_12 : decode cX14_can 12 = .ok (.getfield 20, 3) := by decide +kernel
theorem dX14_can_15 : decode cX14_can 15 = .ok (.getfield 239, 3) := by decide +kernel
theorem dX14_can_18 : decode cX14_can 18 = .ok (.iload_n 2, 1) := by decide +kernel
theorem dX14_can_19 : decode cX14_can 19 = .ok (.iaload, 1) := by decide +kernel
theorem dX14_can_20 : decode cX14_can 20 = .ok (.lookupswitch 80 #[(0, 28), (1, 73)], 28) := by decide +kernel
theorem dX14_can_48 : decode cX14_can 48 = .ok (.aload_n 1, 1) := by decide +kernel
theorem dX14_can_49 : decode cX14_can 49 = .ok (.getfield 304, 3) := by decide +kernel
theorem dX14_can_52 : decode cX14_can 52 = .ok (.aload_n 1, 1) := by decide +kernel
theorem dX14_can_53 : decode cX14_can 53 = .ok (.getfield 283, 3) := by decide +kernel
theorem dX14_can_56 : decode cX14_can 56 = .ok (.aload_n 0, 1) := by decide +kernel
theorem dX14_can_57 : decode cX14_can 57 = .ok (.getfield 20, 3) := by decide +kernel
theorem dX14_can_60 : decode cX14_can 60 = .ok (.getfield 205, 3) := by decide +kernel
theorem dX14_can_63 : decode cX14_can 63 = .ok (.iload_n 2, 1) := by decide +kernel
theorem dX14_can_64 : decode cX14_can 64 = .ok (.iaload, 1) := by decide +kernel
theorem dX14_can_65 : decode cX14_can 65 = .ok (.iaload, 1) := by decide +kernel
theorem dX14_can_66 : decode cX14_can 66 = .ok (.iaload, 1) := by decide +kernel
theorem dX14_can_67 : decode cX14_can 67 = .ok (.aload_n 0, 1) := by decide +kernel
theorem dX14_can_68 : decode cX14_can 68 = .ok (.getfield 20, 3) := by decide +kernel
theorem dX14_can_71 : decode cX14_can 71 = .ok (.getfield 224, 3) := by decide +kernel
theorem dX14_can_74 : decode cX14_can 74 = .ok (.aload_n 0, 1) := by decide +kernel
theorem dX14_can_75 : decode cX14_can 75 = .ok (.getfield 20, 3) := by decide +kernel
theorem dX14_can_78 : decode cX14_can 78 = .ok (.getfield 211, 3) := by decide +kernel
theorem dX14_can_81 : decode cX14_can 81 = .ok (.iload_n 2, 1) := by decide +kernel
theorem dX14_can_82 : decode cX14_can 82 = .ok (.iaload, 1) := by decide +kernel
theorem dX14_can_83 : decode cX14_can 83 = .ok (.iaload, 1) := by decide +kernel
theorem dX14_can_84 : decode cX14_can 84 = .ok (.if_icmp .lt 7, 3) := by decide +kernel
theorem dX14_can_87 : decode cX14_can 87 = .ok (.iconst 1, 1) := by decide +kernel
theorem dX14_can_88 : decode cX14_can 88 = .ok (.goto 4, 3) := by decide +kernel
theorem dX14_can_91 : decode cX14_can 91 = .ok (.iconst 0, 1) := by decide +kernel
theorem dX14_can_92 : decode cX14_can 92 = .ok (.ireturn, 1) := by decide +kernel
theorem dX14_can_93 : decode cX14_can 93 = .ok (.aload_n 0, 1) := by decide +kernel
theorem dX14_can_94 : decode cX14_can 94 = .ok (.aload_n 1, 1) := by decide +kernel
theorem dX14_can_95 : decode cX14_can 95 = .ok (.iload_n 2, 1) := by decide +kernel
theorem dX14_can_96 : decode cX14_can 96 = .ok (.invokevirtual 342, 3) := by decide +kernel
theorem dX14_can_99 : decode cX14_can 99 = .ok (.ireturn, 1) := by decide +kernel
theorem dX14_can_100 : decode cX14_can 100 = .ok (.aload_n 0, 1) := by decide +kernel
theorem dX14_can_101 : decode cX14_can 101 = .ok (.aload_n 1, 1) := by decide +kernel
theorem dX14_can_102 : decode cX14_can 102 = .ok (.iload_n 2, 1) := by decide +kernel
theorem dX14_can_103 : decode cX14_can 103 = .ok (.invokevirtual 345, 3) := by decide +kernel
theorem dX14_can_106 : decode cX14_can 106 = .ok (.iconst 1, 1) := by decide +kernel
theorem dX14_can_107 : decode cX14_can 107 = .ok (.if_icmp .lt 7, 3) := by decide +kernel
theorem dX14_can_110 : decode cX14_can 110 = .ok (.iconst 1, 1) := by decide +kernel
theorem dX14_can_111 : decode cX14_can 111 = .ok (.goto 4, 3) := by decide +kernel
theorem dX14_can_114 : decode cX14_can 114 = .ok (.iconst 0, 1) := by decide +kernel
theorem dX14_can_115 : decode cX14_can 115 = .ok (.ireturn, 1) := by decide +kernel
theorem dX14_weigh_0 : decode cX14_weigh 0 = .ok (.aload_n 1, 1) := by decide +kernel
theorem dX14_weigh_1 : decode cX14_weigh 1 = .ok (.getfield 304, 3) := by decide +kernel
theorem dX14_weigh_4 : decode cX14_weigh 4 = .ok (.aload_n 1, 1) := by decide +kernel
theorem dX14_weigh_5 : decode cX14_weigh 5 = .ok (.getfield 283, 3) := by decide +kernel
theorem dX14_weigh_8 : decode cX14_weigh 8 = .ok (.iload_n 2, 1) := by decide +kernel
theorem dX14_weigh_9 : decode cX14_weigh 9 = .ok (.iaload, 1) := by decide +kernel
theorem dX14_weigh_10 : decode cX14_weigh 10 = .ok (.dup2, 1) := by decide +kernel
theorem dX14_weigh_11 : decode cX14_weigh 11 = .ok (.iaload, 1) := by decide +kernel
theorem dX14_weigh_12 : decode cX14_weigh 12 = .ok (.aload_n 0, 1) := by decide +kernel
theorem dX14_weigh_13 : decode cX14_weigh 13 = .ok (.getfield 20, 3) := by decide +kernel
theorem dX14_weigh_16 : decode cX14_weigh 16 = .ok (.getfield 224, 3) := by decide +kernel
theorem dX14_weigh_19 : decode cX14_weigh 19 = .ok (.iload_n 3, 1) := by decide +kernel
theorem dX14_weigh_20 : decode cX14_weigh 20 = .ok (.iaload, 1) := by decide +kernel
theorem dX14_weigh_21 : decode cX14_weigh 21 = .ok (.isub, 1) := by decide +kernel
theorem dX14_weigh_22 : decode cX14_weigh 22 = .ok (.iastore, 1) := by decide +kernel
theorem dX14_weigh_23 : decode cX14_weigh 23 = .ok (.aload_n 1, 1) := by decide +kernel
theorem dX14_weigh_24 : decode cX14_weigh 24 = .ok (.getfield 348, 3) := by decide +kernel
theorem dX14_weigh_27 : decode cX14_weigh 27 = .ok (.iload_n 3, 1) := by decide +kernel
theorem dX14_weigh_28 : decode cX14_weigh 28 = .ok (.dup2, 1) := by decide +kernel
theorem dX14_weigh_29 : decode cX14_weigh 29 = .ok (.iaload, 1) := by decide +kernel
theorem dX14_weigh_30 : decode cX14_weigh 30 = .ok (.aload_n 0, 1) := by decide +kernel
theorem dX14_weigh_31 : decode cX14_weigh 31 = .ok (.getfield 20, 3) := by decide +kernel
theorem dX14_weigh_34 : decode cX14_weigh 34 = .ok (.getfield 224, 3) := by decide +kernel
theorem dX14_weigh_37 : decode cX14_weigh 37 = .ok (.iload_n 3, 1) := by decide +kernel
theorem dX14_weigh_38 : decode cX14_weigh 38 = .ok (.iaload, 1) := by decide +kernel
theorem dX14_weigh_39 : decode cX14_weigh 39 = .ok (.iadd, 1) := by decide +kernel
theorem dX14_weigh_40 : decode cX14_weigh 40 = .ok (.iastore, 1) := by decide +kernel
theorem dX14_weigh_41 : decode cX14_weigh 41 = .ok (.aload_n 1, 1) := by decide +kernel
theorem dX14_weigh_42 : decode cX14_weigh 42 = .ok (.getfield 295, 3) := by decide +kernel
theorem dX14_weigh_45 : decode cX14_weigh 45 = .ok (.iload_n 2, 1) := by decide +kernel
theorem dX14_weigh_46 : decode cX14_weigh 46 = .ok (.iload_n 3, 1) := by decide +kernel
theorem dX14_weigh_47 : decode cX14_weigh 47 = .ok (.iastore, 1) := by decide +kernel
theorem dX14_weigh_48 : decode cX14_weigh 48 = .ok (.aload_n 1, 1) := by decide +kernel
theorem dX14_weigh_49 : decode cX14_weigh 49 = .ok (.getfield 298, 3) := by decide +kernel
theorem dX14_weigh_52 : decode cX14_weigh 52 = .ok (.iload_n 2, 1) := by decide +kernel
theorem dX14_weigh_53 : decode cX14_weigh 53 = .ok (.aload_n 1, 1) := by decide +kernel
theorem dX14_weigh_54 : decode cX14_weigh 54 = .ok (.getfield 292, 3) := by decide +kernel
theorem dX14_weigh_57 : decode cX14_weigh 57 = .ok (.iload_n 2, 1) := by decide +kernel
theorem dX14_weigh_58 : decode cX14_weigh 58 = .ok (.iaload, 1) := by decide +kernel
theorem dX14_weigh_59 : decode cX14_weigh 59 = .ok (.aload_n 1, 1) := by decide +kernel
theorem dX14_weigh_60 : decode cX14_weigh 60 = .ok (.getfield 292, 3) := by decide +kernel
theorem dX14_weigh_63 : decode cX14_weigh 63 = .ok (.iload_n 2, 1) := by decide +kernel
theorem dX14_weigh_64 : decode cX14_weigh 64 = .ok (.iaload, 1) := by decide +kernel
theorem dX14_weigh_65 : decode cX14_weigh 65 = .ok (.aload_n 0, 1) := by decide +kernel
theorem dX14_weigh_66 : decode cX14_weigh 66 = .ok (.getfield 20, 3) := by decide +kernel
theorem dX14_weigh_69 : decode cX14_weigh 69 = .ok (.getfield 227, 3) := by decide +kernel
theorem dX14_weigh_72 : decode cX14_weigh 72 = .ok (.iload_n 3, 1) := by decide +kernel
theorem dX14_weigh_73 : decode cX14_weigh 73 = .ok (.iaload, 1) := by decide +kernel
theorem dX14_weigh_74 : decode cX14_weigh 74 = .ok (.imul, 1) := by decide +kernel
theorem dX14_weigh_75 : decode cX14_weigh 75 = .ok (.bipush 100, 2) := by decide +kernel
theorem dX14_weigh_77 : decode cX14_weigh 77 = .ok (.idiv, 1) := by decide +kernel
theorem dX14_weigh_78 : decode cX14_weigh 78 = .ok (.isub, 1) := by decide +kernel
theorem dX14_weigh_79 : decode cX14_weigh 79 = .ok (.iastore, 1) := by decide +kernel
theorem dX14_weigh_80 : decode cX14_weigh 80 = .ok (.aload_n 1, 1) := by decide +kernel
theorem dX14_weigh_81 : decode cX14_weigh 81 = .ok (.getfield 351, 3) := by decide +kernel
theorem dX14_weigh_84 : decode cX14_weigh 84 = .ok (.iload_n 2, 1) := by decide +kernel
theorem dX14_weigh_85 : decode cX14_weigh 85 = .ok (.aload_n 1, 1) := by decide +kernel
theorem dX14_weigh_86 : decode cX14_weigh 86 = .ok (.getfield 308, 3) := by decide +kernel
theorem dX14_weigh_89 : decode cX14_weigh 89 = .ok (.iastore, 1) := by decide +kernel
theorem dX14_weigh_90 : decode cX14_weigh 90 = .ok (.aload_n 1, 1) := by decide +kernel
theorem dX14_weigh_91 : decode cX14_weigh 91 = .ok (.dup, 1) := by decide +kernel
theorem dX14_weigh_92 : decode cX14_weigh 92 = .ok (.getfield 354, 3) := by decide +kernel
theorem dX14_weigh_95 : decode cX14_weigh 95 = .ok (.iconst 1, 1) := by decide +kernel
theorem dX14_weigh_96 : decode cX14_weigh 96 = .ok (.iadd, 1) := by decide +kernel
theorem dX14_weigh_97 : decode cX14_weigh 97 = .ok (.putfield 354, 3) := by decide +kernel
theorem dX14_weigh_100 : decode cX14_weigh 100 = .ok (.return_, 1) := by decide +kernel
theorem dX14_sell_0 : decode cX14_sell 0 = .ok (.aload_n 1, 1) := by decide +kernel
theorem dX14_sell_1 : decode cX14_sell 1 = .ok (.getfield 283, 3) := by decide +kernel
theorem dX14_sell_4 : decode cX14_sell 4 = .ok (.iload_n 2, 1) := by decide +kernel
theorem dX14_sell_5 : decode cX14_sell 5 = .ok (.iaload, 1) := by decide +kernel
theorem dX14_sell_6 : decode cX14_sell 6 = .ok (.istore 5, 2) := by decide +kernel
theorem dX14_sell_8 : decode cX14_sell 8 = .ok (.iload 4, 2) := by decide +kernel
theorem dX14_sell_10 : decode cX14_sell 10 = .ok (.aload_n 1, 1) := by decide +kernel
theorem dX14_sell_11 : decode cX14_sell 11 = .ok (.getfield 304, 3) := by decide +kernel
theorem dX14_sell_14 : decode cX14_sell 14 = .ok (.iload_n 3, 1) := by decide +kernel
theorem dX14_sell_15 : decode cX14_sell 15 = .ok (.iaload, 1) := by decide +kernel
theorem dX14_sell_16 : decode cX14_sell 16 = .ok (.invokestatic 320, 3) := by decide +kernel
theorem dX14_sell_19 : decode cX14_sell 19 = .ok (.istore 6, 2) := by decide +kernel
theorem dX14_sell_21 : decode cX14_sell 21 = .ok (.aload_n 1, 1) := by decide +kernel
theorem dX14_sell_22 : decode cX14_sell 22 = .ok (.getfield 304, 3) := by decide +kernel
theorem dX14_sell_25 : decode cX14_sell 25 = .ok (.iload_n 3, 1) := by decide +kernel
theorem dX14_sell_26 : decode cX14_sell 26 = .ok (.dup2, 1) := by decide +kernel
theorem dX14_sell_27 : decode cX14_sell 27 = .ok (.iaload, 1) := by decide +kernel
theorem dX14_sell_28 : decode cX14_sell 28 = .ok (.iload 6, 2) := by decide +kernel
theorem dX14_sell_30 : decode cX14_sell 30 = .ok (.isub, 1) := by decide +kernel
theorem dX14_sell_31 : decode cX14_sell 31 = .ok (.iastore, 1) := by decide +kernel
theorem dX14_sell_32 : decode cX14_sell 32 = .ok (.aload_n 1, 1) := by decide +kernel
theorem dX14_sell_33 : decode cX14_sell 33 = .ok (.getfield 304, 3) := by decide +kernel
theorem dX14_sell_36 : decode cX14_sell 36 = .ok (.iload 5, 2) := by decide +kernel
theorem dX14_sell_38 : decode cX14_sell 38 = .ok (.dup2, 1) := by decide +kernel
theorem dX14_sell_39 : decode cX14_sell 39 = .ok (.iaload, 1) := by decide +kernel
theorem dX14_sell_40 : decode cX14_sell 40 = .ok (.iload 6, 2) := by decide +kernel
theorem dX14_sell_42 : decode cX14_sell 42 = .ok (.iadd, 1) := by decide +kernel
theorem dX14_sell_43 : decode cX14_sell 43 = .ok (.iastore, 1) := by decide +kernel
theorem dX14_sell_44 : decode cX14_sell 44 = .ok (.aload_n 1, 1) := by decide +kernel
theorem dX14_sell_45 : decode cX14_sell 45 = .ok (.getfield 357, 3) := by decide +kernel
theorem dX14_sell_48 : decode cX14_sell 48 = .ok (.bipush 6, 2) := by decide +kernel
theorem dX14_sell_50 : decode cX14_sell 50 = .ok (.iload_n 3, 1) := by decide +kernel
theorem dX14_sell_51 : decode cX14_sell 51 = .ok (.imul, 1) := by decide +kernel
theorem dX14_sell_52 : decode cX14_sell 52 = .ok (.iload 5, 2) := by decide +kernel
theorem dX14_sell_54 : decode cX14_sell 54 = .ok (.iadd, 1) := by decide +kernel
theorem dX14_sell_55 : decode cX14_sell 55 = .ok (.dup2, 1) := by decide +kernel
theorem dX14_sell_56 : decode cX14_sell 56 = .ok (.iaload, 1) := by decide +kernel
theorem dX14_sell_57 : decode cX14_sell 57 = .ok (.iload 4, 2) := by decide +kernel
theorem dX14_sell_59 : decode cX14_sell 59 = .ok (.iload 6, 2) := by decide +kernel
theorem dX14_sell_61 : decode cX14_sell 61 = .ok (.isub, 1) := by decide +kernel
theorem dX14_sell_62 : decode cX14_sell 62 = .ok (.iadd, 1) := by decide +kernel
theorem dX14_sell_63 : decode cX14_sell 63 = .ok (.iastore, 1) := by decide +kernel
theorem dX14_sell_64 : decode cX14_sell 64 = .ok (.aload_n 1, 1) := by decide +kernel
theorem dX14_sell_65 : decode cX14_sell 65 = .ok (.getfield 283, 3) := by decide +kernel
theorem dX14_sell_68 : decode cX14_sell 68 = .ok (.iload_n 2, 1) := by decide +kernel
theorem dX14_sell_69 : decode cX14_sell 69 = .ok (.iload_n 3, 1) := by decide +kernel
theorem dX14_sell_70 : decode cX14_sell 70 = .ok (.iastore, 1) := by decide +kernel
theorem dX14_sell_71 : decode cX14_sell 71 = .ok (.aload_n 1, 1) := by decide +kernel
theorem dX14_sell_72 : decode cX14_sell 72 = .ok (.dup, 1) := by decide +kernel
theorem dX14_sell_73 : decode cX14_sell 73 = .ok (.getfield 359, 3) := by decide +kernel
theorem dX14_sell_76 : decode cX14_sell 76 = .ok (.iconst 1, 1) := by decide +kernel
theorem dX14_sell_77 : decode cX14_sell 77 = .ok (.iadd, 1) := by decide +kernel
theorem dX14_sell_78 : decode cX14_sell 78 = .ok (.putfield 359, 3) := by decide +kernel
theorem dX14_sell_81 : decode cX14_sell 81 = .ok (.return_, 1) := by decide +kernel
theorem dX14_pay_0 : decode cX14_pay 0 = .ok (.aload_n 1, 1) := by decide +kernel
theorem dX14_pay_1 : decode cX14_pay 1 = .ok (.getfield 304, 3) := by decide +kernel
theorem dX14_pay_4 : decode cX14_pay 4 = .ok (.iload_n 2, 1) := by decide +kernel
theorem dX14_pay_5 : decode cX14_pay 5 = .ok (.dup2, 1) := by decide +kernel
theorem dX14_pay_6 : decode cX14_pay 6 = .ok (.iaload, 1) := by decide +kernel
theorem dX14_pay_7 : decode cX14_pay 7 = .ok (.iload 4, 2) := by decide +kernel
theorem dX14_pay_9 : decode cX14_pay 9 = .ok (.isub, 1) := by decide +kernel
theorem dX14_pay_10 : decode cX14_pay 10 = .ok (.iastore, 1) := by decide +kernel
theorem dX14_pay_11 : decode cX14_pay 11 = .ok (.aload_n 1, 1) := by decide +kernel
theorem dX14_pay_12 : decode cX14_pay 12 = .ok (.getfield 304, 3) := by decide +kernel
theorem dX14_pay_15 : decode cX14_pay 15 = .ok (.iload_n 3, 1) := by decide +kernel
theorem dX14_pay_16 : decode cX14_pay 16 = .ok (.dup2, 1) := by decide +kernel
theorem dX14_pay_17 : decode cX14_pay 17 = .ok (.iaload, 1) := by decide +kernel
theorem dX14_pay_18 : decode cX14_pay 18 = .ok (.iload 4, 2) := by decide +kernel
theorem dX14_pay_20 : decode cX14_pay 20 = .ok (.iadd, 1) := by decide +kernel
theorem dX14_pay_21 : decode cX14_pay 21 = .ok (.iastore, 1) := by decide +kernel
theorem dX14_pay_22 : decode cX14_pay 22 = .ok (.aload_n 1, 1) := by decide +kernel
theorem dX14_pay_23 : decode cX14_pay 23 = .ok (.getfield 357, 3) := by decide +kernel
theorem dX14_pay_26 : decode cX14_pay 26 = .ok (.bipush 6, 2) := by decide +kernel
theorem dX14_pay_28 : decode cX14_pay 28 = .ok (.iload_n 2, 1) := by decide +kernel
theorem dX14_pay_29 : decode cX14_pay 29 = .ok (.imul, 1) := by decide +kernel
theorem dX14_pay_30 : decode cX14_pay 30 = .ok (.iload_n 3, 1) := by decide +kernel
theorem dX14_pay_31 : decode cX14_pay 31 = .ok (.iadd, 1) := by decide +kernel
theorem dX14_pay_32 : decode cX14_pay 32 = .ok (.dup2, 1) := by decide +kernel
theorem dX14_pay_33 : decode cX14_pay 33 = .ok (.iaload, 1) := by decide +kernel
theorem dX14_pay_34 : decode cX14_pay 34 = .ok (.iload 4, 2) := by decide +kernel
theorem dX14_pay_36 : decode cX14_pay 36 = .ok (.isub, 1) := by decide +kernel
theorem dX14_pay_37 : decode cX14_pay 37 = .ok (.iastore, 1) := by decide +kernel
theorem dX14_pay_38 : decode cX14_pay 38 = .ok (.aload_n 1, 1) := by decide +kernel
theorem dX14_pay_39 : decode cX14_pay 39 = .ok (.dup, 1) := by decide +kernel
theorem dX14_pay_40 : decode cX14_pay 40 = .ok (.getfield 362, 3) := by decide +kernel
theorem dX14_pay_43 : decode cX14_pay 43 = .ok (.iconst 1, 1) := by decide +kernel
theorem dX14_pay_44 : decode cX14_pay 44 = .ok (.iadd, 1) := by decide +kernel
theorem dX14_pay_45 : decode cX14_pay 45 = .ok (.putfield 362, 3) := by decide +kernel
theorem dX14_pay_48 : decode cX14_pay 48 = .ok (.return_, 1) := by decide +kernel
theorem dX14_carry_0 : decode cX14_carry 0 = .ok (.aload_n 0, 1) := by decide +kernel
theorem dX14_carry_1 : decode cX14_carry 1 = .ok (.aload_n 1, 1) := by decide +kernel
theorem dX14_carry_2 : decode cX14_carry 2 = .ok (.iload_n 2, 1) := by decide +kernel
theorem dX14_carry_3 : decode cX14_carry 3 = .ok (.invokevirtual 365, 3) := by decide +kernel
theorem dX14_carry_6 : decode cX14_carry 6 = .ok (.ifCond .ne 5, 3) := by decide +kernel
theorem dX14_carry_9 : decode cX14_carry 9 = .ok (.iconst 0, 1) := by decide +kernel
theorem dX14_carry_10 : decode cX14_carry 10 = .ok (.ireturn, 1) := by decide +kernel
theorem dX14_carry_11 : decode cX14_carry 11 = .ok (.aload_n 0, 1) := by decide +kernel
theorem dX14_carry_12 : decode cX14_carry 12 = .ok (.getfield 20, 3) := by decide +kernel
theorem dX14_carry_15 : decode cX14_carry 15 = .ok (.getfield 205, 3) := by decide +kernel
theorem dX14_carry_18 : decode cX14_carry 18 = .ok (.iload_n 2, 1) := by decide +kernel
theorem dX14_carry_19 : decode cX14_carry 19 = .ok (.iaload, 1) := by decide +kernel
theorem dX14_carry_20 : decode cX14_carry 20 = .ok (.istore_n 3, 1) := by decide +kernel
theorem dX14_carry_21 : decode cX14_carry 21 = .ok (.aload_n 0, 1) := by decide +kernel
theorem dX14_carry_22 : decode cX14_carry 22 = .ok (.getfield 20, 3) := by decide +kernel
theorem dX14_carry_25 : decode cX14_carry 25 = .ok (.getfield 211, 3) := by decide +kernel
theorem dX14_carry_28 : decode cX14_carry 28 = .ok (.iload_n 2, 1) := by decide +kernel
theorem dX14_carry_29 : decode cX14_carry 29 = .ok (.iaload, 1) := by decide +kernel
theorem dX14_carry_30 : decode cX14_carry 30 = .ok (.istore 4, 2) := by decide +kernel
theorem dX14_carry_32 : decode cX14_carry 32 = .ok (.aload_n 0, 1) := by decide +kernel
theorem dX14_carry_33 : decode cX14_carry 33 = .ok (.getfield 20, 3) := by decide +kernel
theorem dX14_carry_36 : decode cX14_carry 36 = .ok (.getfield 239, 3) := by decide +kernel
theorem dX14_carry_39 : decode cX14_carry 39 = .ok (.iload_n 2, 1) := by decide +kernel
theorem dX14_carry_40 : decode cX14_carry 40 = .ok (.iaload, 1) := by decide +kernel
theorem dX14_carry_41 : decode cX14_carry 41 = .ok (.ifCond .ne 14, 3) := by decide +kernel
theorem dX14_carry_44 : decode cX14_carry 44 = .ok (.aload_n 0, 1) := by decide +kernel
theorem dX14_carry_45 : decode cX14_carry 45 = .ok (.aload_n 1, 1) := by decide +kernel
theorem dX14_carry_46 : decode cX14_carry 46 = .ok (.iload_n 3, 1) := by decide +kernel
theorem dX14_carry_47 : decode cX14_carry 47 = .ok (.iload 4, 2) := by decide +kernel
theorem dX14_carry_49 : decode cX14_carry 49 = .ok (.invokevirtual 368, 3) := by decide +kernel
theorem dX14_carry_52 : decode cX14_carry 52 = .ok (.goto 47, 3) := by decide +kernel
theorem dX14_carry_55 : decode cX14_carry 55 = .ok (.aload_n 0, 1) := by decide +kernel
theorem dX14_carry_56 : decode cX14_carry 56 = .ok (.getfield 20, 3) := by decide +kernel
theorem dX14_carry_59 : decode cX14_carry 59 = .ok (.getfield 239, 3) := by decide +kernel
theorem dX14_carry_62 : decode cX14_carry 62 = .ok (.iload_n 2, 1) := by decide +kernel
theorem dX14_carry_63 : decode cX14_carry 63 = .ok (.iaload, 1) := by decide +kernel
theorem dX14_carry_64 : decode cX14_carry 64 = .ok (.iconst 1, 1) := by decide +kernel
theorem dX14_carry_65 : decode cX14_carry 65 = .ok (.if_icmp .ne 20, 3) := by decide +kernel
theorem dX14_carry_68 : decode cX14_carry 68 = .ok (.aload_n 0, 1) := by decide +kernel
theorem dX14_carry_69 : decode cX14_carry 69 = .ok (.aload_n 1, 1) := by decide +kernel
theorem dX14_carry_70 : decode cX14_carry 70 = .ok (.iload_n 3, 1) := by decide +kernel
theorem dX14_carry_71 : decode cX14_carry 71 = .ok (.iload 4, 2) := by decide +kernel
theorem dX14_carry_73 : decode cX14_carry 73 = .ok (.aload_n 0, 1) := by decide +kernel
theorem dX14_carry_74 : decode cX14_carry 74 = .ok (.aload_n 1, 1) := by decide +kernel
theorem dX14_carry_75 : decode cX14_carry 75 = .ok (.iload_n 2, 1) := by decide +kernel
theorem dX14_carry_76 : decode cX14_carry 76 = .ok (.invokevirtual 335, 3) := by decide +kernel
theorem dX14_carry_79 : decode cX14_carry 79 = .ok (.invokevirtual 372, 3) := by decide +kernel
theorem dX14_carry_82 : decode cX14_carry 82 = .ok (.goto 17, 3) := by decide +kernel
theorem dX14_carry_85 : decode cX14_carry 85 = .ok (.aload_n 0, 1) := by decide +kernel
theorem dX14_carry_86 : decode cX14_carry 86 = .ok (.aload_n 1, 1) := by decide +kernel
theorem dX14_carry_87 : decode cX14_carry 87 = .ok (.iload_n 3, 1) := by decide +kernel
theorem dX14_carry_88 : decode cX14_carry 88 = .ok (.iload 4, 2) := by decide +kernel
theorem dX14_carry_90 : decode cX14_carry 90 = .ok (.aload_n 0, 1) := by decide +kernel
theorem dX14_carry_91 : decode cX14_carry 91 = .ok (.aload_n 1, 1) := by decide +kernel
theorem dX14_carry_92 : decode cX14_carry 92 = .ok (.iload_n 2, 1) := by decide +kernel
theorem dX14_carry_93 : decode cX14_carry 93 = .ok (.invokevirtual 345, 3) := by decide +kernel
theorem dX14_carry_96 : decode cX14_carry 96 = .ok (.invokevirtual 376, 3) := by decide +kernel
theorem dX14_carry_99 : decode cX14_carry 99 = .ok (.aload_n 1, 1) := by decide +kernel
theorem dX14_carry_100 : decode cX14_carry 100 = .ok (.getfield 379, 3) := by decide +kernel
theorem dX14_carry_103 : decode cX14_carry 103 = .ok (.iload_n 2, 1) := by decide +kernel
theorem dX14_carry_104 : decode cX14_carry 104 = .ok (.dup2, 1) := by decide +kernel
theorem dX14_carry_105 : decode cX14_carry 105 = .ok (.iaload, 1) := by decide +kernel
theorem dX14_carry_106 : decode cX14_carry 106 = .ok (.iconst 1, 1) := by decide +kernel
theorem dX14_carry_107 : decode cX14_carry 107 = .ok (.iadd, 1) := by decide +kernel
theorem dX14_carry_108 : decode cX14_carry 108 = .ok (.iastore, 1) := by decide +kernel
theorem dX14_carry_109 : decode cX14_carry 109 = .ok (.iconst 1, 1) := by decide +kernel
theorem dX14_carry_110 : decode cX14_carry 110 = .ok (.ireturn, 1) := by decide +kernel
theorem dX14_lossOf_0 : decode cX14_lossOf 0 = .ok (.aload_n 1, 1) := by decide +kernel
theorem dX14_lossOf_1 : decode cX14_lossOf 1 = .ok (.getfield 292, 3) := by decide +kernel
theorem dX14_lossOf_4 : decode cX14_lossOf 4 = .ok (.iload_n 2, 1) := by decide +kernel
theorem dX14_lossOf_5 : decode cX14_lossOf 5 = .ok (.iaload, 1) := by decide +kernel
theorem dX14_lossOf_6 : decode cX14_lossOf 6 = .ok (.aload_n 0, 1) := by decide +kernel
theorem dX14_lossOf_7 : decode cX14_lossOf 7 = .ok (.getfield 20, 3) := by decide +kernel
theorem dX14_lossOf_10 : decode cX14_lossOf 10 = .ok (.getfield 217, 3) := by decide +kernel
theorem dX14_lossOf_13 : decode cX14_lossOf 13 = .ok (.aload_n 0, 1) := by decide +kernel
theorem dX14_lossOf_14 : decode cX14_lossOf 14 = .ok (.getfield 20, 3) := by decide +kernel
theorem dX14_lossOf_17 : decode cX14_lossOf 17 = .ok (.getfield 199, 3) := by decide +kernel
theorem dX14_lossOf_20 : decode cX14_lossOf 20 = .ok (.iload_n 2, 1) := by decide +kernel
theorem dX14_lossOf_21 : decode cX14_lossOf 21 = .ok (.iaload, 1) := by decide +kernel
theorem dX14_lossOf_22 : decode cX14_lossOf 22 = .ok (.iaload, 1) := by decide +kernel
theorem dX14_lossOf_23 : decode cX14_lossOf 23 = .ok (.imul, 1) := by decide +kernel
theorem dX14_lossOf_24 : decode cX14_lossOf 24 = .ok (.aload_n 1, 1) := by decide +kernel
theorem dX14_lossOf_25 : decode cX14_lossOf 25 = .ok (.getfield 311, 3) := by decide +kernel
theorem dX14_lossOf_28 : decode cX14_lossOf 28 = .ok (.imul, 1) := by decide +kernel
theorem dX14_lossOf_29 : decode cX14_lossOf 29 = .ok (.sipush 1000, 3) := by decide +kernel
theorem dX14_lossOf_32 : decode cX14_lossOf 32 = .ok (.idiv, 1) := by decide +kernel
theorem dX14_lossOf_33 : decode cX14_lossOf 33 = .ok (.ireturn, 1) := by decide +kernel
theorem dX14_lose_0 : decode cX14_lose 0 = .ok (.iconst 0, 1) := by decide +kernel
theorem dX14_lose_1 : decode cX14_lose 1 = .ok (.istore_n 2, 1) := by decide +kernel
theorem dX14_lose_2 : decode cX14_lose 2 = .ok (.iload_n 2, 1) := by decide +kernel
theorem dX14_lose_3 : decode cX14_lose 3 = .ok (.aload_n 0, 1) := by decide +kernel
theorem dX14_lose_4 : decode cX14_lose 4 = .ok (.getfield 20, 3) := by decide +kernel
theorem dX14_lose_7 : decode cX14_lose 7 = .ok (.getfield 54, 3) := by decide +kernel
theorem dX14_lose_10 : decode cX14_lose 10 = .ok (.if_icmp .ge 24, 3) := by decide +kernel
theorem dX14_lose_13 : decode cX14_lose 13 = .ok (.aload_n 1, 1) := by decide +kernel
theorem dX14_lose_14 : decode cX14_lose 14 = .ok (.getfield 292, 3) := by decide +kernel
theorem dX14_lose_17 : decode cX14_lose 17 = .ok (.iload_n 2, 1) := by decide +kernel
theorem dX14_lose_18 : decode cX14_lose 18 = .ok (.dup2, 1) := by decide +kernel
theorem dX14_lose_19 : decode cX14_lose 19 = .ok (.iaload, 1) := by decide +kernel
theorem dX14_lose_20 : decode cX14_lose 20 = .ok (.aload_n 0, 1) := by decide +kernel
theorem dX14_lose_21 : decode cX14_lose 21 = .ok (.aload_n 1, 1) := by decide +kernel
theorem dX14_lose_22 : decode cX14_lose 22 = .ok (.iload_n 2, 1) := by decide +kernel
theorem dX14_lose_23 : decode cX14_lose 23 = .ok (.invokevirtual 382, 3) := by decide +kernel
theorem dX14_lose_26 : decode cX14_lose 26 = .ok (.isub, 1) := by decide +kernel
theorem dX14_lose_27 : decode cX14_lose 27 = .ok (.iastore, 1) := by decide +kernel
theorem dX14_lose_28 : decode cX14_lose 28 = .ok (.iinc 2 1, 3) := by decide +kernel
theorem dX14_lose_31 : decode cX14_lose 31 = .ok (.goto (-29), 3) := by decide +kernel
theorem dX14_lose_34 : decode cX14_lose 34 = .ok (.return_, 1) := by decide +kernel
theorem dX14_dayOn_0 : decode cX14_dayOn 0 = .ok (.aload_n 0, 1) := by decide +kernel
theorem dX14_dayOn_1 : decode cX14_dayOn 1 = .ok (.aload_n 1, 1) := by decide +kernel
theorem dX14_dayOn_2 : decode cX14_dayOn 2 = .ok (.invokevirtual 385, 3) := by decide +kernel
theorem dX14_dayOn_5 : decode cX14_dayOn 5 = .ok (.iconst 0, 1) := by decide +kernel
theorem dX14_dayOn_6 : decode cX14_dayOn 6 = .ok (.istore_n 2, 1) := by decide +kernel
theorem dX14_dayOn_7 : decode cX14_dayOn 7 = .ok (.iconst 0, 1) := by decide +kernel
theorem dX14_dayOn_8 : decode cX14_dayOn 8 = .ok (.istore_n 3, 1) := by decide +kernel
theorem dX14_dayOn_9 : decode cX14_dayOn 9 = .ok (.iload_n 3, 1) := by decide +kernel
theorem dX14_dayOn_10 : decode cX14_dayOn 10 = .ok (.aload_n 0, 1) := by decide +kernel
theorem dX14_dayOn_11 : decode cX14_dayOn 11 = .ok (.getfield 20, 3) := by decide +kernel
theorem dX14_dayOn_14 : decode cX14_dayOn 14 = .ok (.getfield 208, 3) := by decide +kernel
theorem dX14_dayOn_17 : decode cX14_dayOn 17 = .ok (.if_icmp .ge 26, 3) := by decide +kernel
theorem dX14_dayOn_20 : decode cX14_dayOn 20 = .ok (.iload_n 2, 1) := by decide +kernel
theorem dX14_dayOn_21 : decode cX14_dayOn 21 = .ok (.aload_n 0, 1) := by decide +kernel
theorem dX14_dayOn_22 : decode cX14_dayOn 22 = .ok (.aload_n 1, 1) := by decide +kernel
theorem dX14_dayOn_23 : decode cX14_dayOn 23 = .ok (.iload_n 3, 1) := by decide +kernel
theorem dX14_dayOn_24 : decode cX14_dayOn 24 = .ok (.invokevirtual 389, 3) := by decide +kernel
theorem dX14_dayOn_27 : decode cX14_dayOn 27 = .ok (.ifCond .eq 7, 3) := by decide +kernel
theorem dX14_dayOn_30 : decode cX14_dayOn 30 = .ok (.iconst 1, 1) := by decide +kernel
theorem dX14_dayOn_31 : decode cX14_dayOn 31 = .ok (.goto 4, 3) := by decide +kernel
theorem dX14_dayOn_34 : decode cX14_dayOn 34 = .ok (.iconst 0, 1) := by decide +kernel
theorem dX14_dayOn_35 : decode cX14_dayOn 35 = .ok (.iadd, 1) := by decide +kernel
theorem dX14_dayOn_36 : decode cX14_dayOn 36 = .ok (.istore_n 2, 1) := by decide +kernel
theorem dX14_dayOn_37 : decode cX14_dayOn 37 = .ok (.iinc 3 1, 3) := by decide +kernel
theorem dX14_dayOn_40 : decode cX14_dayOn 40 = .ok (.goto (-31), 3) := by decide +kernel
theorem dX14_dayOn_43 : decode cX14_dayOn 43 = .ok (.iconst 0, 1) := by decide +kernel
theorem dX14_dayOn_44 : decode cX14_dayOn 44 = .ok (.istore_n 3, 1) := by decide +kernel
theorem dX14_dayOn_45 : decode cX14_dayOn 45 = .ok (.iload_n 3, 1) := by decide +kernel
theorem dX14_dayOn_46 : decode cX14_dayOn 46 = .ok (.aload_n 1, 1) := by decide +kernel
theorem dX14_dayOn_47 : decode cX14_dayOn 47 = .ok (.getfield 357, 3) := by decide +kernel
theorem dX14_dayOn_50 : decode cX14_dayOn 50 = .ok (.arraylength, 1) := by decide +kernel
theorem dX14_dayOn_51 : decode cX14_dayOn 51 = .ok (.if_icmp .ge 60, 3) := by decide +kernel
theorem dX14_dayOn_54 : decode cX14_dayOn 54 = .ok (.aload_n 1, 1) := by decide +kernel
theorem dX14_dayOn_55 : decode cX14_dayOn 55 = .ok (.getfield 308, 3) := by decide +kernel
theorem dX14_dayOn_58 : decode cX14_dayOn 58 = .ok (.bipush 7, 2) := by decide +kernel
theorem dX14_dayOn_60 : decode cX14_dayOn 60 = .ok (.irem, 1) := by decide +kernel
theorem dX14_dayOn_61 : decode cX14_dayOn 61 = .ok (.bipush 6, 2) := by decide +kernel
theorem dX14_dayOn_63 : decode cX14_dayOn 63 = .ok (.if_icmp .ne 48, 3) := by decide +kernel
theorem dX14_dayOn_66 : decode cX14_dayOn 66 = .ok (.aload_n 1, 1) := by decide +kernel
theorem dX14_dayOn_67 : decode cX14_dayOn 67 = .ok (.getfield 357, 3) := by decide +kernel
theorem dX14_dayOn_70 : decode cX14_dayOn 70 = .ok (.iload_n 3, 1) := by decide +kernel
theorem dX14_dayOn_71 : decode cX14_dayOn 71 = .ok (.iaload, 1) := by decide +kernel
theorem dX14_dayOn_72 : decode cX14_dayOn 72 = .ok (.ifCond .le 33, 3) := by decide +kernel
theorem dX14_dayOn_75 : decode cX14_dayOn 75 = .ok (.aload_n 1, 1) := by decide +kernel
theorem dX14_dayOn_76 : decode cX14_dayOn 76 = .ok (.getfield 357, 3) := by decide +kernel
theorem dX14_dayOn_79 : decode cX14_dayOn 79 = .ok (.iload_n 3, 1) := by decide +kernel
theorem dX14_dayOn_80 : decode cX14_dayOn 80 = .ok (.ldc_w 392, 3) := by decide +kernel
theorem dX14_dayOn_83 : decode cX14_dayOn 83 = .ok (.aload_n 1, 1) := by decide +kernel
theorem dX14_dayOn_84 : decode cX14_dayOn 84 = .ok (.getfield 357, 3) := by decide +kernel
theorem dX14_dayOn_87 : decode cX14_dayOn 87 = .ok (.iload_n 3, 1) := by decide +kernel
theorem dX14_dayOn_88 : decode cX14_dayOn 88 = .ok (.iaload, 1) := by decide +kernel
theorem dX14_dayOn_89 : decode cX14_dayOn 89 = .ok (.aload_n 1, 1) := by decide +kernel
theorem dX14_dayOn_90 : decode cX14_dayOn 90 = .ok (.getfield 357, 3) := by decide +kernel
theorem dX14_dayOn_93 : decode cX14_dayOn 93 = .ok (.iload_n 3, 1) := by decide +kernel
theorem dX14_dayOn_94 : decode cX14_dayOn 94 = .ok (.iaload, 1) := by decide +kernel
theorem dX14_dayOn_95 : decode cX14_dayOn 95 = .ok (.bipush 20, 2) := by decide +kernel
theorem dX14_dayOn_97 : decode cX14_dayOn 97 = .ok (.idiv, 1) := by decide +kernel
theorem dX14_dayOn_98 : decode cX14_dayOn 98 = .ok (.iadd, 1) := by decide +kernel
theorem dX14_dayOn_99 : decode cX14_dayOn 99 = .ok (.iconst 1, 1) := by decide +kernel
theorem dX14_dayOn_100 : decode cX14_dayOn 100 = .ok (.iadd, 1) := by decide +kernel
theorem dX14_dayOn_101 : decode cX14_dayOn 101 = .ok (.invokestatic 320, 3) := by decide +kernel
theorem dX14_dayOn_104 : decode cX14_dayOn 104 = .ok (.iastore, 1) := by decide +kernel
theorem dX14_dayOn_105 : decode cX14_dayOn 105 = .ok (.iinc 3 1, 3) := by decide +kernel
theorem dX14_dayOn_108 : decode cX14_dayOn 108 = .ok (.goto (-63), 3) := by decide +kernel
theorem dX14_dayOn_111 : decode cX14_dayOn 111 = .ok (.aload_n 1, 1) := by decide +kernel
theorem dX14_dayOn_112 : decode cX14_dayOn 112 = .ok (.dup, 1) := by decide +kernel
theorem dX14_dayOn_113 : decode cX14_dayOn 113 = .ok (.getfield 308, 3) := by decide +kernel
theorem dX14_dayOn_116 : decode cX14_dayOn 116 = .ok (.iconst 1, 1) := by decide +kernel
theorem dX14_dayOn_117 : decode cX14_dayOn 117 = .ok (.iadd, 1) := by decide +kernel
theorem dX14_dayOn_118 : decode cX14_dayOn 118 = .ok (.putfield 308, 3) := by decide +kernel
theorem dX14_dayOn_121 : decode cX14_dayOn 121 = .ok (.iload_n 2, 1) := by decide +kernel
theorem dX14_dayOn_122 : decode cX14_dayOn 122 = .ok (.ireturn, 1) := by decide +kernel
theorem dX14_daysOn_0 : decode cX14_daysOn 0 = .ok (.iconst 0, 1) := by decide +kernel
theorem dX14_daysOn_1 : decode cX14_daysOn 1 = .ok (.istore_n 3, 1) := by decide +kernel
theorem dX14_daysOn_2 : decode cX14_daysOn 2 = .ok (.iconst 0, 1) := by decide +kernel
theorem dX14_daysOn_3 : decode cX14_daysOn 3 = .ok (.istore 4, 2) := by decide +kernel
theorem dX14_daysOn_5 : decode cX14_daysOn 5 = .ok (.iload 4, 2) := by decide +kernel
theorem dX14_daysOn_7 : decode cX14_daysOn 7 = .ok (.iload_n 2, 1) := by decide +kernel
theorem dX14_daysOn_8 : decode cX14_daysOn 8 = .ok (.if_icmp .ge 17, 3) := by decide +kernel
theorem dX14_daysOn_11 : decode cX14_daysOn 11 = .ok (.iload_n 3, 1) := by decide +kernel
theorem dX14_daysOn_12 : decode cX14_daysOn 12 = .ok (.aload_n 0, 1) := by decide +kernel
theorem dX14_daysOn_13 : decode cX14_daysOn 13 = .ok (.aload_n 1, 1) := by decide +kernel
theorem dX14_daysOn_14 : decode cX14_daysOn 14 = .ok (.invokevirtual 393, 3) := by decide +kernel
theorem dX14_daysOn_17 : decode cX14_daysOn 17 = .ok (.iadd, 1) := by decide +kernel
theorem dX14_daysOn_18 : decode cX14_daysOn 18 = .ok (.istore_n 3, 1) := by decide +kernel
theorem dX14_daysOn_19 : decode cX14_daysOn 19 = .ok (.iinc 4 1, 3) := by decide +kernel
theorem dX14_daysOn_22 : decode cX14_daysOn 22 = .ok (.goto (-17), 3) := by decide +kernel
theorem dX14_daysOn_25 : decode cX14_daysOn 25 = .ok (.iload_n 3, 1) := by decide +kernel
theorem dX14_daysOn_26 : decode cX14_daysOn 26 = .ok (.ireturn, 1) := by decide +kernel
theorem dX14_weightOf_0 : decode cX14_weightOf 0 = .ok (.iconst 0, 1) := by decide +kernel
theorem dX14_weightOf_1 : decode cX14_weightOf 1 = .ok (.istore_n 2, 1) := by decide +kernel
theorem dX14_weightOf_2 : decode cX14_weightOf 2 = .ok (.iconst 0, 1) := by decide +kernel
theorem dX14_weightOf_3 : decode cX14_weightOf 3 = .ok (.istore_n 3, 1) := by decide +kernel
theorem dX14_weightOf_4 : decode cX14_weightOf 4 = .ok (.iload_n 3, 1) := by decide +kernel
theorem dX14_weightOf_5 : decode cX14_weightOf 5 = .ok (.aload_n 0, 1) := by decide +kernel
theorem dX14_weightOf_6 : decode cX14_weightOf 6 = .ok (.getfield 20, 3) := by decide +kernel
theorem dX14_weightOf_9 : decode cX14_weightOf 9 = .ok (.getfield 54, 3) := by decide +kernel
theorem dX14_weightOf_12 : decode cX14_weightOf 12 = .ok (.if_icmp .ge 18, 3) := by decide +kernel
theorem dX14_weightOf_15 : decode cX14_weightOf 15 = .ok (.iload_n 2, 1) := by decide +kernel
theorem dX14_weightOf_16 : decode cX14_weightOf 16 = .ok (.aload_n 1, 1) := by decide +kernel
theorem dX14_weightOf_17 : decode cX14_weightOf 17 = .ok (.getfield 292, 3) := by decide +kernel
theorem dX14_weightOf_20 : decode cX14_weightOf 20 = .ok (.iload_n 3, 1) := by decide +kernel
theorem dX14_weightOf_21 : decode cX14_weightOf 21 = .ok (.iaload, 1) := by decide +kernel
theorem dX14_weightOf_22 : decode cX14_weightOf 22 = .ok (.iadd, 1) := by decide +kernel
theorem dX14_weightOf_23 : decode cX14_weightOf 23 = .ok (.istore_n 2, 1) := by decide +kernel
theorem dX14_weightOf_24 : decode cX14_weightOf 24 = .ok (.iinc 3 1, 3) := by decide +kernel
theorem dX14_weightOf_27 : decode cX14_weightOf 27 = .ok (.goto (-23), 3) := by decide +kernel
theorem dX14_weightOf_30 : decode cX14_weightOf 30 = .ok (.iload_n 2, 1) := by decide +kernel
theorem dX14_weightOf_31 : decode cX14_weightOf 31 = .ok (.ireturn, 1) := by decide +kernel
theorem dX14_sumOf__0 : decode cX14_sumOf_ 0 = .ok (.iconst 0, 1) := by decide +kernel
theorem dX14_sumOf__1 : decode cX14_sumOf_ 1 = .ok (.istore_n 1, 1) := by decide +kernel
theorem dX14_sumOf__2 : decode cX14_sumOf_ 2 = .ok (.aload_n 0, 1) := by decide +kernel
theorem dX14_sumOf__3 : decode cX14_sumOf_ 3 = .ok (.astore_n 2, 1) := by decide +kernel
theorem dX14_sumOf__4 : decode cX14_sumOf_ 4 = .ok (.aload_n 2, 1) := by decide +kernel
theorem dX14_sumOf__5 : decode cX14_sumOf_ 5 = .ok (.arraylength, 1) := by decide +kernel
theorem dX14_sumOf__6 : decode cX14_sumOf_ 6 = .ok (.istore_n 3, 1) := by decide +kernel
theorem dX14_sumOf__7 : decode cX14_sumOf_ 7 = .ok (.iconst 0, 1) := by decide +kernel
theorem dX14_sumOf__8 : decode cX14_sumOf_ 8 = .ok (.istore 4, 2) := by decide +kernel
theorem dX14_sumOf__10 : decode cX14_sumOf_ 10 = .ok (.iload 4, 2) := by decide +kernel
theorem dX14_sumOf__12 : decode cX14_sumOf_ 12 = .ok (.iload_n 3, 1) := by decide +kernel
theorem dX14_sumOf__13 : decode cX14_sumOf_ 13 = .ok (.if_icmp .ge 20, 3) := by decide +kernel
theorem dX14_sumOf__16 : decode cX14_sumOf_ 16 = .ok (.aload_n 2, 1) := by decide +kernel
theorem dX14_sumOf__17 : decode cX14_sumOf_ 17 = .ok (.iload 4, 2) := by decide +kernel
theorem dX14_sumOf__19 : decode cX14_sumOf_ 19 = .ok (.iaload, 1) := by decide +kernel
theorem dX14_sumOf__20 : decode cX14_sumOf_ 20 = .ok (.istore 5, 2) := by decide +kernel
theorem dX14_sumOf__22 : decode cX14_sumOf_ 22 = .ok (.iload_n 1, 1) := by decide +kernel
theorem dX14_sumOf__23 : decode cX14_sumOf_ 23 = .ok (.iload 5, 2) := by decide +kernel
theorem dX14_sumOf__25 : decode cX14_sumOf_ 25 = .ok (.iadd, 1) := by decide +kernel
theorem dX14_sumOf__26 : decode cX14_sumOf_ 26 = .ok (.istore_n 1, 1) := by decide +kernel
theorem dX14_sumOf__27 : decode cX14_sumOf_ 27 = .ok (.iinc 4 1, 3) := by decide +kernel
theorem dX14_sumOf__30 : decode cX14_sumOf_ 30 = .ok (.goto (-20), 3) := by decide +kernel
theorem dX14_sumOf__33 : decode cX14_sumOf_ 33 = .ok (.iload_n 1, 1) := by decide +kernel
theorem dX14_sumOf__34 : decode cX14_sumOf_ 34 = .ok (.ireturn, 1) := by decide +kernel
theorem dX14_counted_0 : decode cX14_counted 0 = .ok (.iload_n 2, 1) := by decide +kernel
theorem dX14_counted_1 : decode cX14_counted 1 = .ok (.tableswitch 154 0 12 #[67, 72, 77, 85, 93, 101, 109, 117, 123, 131, 139, 144, 149], 67) := by decide +kernel
theorem dX14_counted_68 : decode cX14_counted 68 = .ok (.aload_n 1, 1) := by decide +kernel
theorem dX14_counted_69 : decode cX14_counted 69 = .ok (.getfield 308, 3) := by decide +kernel
theorem dX14_counted_72 : decode cX14_counted 72 = .ok (.ireturn, 1) := by decide +kernel
theorem dX14_counted_73 : decode cX14_counted 73 = .ok (.aload_n 1, 1) := by decide +kernel
theorem dX14_counted_74 : decode cX14_counted 74 = .ok (.getfield 311, 3) := by decide +kernel
theorem dX14_counted_77 : decode cX14_counted 77 = .ok (.ireturn, 1) := by decide +kernel
theorem dX14_counted_78 : decode cX14_counted 78 = .ok (.aload_n 0, 1) := by decide +kernel
theorem dX14_counted_79 : decode cX14_counted 79 = .ok (.getfield 20, 3) := by decide +kernel
theorem dX14_counted_82 : decode cX14_counted 82 = .ok (.getfield 171, 3) := by decide +kernel
theorem dX14_counted_85 : decode cX14_counted 85 = .ok (.ireturn, 1) := by decide +kernel
theorem dX14_counted_86 : decode cX14_counted 86 = .ok (.aload_n 0, 1) := by decide +kernel
theorem dX14_counted_87 : decode cX14_counted 87 = .ok (.getfield 20, 3) := by decide +kernel
theorem dX14_counted_90 : decode cX14_counted 90 = .ok (.getfield 174, 3) := by decide +kernel
theorem dX14_counted_93 : decode cX14_counted 93 = .ok (.ireturn, 1) := by decide +kernel
theorem dX14_counted_94 : decode cX14_counted 94 = .ok (.aload_n 0, 1) := by decide +kernel
theorem dX14_counted_95 : decode cX14_counted 95 = .ok (.getfield 20, 3) := by decide +kernel
theorem dX14_counted_98 : decode cX14_counted 98 = .ok (.getfield 43, 3) := by decide +kernel
theorem dX14_counted_101 : decode cX14_counted 101 = .ok (.ireturn, 1) := by decide +kernel
theorem dX14_counted_102 : decode cX14_counted 102 = .ok (.aload_n 0, 1) := by decide +kernel
theorem dX14_counted_103 : decode cX14_counted 103 = .ok (.getfield 20, 3) := by decide +kernel
theorem dX14_counted_106 : decode cX14_counted 106 = .ok (.getfield 54, 3) := by decide +kernel
theorem dX14_counted_109 : decode cX14_counted 109 = .ok (.ireturn, 1) := by decide +kernel
theorem dX14_counted_110 : decode cX14_counted 110 = .ok (.aload_n 0, 1) := by decide +kernel
theorem dX14_counted_111 : decode cX14_counted 111 = .ok (.getfield 20, 3) := by decide +kernel
theorem dX14_counted_114 : decode cX14_counted 114 = .ok (.getfield 208, 3) := by decide +kernel
theorem dX14_counted_117 : decode cX14_counted 117 = .ok (.ireturn, 1) := by decide +kernel
theorem dX14_counted_118 : decode cX14_counted 118 = .ok (.aload_n 0, 1) := by decide +kernel
theorem dX14_counted_119 : decode cX14_counted 119 = .ok (.aload_n 1, 1) := by decide +kernel
theorem dX14_counted_120 : decode cX14_counted 120 = .ok (.invokevirtual 397, 3) := by decide +kernel
theorem dX14_counted_123 : decode cX14_counted 123 = .ok (.ireturn, 1) := by decide +kernel
theorem dX14_counted_124 : decode cX14_counted 124 = .ok (.aload_n 1, 1) := by decide +kernel
theorem dX14_counted_125 : decode cX14_counted 125 = .ok (.getfield 357, 3) := by decide +kernel
theorem dX14_counted_128 : decode cX14_counted 128 = .ok (.invokestatic 400, 3) := by decide +kernel
theorem dX14_counted_131 : decode cX14_counted 131 = .ok (.ireturn, 1) := by decide +kernel
theorem dX14_counted_132 : decode cX14_counted 132 = .ok (.aload_n 1, 1) := by decide +kernel
theorem dX14_counted_133 : decode cX14_counted 133 = .ok (.getfield 304, 3) := by decide +kernel
theorem dX14_counted_136 : decode cX14_counted 136 = .ok (.invokestatic 400, 3) := by decide +kernel
theorem dX14_counted_139 : decode cX14_counted 139 = .ok (.ireturn, 1) := by decide +kernel
theorem dX14_counted_140 : decode cX14_counted 140 = .ok (.aload_n 1, 1) := by decide +kernel
theorem dX14_counted_141 : decode cX14_counted 141 = .ok (.getfield 359, 3) := by decide +kernel
theorem dX14_counted_144 : decode cX14_counted 144 = .ok (.ireturn, 1) := by decide +kernel
theorem dX14_counted_145 : decode cX14_counted 145 = .ok (.aload_n 1, 1) := by decide +kernel
theorem dX14_counted_146 : decode cX14_counted 146 = .ok (.getfield 354, 3) := by decide +kernel
theorem dX14_counted_149 : decode cX14_counted 149 = .ok (.ireturn, 1) := by decide +kernel
theorem dX14_counted_150 : decode cX14_counted 150 = .ok (.aload_n 1, 1) := by decide +kernel
theorem dX14_counted_151 : decode cX14_counted 151 = .ok (.getfield 362, 3) := by decide +kernel
theorem dX14_counted_154 : decode cX14_counted 154 = .ok (.ireturn, 1) := by decide +kernel
theorem dX14_counted_155 : decode cX14_counted 155 = .ok (.aload_n 0, 1) := by decide +kernel
theorem dX14_counted_156 : decode cX14_counted 156 = .ok (.getfield 57, 3) := by decide +kernel
theorem dX14_counted_159 : decode cX14_counted 159 = .ok (.ireturn, 1) := by decide +kernel
theorem dX14_feed_0 : decode cX14_feed 0 = .ok (.aload_n 0, 1) := by decide +kernel
theorem dX14_feed_1 : decode cX14_feed 1 = .ok (.iconst 0, 1) := by decide +kernel
theorem dX14_feed_2 : decode cX14_feed 2 = .ok (.putfield 40, 3) := by decide +kernel
theorem dX14_feed_5 : decode cX14_feed 5 = .ok (.aload_n 0, 1) := by decide +kernel
theorem dX14_feed_6 : decode cX14_feed 6 = .ok (.getfield 57, 3) := by decide +kernel
theorem dX14_feed_9 : decode cX14_feed 9 = .ok (.bipush 20, 2) := by decide +kernel
theorem dX14_feed_11 : decode cX14_feed 11 = .ok (.iadd, 1) := by decide +kernel
theorem dX14_feed_12 : decode cX14_feed 12 = .ok (.sipush 2000, 3) := by decide +kernel
theorem dX14_feed_15 : decode cX14_feed 15 = .ok (.if_icmp .le 9, 3) := by decide +kernel
theorem dX14_feed_18 : decode cX14_feed 18 = .ok (.aload_n 0, 1) := by decide +kernel
theorem dX14_feed_19 : decode cX14_feed 19 = .ok (.iconst 1, 1) := by decide +kernel
theorem dX14_feed_20 : decode cX14_feed 20 = .ok (.invokevirtual 403, 3) := by decide +kernel
theorem dX14_feed_23 : decode cX14_feed 23 = .ok (.ireturn, 1) := by decide +kernel
theorem dX14_feed_24 : decode cX14_feed 24 = .ok (.iconst 5, 1) := by decide +kernel
theorem dX14_feed_25 : decode cX14_feed 25 = .ok (.newarray .int, 2) := by decide +kernel
theorem dX14_feed_27 : decode cX14_feed 27 = .ok (.dup, 1) := by decide +kernel
theorem dX14_feed_28 : decode cX14_feed 28 = .ok (.iconst 0, 1) := by decide +kernel
theorem dX14_feed_29 : decode cX14_feed 29 = .ok (.iload_n 1, 1) := by decide +kernel
theorem dX14_feed_30 : decode cX14_feed 30 = .ok (.iastore, 1) := by decide +kernel
theorem dX14_feed_31 : decode cX14_feed 31 = .ok (.dup, 1) := by decide +kernel
theorem dX14_feed_32 : decode cX14_feed 32 = .ok (.iconst 1, 1) := by decide +kernel
theorem dX14_feed_33 : decode cX14_feed 33 = .ok (.iload_n 2, 1) := by decide +kernel
theorem dX14_feed_34 : decode cX14_feed 34 = .ok (.iastore, 1) := by decide +kernel
theorem dX14_feed_35 : decode cX14_feed 35 = .ok (.dup, 1) := by decide +kernel
theorem dX14_feed_36 : decode cX14_feed 36 = .ok (.iconst 2, 1) := by decide +kernel
theorem dX14_feed_37 : decode cX14_feed 37 = .ok (.iload_n 3, 1) := by decide +kernel
theorem dX14_feed_38 : decode cX14_feed 38 = .ok (.iastore, 1) := by decide +kernel
theorem dX14_feed_39 : decode cX14_feed 39 = .ok (.dup, 1) := by decide +kernel
theorem dX14_feed_40 : decode cX14_feed 40 = .ok (.iconst 3, 1) := by decide +kernel
theorem dX14_feed_41 : decode cX14_feed 41 = .ok (.iload 4, 2) := by decide +kernel
theorem dX14_feed_43 : decode cX14_feed 43 = .ok (.iastore, 1) := by decide +kernel
theorem dX14_feed_44 : decode cX14_feed 44 = .ok (.dup, 1) := by decide +kernel
theorem dX14_feed_45 : decode cX14_feed 45 = .ok (.iconst 4, 1) := by decide +kernel
theorem dX14_feed_46 : decode cX14_feed 46 = .ok (.iload 5, 2) := by decide +kernel
theorem dX14_feed_48 : decode cX14_feed 48 = .ok (.iastore, 1) := by decide +kernel
theorem dX14_feed_49 : decode cX14_feed 49 = .ok (.astore 6, 2) := by decide +kernel
theorem dX14_feed_51 : decode cX14_feed 51 = .ok (.iconst 0, 1) := by decide +kernel
theorem dX14_feed_52 : decode cX14_feed 52 = .ok (.istore 7, 2) := by decide +kernel
theorem dX14_feed_54 : decode cX14_feed 54 = .ok (.iload 7, 2) := by decide +kernel
theorem dX14_feed_56 : decode cX14_feed 56 = .ok (.bipush 20, 2) := by decide +kernel
theorem dX14_feed_58 : decode cX14_feed 58 = .ok (.if_icmp .ge 43, 3) := by decide +kernel
theorem dX14_feed_61 : decode cX14_feed 61 = .ok (.aload_n 0, 1) := by decide +kernel
theorem dX14_feed_62 : decode cX14_feed 62 = .ok (.getfield 9, 3) := by decide +kernel
theorem dX14_feed_65 : decode cX14_feed 65 = .ok (.aload_n 0, 1) := by decide +kernel
theorem dX14_feed_66 : decode cX14_feed 66 = .ok (.getfield 57, 3) := by decide +kernel
theorem dX14_feed_69 : decode cX14_feed 69 = .ok (.iload 7, 2) := by decide +kernel
theorem dX14_feed_71 : decode cX14_feed 71 = .ok (.iadd, 1) := by decide +kernel
theorem dX14_feed_72 : decode cX14_feed 72 = .ok (.aload 6, 2) := by decide +kernel
theorem dX14_feed_74 : decode cX14_feed 74 = .ok (.iload 7, 2) := by decide +kernel
theorem dX14_feed_76 : decode cX14_feed 76 = .ok (.iconst 4, 1) := by decide +kernel
theorem dX14_feed_77 : decode cX14_feed 77 = .ok (.idiv, 1) := by decide +kernel
theorem dX14_feed_78 : decode cX14_feed 78 = .ok (.iaload, 1) := by decide +kernel
theorem dX14_feed_79 : decode cX14_feed 79 = .ok (.bipush 24, 2) := by decide +kernel
theorem dX14_feed_81 : decode cX14_feed 81 = .ok (.iload 7, 2) := by decide +kernel
theorem dX14_feed_83 : decode cX14_feed 83 = .ok (.iconst 4, 1) := by decide +kernel
theorem dX14_feed_84 : decode cX14_feed 84 = .ok (.irem, 1) := by decide +kernel
theorem dX14_feed_85 : decode cX14_feed 85 = .ok (.bipush 8, 2) := by decide +kernel
theorem dX14_feed_87 : decode cX14_feed 87 = .ok (.imul, 1) := by decide +kernel
theorem dX14_feed_88 : decode cX14_feed 88 = .ok (.isub, 1) := by decide +kernel
theorem dX14_feed_89 : decode cX14_feed 89 = .ok (.iushr, 1) := by decide +kernel
theorem dX14_feed_90 : decode cX14_feed 90 = .ok (.sipush 255, 3) := by decide +kernel
theorem dX14_feed_93 : decode cX14_feed 93 = .ok (.iand, 1) := by decide +kernel
theorem dX14_feed_94 : decode cX14_feed 94 = .ok (.iastore, 1) := by decide +kernel
theorem dX14_feed_95 : decode cX14_feed 95 = .ok (.iinc 7 1, 3) := by decide +kernel
theorem dX14_feed_98 : decode cX14_feed 98 = .ok (.goto (-44), 3) := by decide +kernel
theorem dX14_feed_101 : decode cX14_feed 101 = .ok (.aload_n 0, 1) := by decide +kernel
theorem dX14_feed_102 : decode cX14_feed 102 = .ok (.dup, 1) := by decide +kernel
theorem dX14_feed_103 : decode cX14_feed 103 = .ok (.getfield 57, 3) := by decide +kernel
theorem dX14_feed_106 : decode cX14_feed 106 = .ok (.bipush 20, 2) := by decide +kernel
theorem dX14_feed_108 : decode cX14_feed 108 = .ok (.iadd, 1) := by decide +kernel
theorem dX14_feed_109 : decode cX14_feed 109 = .ok (.putfield 57, 3) := by decide +kernel
theorem dX14_feed_112 : decode cX14_feed 112 = .ok (.aload_n 0, 1) := by decide +kernel
theorem dX14_feed_113 : decode cX14_feed 113 = .ok (.getfield 57, 3) := by decide +kernel
theorem dX14_feed_116 : decode cX14_feed 116 = .ok (.ireturn, 1) := by decide +kernel
theorem dX14_trim_0 : decode cX14_trim 0 = .ok (.aload_n 0, 1) := by decide +kernel
theorem dX14_trim_1 : decode cX14_trim 1 = .ok (.iconst 0, 1) := by decide +kernel
theorem dX14_trim_2 : decode cX14_trim 2 = .ok (.putfield 40, 3) := by decide +kernel
theorem dX14_trim_5 : decode cX14_trim 5 = .ok (.iload_n 1, 1) := by decide +kernel
theorem dX14_trim_6 : decode cX14_trim 6 = .ok (.iconst 0, 1) := by decide +kernel
theorem dX14_trim_7 : decode cX14_trim 7 = .ok (.aload_n 0, 1) := by decide +kernel
theorem dX14_trim_8 : decode cX14_trim 8 = .ok (.getfield 57, 3) := by decide +kernel
theorem dX14_trim_11 : decode cX14_trim 11 = .ok (.invokestatic 46, 3) := by decide +kernel
theorem dX14_trim_14 : decode cX14_trim 14 = .ok (.ifCond .ne 9, 3) := by decide +kernel
theorem dX14_trim_17 : decode cX14_trim 17 = .ok (.aload_n 0, 1) := by decide +kernel
theorem dX14_trim_18 : decode cX14_trim 18 = .ok (.iconst 1, 1) := by decide +kernel
theorem dX14_trim_19 : decode cX14_trim 19 = .ok (.invokevirtual 403, 3) := by decide +kernel
theorem dX14_trim_22 : decode cX14_trim 22 = .ok (.ireturn, 1) := by decide +kernel
theorem dX14_trim_23 : decode cX14_trim 23 = .ok (.aload_n 0, 1) := by decide +kernel
theorem dX14_trim_24 : decode cX14_trim 24 = .ok (.iload_n 1, 1) := by decide +kernel
theorem dX14_trim_25 : decode cX14_trim 25 = .ok (.putfield 57, 3) := by decide +kernel
theorem dX14_trim_28 : decode cX14_trim 28 = .ok (.iload_n 1, 1) := by decide +kernel
theorem dX14_trim_29 : decode cX14_trim 29 = .ok (.ireturn, 1) := by decide +kernel
theorem dX14_fill_0 : decode cX14_fill 0 = .ok (.iconst 0, 1) := by decide +kernel
theorem dX14_fill_1 : decode cX14_fill 1 = .ok (.istore_n 2, 1) := by decide +kernel
theorem dX14_fill_2 : decode cX14_fill 2 = .ok (.iload_n 2, 1) := by decide +kernel
theorem dX14_fill_3 : decode cX14_fill 3 = .ok (.aload_n 0, 1) := by decide +kernel
theorem dX14_fill_4 : decode cX14_fill 4 = .ok (.arraylength, 1) := by decide +kernel
theorem dX14_fill_5 : decode cX14_fill 5 = .ok (.if_icmp .ge 13, 3) := by decide +kernel
theorem dX14_fill_8 : decode cX14_fill 8 = .ok (.aload_n 0, 1) := by decide +kernel
theorem dX14_fill_9 : decode cX14_fill 9 = .ok (.iload_n 2, 1) := by decide +kernel
theorem dX14_fill_10 : decode cX14_fill 10 = .ok (.iload_n 1, 1) := by decide +kernel
theorem dX14_fill_11 : decode cX14_fill 11 = .ok (.iastore, 1) := by decide +kernel
theorem dX14_fill_12 : decode cX14_fill 12 = .ok (.iinc 2 1, 3) := by decide +kernel
theorem dX14_fill_15 : decode cX14_fill 15 = .ok (.goto (-13), 3) := by decide +kernel
theorem dX14_fill_18 : decode cX14_fill 18 = .ok (.return_, 1) := by decide +kernel
theorem dX14_teach_0 : decode cX14_teach 0 = .ok (.aload_n 0, 1) := by decide +kernel
theorem dX14_teach_1 : decode cX14_teach 1 = .ok (.iconst 0, 1) := by decide +kernel
theorem dX14_teach_2 : decode cX14_teach 2 = .ok (.putfield 40, 3) := by decide +kernel
theorem dX14_teach_5 : decode cX14_teach 5 = .ok (.aload_n 0, 1) := by decide +kernel
theorem dX14_teach_6 : decode cX14_teach 6 = .ok (.iconst (-1), 1) := by decide +kernel
theorem dX14_teach_7 : decode cX14_teach 7 = .ok (.putfield 13, 3) := by decide +kernel
theorem dX14_teach_10 : decode cX14_teach 10 = .ok (.new 17, 3) := by decide +kernel
theorem dX14_teach_13 : decode cX14_teach 13 = .ok (.dup, 1) := by decide +kernel
theorem dX14_teach_14 : decode cX14_teach 14 = .ok (.invokespecial 19, 3) := by decide +kernel
theorem dX14_teach_17 : decode cX14_teach 17 = .ok (.astore_n 1, 1) := by decide +kernel
theorem dX14_teach_18 : decode cX14_teach 18 = .ok (.aload_n 0, 1) := by decide +kernel
theorem dX14_teach_19 : decode cX14_teach 19 = .ok (.aload_n 1, 1) := by decide +kernel
theorem dX14_teach_20 : decode cX14_teach 20 = .ok (.invokevirtual 406, 3) := by decide +kernel
theorem dX14_teach_23 : decode cX14_teach 23 = .ok (.istore_n 2, 1) := by decide +kernel
theorem dX14_teach_24 : decode cX14_teach 24 = .ok (.aload_n 0, 1) := by decide +kernel
theorem dX14_teach_25 : decode cX14_teach 25 = .ok (.iconst 0, 1) := by decide +kernel
theorem dX14_teach_26 : decode cX14_teach 26 = .ok (.putfield 57, 3) := by decide +kernel
theorem dX14_teach_29 : decode cX14_teach 29 = .ok (.iload_n 2, 1) := by decide +kernel
theorem dX14_teach_30 : decode cX14_teach 30 = .ok (.ifCond .le 5, 3) := by decide +kernel
theorem dX14_teach_33 : decode cX14_teach 33 = .ok (.iload_n 2, 1) := by decide +kernel
theorem dX14_teach_34 : decode cX14_teach 34 = .ok (.ireturn, 1) := by decide +kernel
theorem dX14_teach_35 : decode cX14_teach 35 = .ok (.aload_n 0, 1) := by decide +kernel
theorem dX14_teach_36 : decode cX14_teach 36 = .ok (.aload_n 1, 1) := by decide +kernel
theorem dX14_teach_37 : decode cX14_teach 37 = .ok (.putfield 20, 3) := by decide +kernel
theorem dX14_teach_40 : decode cX14_teach 40 = .ok (.iconst 0, 1) := by decide +kernel
theorem dX14_teach_41 : decode cX14_teach 41 = .ok (.istore_n 3, 1) := by decide +kernel
theorem dX14_teach_42 : decode cX14_teach 42 = .ok (.iload_n 3, 1) := by decide +kernel
theorem dX14_teach_43 : decode cX14_teach 43 = .ok (.bipush 10, 2) := by decide +kernel
theorem dX14_teach_45 : decode cX14_teach 45 = .ok (.if_icmp .ge 42, 3) := by decide +kernel
theorem dX14_teach_48 : decode cX14_teach 48 = .ok (.aload_n 0, 1) := by decide +kernel
theorem dX14_teach_49 : decode cX14_teach 49 = .ok (.getfield 27, 3) := by decide +kernel
theorem dX14_teach_52 : decode cX14_teach 52 = .ok (.getfield 292, 3) := by decide +kernel
theorem dX14_teach_55 : decode cX14_teach 55 = .ok (.iload_n 3, 1) := by decide +kernel
theorem dX14_teach_56 : decode cX14_teach 56 = .ok (.bipush 100, 2) := by decide +kernel
theorem dX14_teach_58 : decode cX14_teach 58 = .ok (.aload_n 1, 1) := by decide +kernel
theorem dX14_teach_59 : decode cX14_teach 59 = .ok (.getfield 236, 3) := by decide +kernel
theorem dX14_teach_62 : decode cX14_teach 62 = .ok (.iload_n 3, 1) := by decide +kernel
theorem dX14_teach_63 : decode cX14_teach 63 = .ok (.iaload, 1) := by decide +kernel
theorem dX14_teach_64 : decode cX14_teach 64 = .ok (.imul, 1) := by decide +kernel
theorem dX14_teach_65 : decode cX14_teach 65 = .ok (.iastore, 1) := by decide +kernel
theorem dX14_teach_66 : decode cX14_teach 66 = .ok (.aload_n 0, 1) := by decide +kernel
theorem dX14_teach_67 : decode cX14_teach 67 = .ok (.getfield 27, 3) := by decide +kernel
theorem dX14_teach_70 : decode cX14_teach 70 = .ok (.getfield 283, 3) := by decide +kernel
theorem dX14_teach_73 : decode cX14_teach 73 = .ok (.iload_n 3, 1) := by decide +kernel
theorem dX14_teach_74 : decode cX14_teach 74 = .ok (.aload_n 1, 1) := by decide +kernel
theorem dX14_teach_75 : decode cX14_teach 75 = .ok (.getfield 202, 3) := by decide +kernel
theorem dX14_teach_78 : decode cX14_teach 78 = .ok (.iload_n 3, 1) := by decide +kernel
theorem dX14_teach_79 : decode cX14_teach 79 = .ok (.iaload, 1) := by decide +kernel
theorem dX14_teach_80 : decode cX14_teach 80 = .ok (.iastore, 1) := by decide +kernel
theorem dX14_teach_81 : decode cX14_teach 81 = .ok (.iinc 3 1, 3) := by decide +kernel
theorem dX14_teach_84 : decode cX14_teach 84 = .ok (.goto (-42), 3) := by decide +kernel
theorem dX14_teach_87 : decode cX14_teach 87 = .ok (.aload_n 1, 1) := by decide +kernel
theorem dX14_teach_88 : decode cX14_teach 88 = .ok (.getfield 230, 3) := by decide +kernel
theorem dX14_teach_91 : decode cX14_teach 91 = .ok (.iconst 0, 1) := by decide +kernel
theorem dX14_teach_92 : decode cX14_teach 92 = .ok (.aload_n 0, 1) := by decide +kernel
theorem dX14_teach_93 : decode cX14_teach 93 = .ok (.getfield 27, 3) := by decide +kernel
theorem dX14_teach_96 : decode cX14_teach 96 = .ok (.getfield 304, 3) := by decide +kernel
theorem dX14_teach_99 : decode cX14_teach 99 = .ok (.iconst 0, 1) := by decide +kernel
theorem dX14_teach_100 : decode cX14_teach 100 = .ok (.bipush 6, 2) := by decide +kernel
theorem dX14_teach_102 : decode cX14_teach 102 = .ok (.invokestatic 410, 3) := by decide +kernel
theorem dX14_teach_105 : decode cX14_teach 105 = .ok (.aload_n 0, 1) := by decide +kernel
theorem dX14_teach_106 : decode cX14_teach 106 = .ok (.getfield 27, 3) := by decide +kernel
theorem dX14_teach_109 : decode cX14_teach 109 = .ok (.getfield 295, 3) := by decide +kernel
theorem dX14_teach_112 : decode cX14_teach 112 = .ok (.iconst (-1), 1) := by decide +kernel
theorem dX14_teach_113 : decode cX14_teach 113 = .ok (.invokestatic 416, 3) := by decide +kernel
theorem dX14_teach_116 : decode cX14_teach 116 = .ok (.aload_n 0, 1) := by decide +kernel
theorem dX14_teach_117 : decode cX14_teach 117 = .ok (.getfield 27, 3) := by decide +kernel
theorem dX14_teach_120 : decode cX14_teach 120 = .ok (.getfield 298, 3) := by decide +kernel
theorem dX14_teach_123 : decode cX14_teach 123 = .ok (.iconst 0, 1) := by decide +kernel
theorem dX14_teach_124 : decode cX14_teach 124 = .ok (.invokestatic 416, 3) := by decide +kernel
theorem dX14_teach_127 : decode cX14_teach 127 = .ok (.aload_n 0, 1) := by decide +kernel
theorem dX14_teach_128 : decode cX14_teach 128 = .ok (.getfield 27, 3) := by decide +kernel
theorem dX14_teach_131 : decode cX14_teach 131 = .ok (.getfield 351, 3) := by decide +kernel
theorem dX14_teach_134 : decode cX14_teach 134 = .ok (.iconst 0, 1) := by decide +kernel
theorem dX14_teach_135 : decode cX14_teach 135 = .ok (.invokestatic 416, 3) := by decide +kernel
theorem dX14_teach_138 : decode cX14_teach 138 = .ok (.aload_n 0, 1) := by decide +kernel
theorem dX14_teach_139 : decode cX14_teach 139 = .ok (.getfield 27, 3) := by decide +kernel
theorem dX14_teach_142 : decode cX14_teach 142 = .ok (.getfield 357, 3) := by decide +kernel
theorem dX14_teach_145 : decode cX14_teach 145 = .ok (.iconst 0, 1) := by decide +kernel
theorem dX14_teach_146 : decode cX14_teach 146 = .ok (.invokestatic 416, 3) := by decide +kernel
theorem dX14_teach_149 : decode cX14_teach 149 = .ok (.aload_n 0, 1) := by decide +kernel
theorem dX14_teach_150 : decode cX14_teach 150 = .ok (.getfield 27, 3) := by decide +kernel
theorem dX14_teach_153 : decode cX14_teach 153 = .ok (.getfield 348, 3) := by decide +kernel
theorem dX14_teach_156 : decode cX14_teach 156 = .ok (.iconst 0, 1) := by decide +kernel
theorem dX14_teach_157 : decode cX14_teach 157 = .ok (.invokestatic 416, 3) := by decide +kernel
theorem dX14_teach_160 : decode cX14_teach 160 = .ok (.aload_n 0, 1) := by decide +kernel
theorem dX14_teach_161 : decode cX14_teach 161 = .ok (.getfield 27, 3) := by decide +kernel
theorem dX14_teach_164 : decode cX14_teach 164 = .ok (.getfield 379, 3) := by decide +kernel
theorem dX14_teach_167 : decode cX14_teach 167 = .ok (.iconst 0, 1) := by decide +kernel
theorem dX14_teach_168 : decode cX14_teach 168 = .ok (.invokestatic 416, 3) := by decide +kernel
theorem dX14_teach_171 : decode cX14_teach 171 = .ok (.aload_n 0, 1) := by decide +kernel
theorem dX14_teach_172 : decode cX14_teach 172 = .ok (.getfield 27, 3) := by decide +kernel
theorem dX14_teach_175 : decode cX14_teach 175 = .ok (.iconst 0, 1) := by decide +kernel
theorem dX14_teach_176 : decode cX14_teach 176 = .ok (.putfield 359, 3) := by decide +kernel
theorem dX14_teach_179 : decode cX14_teach 179 = .ok (.aload_n 0, 1) := by decide +kernel
theorem dX14_teach_180 : decode cX14_teach 180 = .ok (.getfield 27, 3) := by decide +kernel
theorem dX14_teach_183 : decode cX14_teach 183 = .ok (.iconst 0, 1) := by decide +kernel
theorem dX14_teach_184 : decode cX14_teach 184 = .ok (.putfield 354, 3) := by decide +kernel
theorem dX14_teach_187 : decode cX14_teach 187 = .ok (.aload_n 0, 1) := by decide +kernel
theorem dX14_teach_188 : decode cX14_teach 188 = .ok (.getfield 27, 3) := by decide +kernel
theorem dX14_teach_191 : decode cX14_teach 191 = .ok (.iconst 0, 1) := by decide +kernel
theorem dX14_teach_192 : decode cX14_teach 192 = .ok (.putfield 362, 3) := by decide +kernel
theorem dX14_teach_195 : decode cX14_teach 195 = .ok (.iconst 0, 1) := by decide +kernel
theorem dX14_teach_196 : decode cX14_teach 196 = .ok (.ireturn, 1) := by decide +kernel
theorem dX14_errorAt_0 : decode cX14_errorAt 0 = .ok (.aload_n 0, 1) := by decide +kernel
theorem dX14_errorAt_1 : decode cX14_errorAt 1 = .ok (.iconst 0, 1) := by decide +kernel
theorem dX14_errorAt_2 : decode cX14_errorAt 2 = .ok (.putfield 40, 3) := by decide +kernel
theorem dX14_errorAt_5 : decode cX14_errorAt 5 = .ok (.aload_n 0, 1) := by decide +kernel
theorem dX14_errorAt_6 : decode cX14_errorAt 6 = .ok (.getfield 13, 3) := by decide +kernel
theorem dX14_errorAt_9 : decode cX14_errorAt 9 = .ok (.ireturn, 1) := by decide +kernel
theorem dX14_count_0 : decode cX14_count 0 = .ok (.aload_n 0, 1) := by decide +kernel
theorem dX14_count_1 : decode cX14_count 1 = .ok (.iconst 0, 1) := by decide +kernel
theorem dX14_count_2 : decode cX14_count 2 = .ok (.putfield 40, 3) := by decide +kernel
theorem dX14_count_5 : decode cX14_count 5 = .ok (.iload_n 1, 1) := by decide +kernel
theorem dX14_count_6 : decode cX14_count 6 = .ok (.iconst 0, 1) := by decide +kernel
theorem dX14_count_7 : decode cX14_count 7 = .ok (.bipush 13, 2) := by decide +kernel
theorem dX14_count_9 : decode cX14_count 9 = .ok (.invokestatic 46, 3) := by decide +kernel
theorem dX14_count_12 : decode cX14_count 12 = .ok (.ifCond .eq 15, 3) := by decide +kernel
theorem dX14_count_15 : decode cX14_count 15 = .ok (.aload_n 0, 1) := by decide +kernel
theorem dX14_count_16 : decode cX14_count 16 = .ok (.aload_n 0, 1) := by decide +kernel
theorem dX14_count_17 : decode cX14_count 17 = .ok (.getfield 27, 3) := by decide +kernel
theorem dX14_count_20 : decode cX14_count 20 = .ok (.iload_n 1, 1) := by decide +kernel
theorem dX14_count_21 : decode cX14_count 21 = .ok (.invokevirtual 420, 3) := by decide +kernel
theorem dX14_count_24 : decode cX14_count 24 = .ok (.goto 8, 3) := by decide +kernel
theorem dX14_count_27 : decode cX14_count 27 = .ok (.aload_n 0, 1) := by decide +kernel
theorem dX14_count_28 : decode cX14_count 28 = .ok (.iconst 1, 1) := by decide +kernel
theorem dX14_count_29 : decode cX14_count 29 = .ok (.invokevirtual 403, 3) := by decide +kernel
theorem dX14_count_32 : decode cX14_count 32 = .ok (.ireturn, 1) := by decide +kernel
theorem dX14_lotTold_0 : decode cX14_lotTold 0 = .ok (.iload_n 2, 1) := by decide +kernel
theorem dX14_lotTold_1 : decode cX14_lotTold 1 = .ok (.tableswitch 115 0 5 #[39, 49, 59, 69, 79, 106], 39) := by decide +kernel
theorem dX14_lotTold_40 : decode cX14_lotTold 40 = .ok (.aload_n 0, 1) := by decide +kernel
theorem dX14_lotTold_41 : decode cX14_lotTold 41 = .ok (.getfield 20, 3) := by decide +kernel
theorem dX14_lotTold_44 : decode cX14_lotTold 44 = .ok (.getfield 199, 3) := by decide +kernel
theorem dX14_lotTold_47 : decode cX14_lotTold 47 = .ok (.iload_n 1, 1) := by decide +kernel
theorem dX14_lotTold_48 : decode cX14_lotTold 48 = .ok (.iaload, 1) := by decide +kernel
theorem dX14_lotTold_49 : decode cX14_lotTold 49 = .ok (.ireturn, 1) := by decide +kernel
theorem dX14_lotTold_50 : decode cX14_lotTold 50 = .ok (.aload_n 0, 1) := by decide +kernel
theorem dX14_lotTold_51 : decode cX14_lotTold 51 = .ok (.getfield 27, 3) := by decide +kernel
theorem dX14_lotTold_54 : decode cX14_lotTold 54 = .ok (.getfield 292, 3) := by decide +kernel
theorem dX14_lotTold_57 : decode cX14_lotTold 57 = .ok (.iload_n 1, 1) := by decide +kernel
theorem dX14_lotTold_58 : decode cX14_lotTold 58 = .ok (.iaload, 1) := by decide +kernel
theorem dX14_lotTold_59 : decode cX14_lotTold 59 = .ok (.ireturn, 1) := by decide +kernel
theorem dX14_lotTold_60 : decode cX14_lotTold 60 = .ok (.aload_n 0, 1) := by decide +kernel
theorem dX14_lotTold_61 : decode cX14_lotTold 61 = .ok (.getfield 27, 3) := by decide +kernel
theorem dX14_lotTold_64 : decode cX14_lotTold 64 = .ok (.getfield 283, 3) := by decide +kernel
theorem dX14_lotTold_67 : decode cX14_lotTold 67 = .ok (.iload_n 1, 1) := by decide +kernel
theorem dX14_lotTold_68 : decode cX14_lotTold 68 = .ok (.iaload, 1) := by decide +kernel
theorem dX14_lotTold_69 : decode cX14_lotTold 69 = .ok (.ireturn, 1) := by decide +kernel
theorem dX14_lotTold_70 : decode cX14_lotTold 70 = .ok (.aload_n 0, 1) := by decide +kernel
theorem dX14_lotTold_71 : decode cX14_lotTold 71 = .ok (.getfield 27, 3) := by decide +kernel
theorem dX14_lotTold_74 : decode cX14_lotTold 74 = .ok (.getfield 295, 3) := by decide +kernel
theorem dX14_lotTold_77 : decode cX14_lotTold 77 = .ok (.iload_n 1, 1) := by decide +kernel
theorem dX14_lotTold_78 : decode cX14_lotTold 78 = .ok (.iaload, 1) := by decide +kernel
theorem dX14_lotTold_79 : decode cX14_lotTold 79 = .ok (.ireturn, 1) := by decide +kernel
theorem dX14_lotTold_80 : decode cX14_lotTold 80 = .ok (.aload_n 0, 1) := by decide +kernel
theorem dX14_lotTold_81 : decode cX14_lotTold 81 = .ok (.getfield 27, 3) := by decide +kernel
theorem dX14_lotTold_84 : decode cX14_lotTold 84 = .ok (.getfield 295, 3) := by decide +kernel
theorem dX14_lotTold_87 : decode cX14_lotTold 87 = .ok (.iload_n 1, 1) := by decide +kernel
theorem dX14_lotTold_88 : decode cX14_lotTold 88 = .ok (.iaload, 1) := by decide +kernel
theorem dX14_lotTold_89 : decode cX14_lotTold 89 = .ok (.iconst (-1), 1) := by decide +kernel
theorem dX14_lotTold_90 : decode cX14_lotTold 90 = .ok (.if_icmp .ne 7, 3) := by decide +kernel
theorem dX14_lotTold_93 : decode cX14_lotTold 93 = .ok (.iconst 0, 1) := by decide +kernel
theorem dX14_lotTold_94 : decode cX14_lotTold 94 = .ok (.goto 12, 3) := by decide +kernel
theorem dX14_lotTold_97 : decode cX14_lotTold 97 = .ok (.aload_n 0, 1) := by decide +kernel
theorem dX14_lotTold_98 : decode cX14_lotTold 98 = .ok (.getfield 27, 3) := by decide +kernel
theorem dX14_lotTold_101 : decode cX14_lotTold 101 = .ok (.getfield 298, 3) := by decide +kernel
theorem dX14_lotTold_104 : decode cX14_lotTold 104 = .ok (.iload_n 1, 1) := by decide +kernel
theorem dX14_lotTold_105 : decode cX14_lotTold 105 = .ok (.iaload, 1) := by decide +kernel
theorem dX14_lotTold_106 : decode cX14_lotTold 106 = .ok (.ireturn, 1) := by decide +kernel
theorem dX14_lotTold_107 : decode cX14_lotTold 107 = .ok (.aload_n 0, 1) := by decide +kernel
theorem dX14_lotTold_108 : decode cX14_lotTold 108 = .ok (.getfield 27, 3) := by decide +kernel
theorem dX14_lotTold_111 : decode cX14_lotTold 111 = .ok (.iload_n 1, 1) := by decide +kernel
theorem dX14_lotTold_112 : decode cX14_lotTold 112 = .ok (.invokevirtual 301, 3) := by decide +kernel
theorem dX14_lotTold_115 : decode cX14_lotTold 115 = .ok (.ireturn, 1) := by decide +kernel
theorem dX14_lotTold_116 : decode cX14_lotTold 116 = .ok (.aload_n 0, 1) := by decide +kernel
theorem dX14_lotTold_117 : decode cX14_lotTold 117 = .ok (.getfield 27, 3) := by decide +kernel
theorem dX14_lotTold_120 : decode cX14_lotTold 120 = .ok (.iload_n 1, 1) := by decide +kernel
theorem dX14_lotTold_121 : decode cX14_lotTold 121 = .ok (.invokevirtual 332, 3) := by decide +kernel
theorem dX14_lotTold_124 : decode cX14_lotTold 124 = .ok (.ifCond .eq 7, 3) := by decide +kernel
theorem dX14_lotTold_127 : decode cX14_lotTold 127 = .ok (.iconst 1, 1) := by decide +kernel
theorem dX14_lotTold_128 : decode cX14_lotTold 128 = .ok (.goto 4, 3) := by decide +kernel
theorem dX14_lotTold_131 : decode cX14_lotTold 131 = .ok (.iconst 0, 1) := by decide +kernel
theorem dX14_lotTold_132 : decode cX14_lotTold 132 = .ok (.ireturn, 1) := by decide +kernel
theorem dX14_lot_0 : decode cX14_lot 0 = .ok (.aload_n 0, 1) := by decide +kernel
theorem dX14_lot_1 : decode cX14_lot 1 = .ok (.iconst 0, 1) := by decide +kernel
theorem dX14_lot_2 : decode cX14_lot 2 = .ok (.putfield 40, 3) := by decide +kernel
theorem dX14_lot_5 : decode cX14_lot 5 = .ok (.aload_n 0, 1) := by decide +kernel
theorem dX14_lot_6 : decode cX14_lot 6 = .ok (.iload_n 1, 1) := by decide +kernel
theorem dX14_lot_7 : decode cX14_lot 7 = .ok (.invokevirtual 423, 3) := by decide +kernel
theorem dX14_lot_10 : decode cX14_lot 10 = .ok (.ifCond .eq 22, 3) := by decide +kernel
theorem dX14_lot_13 : decode cX14_lot 13 = .ok (.iload_n 2, 1) := by decide +kernel
theorem dX14_lot_14 : decode cX14_lot 14 = .ok (.iconst 0, 1) := by decide +kernel
theorem dX14_lot_15 : decode cX14_lot 15 = .ok (.bipush 6, 2) := by decide +kernel
theorem dX14_lot_17 : decode cX14_lot 17 = .ok (.invokestatic 46, 3) := by decide +kernel
theorem dX14_lot_20 : decode cX14_lot 20 = .ok (.ifCond .eq 12, 3) := by decide +kernel
theorem dX14_lot_23 : decode cX14_lot 23 = .ok (.aload_n 0, 1) := by decide +kernel
theorem dX14_lot_24 : decode cX14_lot 24 = .ok (.iload_n 1, 1) := by decide +kernel
theorem dX14_lot_25 : decode cX14_lot 25 = .ok (.iload_n 2, 1) := by decide +kernel
theorem dX14_lot_26 : decode cX14_lot 26 = .ok (.invokevirtual 426, 3) := by decide +kernel
theorem dX14_lot_29 : decode cX14_lot 29 = .ok (.goto 8, 3) := by decide +kernel
theorem dX14_lot_32 : decode cX14_lot 32 = .ok (.aload_n 0, 1) := by decide +kernel
theorem dX14_lot_33 : decode cX14_lot 33 = .ok (.iconst 1, 1) := by decide +kernel
theorem dX14_lot_34 : decode cX14_lot 34 = .ok (.invokevirtual 403, 3) := by decide +kernel
theorem dX14_lot_37 : decode cX14_lot 37 = .ok (.ireturn, 1) := by decide +kernel
theorem dX14_lotsOf_0 : decode cX14_lotsOf 0 = .ok (.iconst 0, 1) := by decide +kernel
theorem dX14_lotsOf_1 : decode cX14_lotsOf 1 = .ok (.istore_n 3, 1) := by decide +kernel
theorem dX14_lotsOf_2 : decode cX14_lotsOf 2 = .ok (.iconst 0, 1) := by decide +kernel
theorem dX14_lotsOf_3 : decode cX14_lotsOf 3 = .ok (.istore 4, 2) := by decide +kernel
theorem dX14_lotsOf_5 : decode cX14_lotsOf 5 = .ok (.iload 4, 2) := by decide +kernel
theorem dX14_lotsOf_7 : decode cX14_lotsOf 7 = .ok (.aload_n 0, 1) := by decide +kernel
theorem dX14_lotsOf_8 : decode cX14_lotsOf 8 = .ok (.getfield 20, 3) := by decide +kernel
theorem dX14_lotsOf_11 : decode cX14_lotsOf 11 = .ok (.getfield 54, 3) := by decide +kernel
theorem dX14_lotsOf_14 : decode cX14_lotsOf 14 = .ok (.if_icmp .ge 48, 3) := by decide +kernel
theorem dX14_lotsOf_17 : decode cX14_lotsOf 17 = .ok (.iload_n 3, 1) := by decide +kernel
theorem dX14_lotsOf_18 : decode cX14_lotsOf 18 = .ok (.aload_n 0, 1) := by decide +kernel
theorem dX14_lotsOf_19 : decode cX14_lotsOf 19 = .ok (.getfield 27, 3) := by decide +kernel
theorem dX14_lotsOf_22 : decode cX14_lotsOf 22 = .ok (.getfield 283, 3) := by decide +kernel
theorem dX14_lotsOf_25 : decode cX14_lotsOf 25 = .ok (.iload 4, 2) := by decide +kernel
theorem dX14_lotsOf_27 : decode cX14_lotsOf 27 = .ok (.iaload, 1) := by decide +kernel
theorem dX14_lotsOf_28 : decode cX14_lotsOf 28 = .ok (.iload_n 1, 1) := by decide +kernel
theorem dX14_lotsOf_29 : decode cX14_lotsOf 29 = .ok (.if_icmp .eq 7, 3) := by decide +kernel
theorem dX14_lotsOf_32 : decode cX14_lotsOf 32 = .ok (.iconst 0, 1) := by decide +kernel
theorem dX14_lotsOf_33 : decode cX14_lotsOf 33 = .ok (.goto 21, 3) := by decide +kernel
theorem dX14_lotsOf_36 : decode cX14_lotsOf 36 = .ok (.iload_n 2, 1) := by decide +kernel
theorem dX14_lotsOf_37 : decode cX14_lotsOf 37 = .ok (.ifCond .eq 16, 3) := by decide +kernel
theorem dX14_lotsOf_40 : decode cX14_lotsOf 40 = .ok (.aload_n 0, 1) := by decide +kernel
theorem dX14_lotsOf_41 : decode cX14_lotsOf 41 = .ok (.getfield 27, 3) := by decide +kernel
theorem dX14_lotsOf_44 : decode cX14_lotsOf 44 = .ok (.getfield 292, 3) := by decide +kernel
theorem dX14_lotsOf_47 : decode cX14_lotsOf 47 = .ok (.iload 4, 2) := by decide +kernel
theorem dX14_lotsOf_49 : decode cX14_lotsOf 49 = .ok (.iaload, 1) := by decide +kernel
theorem dX14_lotsOf_50 : decode cX14_lotsOf 50 = .ok (.goto 4, 3) := by decide +kernel
theorem dX14_lotsOf_53 : decode cX14_lotsOf 53 = .ok (.iconst 1, 1) := by decide +kernel
theorem dX14_lotsOf_54 : decode cX14_lotsOf 54 = .ok (.iadd, 1) := by decide +kernel
theorem dX14_lotsOf_55 : decode cX14_lotsOf 55 = .ok (.istore_n 3, 1) := by decide +kernel
theorem dX14_lotsOf_56 : decode cX14_lotsOf 56 = .ok (.iinc 4 1, 3) := by decide +kernel
theorem dX14_lotsOf_59 : decode cX14_lotsOf 59 = .ok (.goto (-54), 3) := by decide +kernel
theorem dX14_lotsOf_62 : decode cX14_lotsOf 62 = .ok (.iload_n 3, 1) := by decide +kernel
theorem dX14_lotsOf_63 : decode cX14_lotsOf 63 = .ok (.ireturn, 1) := by decide +kernel
theorem dX14_merchantTold_0 : decode cX14_merchantTold 0 = .ok (.iload_n 2, 1) := by decide +kernel
theorem dX14_merchantTold_1 : decode cX14_merchantTold 1 = .ok (.tableswitch 69 0 3 #[31, 41, 51, 60], 31) := by decide +kernel
theorem dX14_merchantTold_32 : decode cX14_merchantTold 32 = .ok (.aload_n 0, 1) := by decide +kernel
theorem dX14_merchantTold_33 : decode cX14_merchantTold 33 = .ok (.getfield 27, 3) := by decide +kernel
theorem dX14_merchantTold_36 : decode cX14_merchantTold 36 = .ok (.getfield 304, 3) := by decide +kernel
theorem dX14_merchantTold_39 : decode cX14_merchantTold 39 = .ok (.iload_n 1, 1) := by decide +kernel
theorem dX14_merchantTold_40 : decode cX14_merchantTold 40 = .ok (.iaload, 1) := by decide +kernel
theorem dX14_merchantTold_41 : decode cX14_merchantTold 41 = .ok (.ireturn, 1) := by decide +kernel
theorem dX14_merchantTold_42 : decode cX14_merchantTold 42 = .ok (.aload_n 0, 1) := by decide +kernel
theorem dX14_merchantTold_43 : decode cX14_merchantTold 43 = .ok (.getfield 20, 3) := by decide +kernel
theorem dX14_merchantTold_46 : decode cX14_merchantTold 46 = .ok (.getfield 233, 3) := by decide +kernel
theorem dX14_merchantTold_49 : decode cX14_merchantTold 49 = .ok (.iload_n 1, 1) := by decide +kernel
theorem dX14_merchantTold_50 : decode cX14_merchantTold 50 = .ok (.iaload, 1) := by decide +kernel
theorem dX14_merchantTold_51 : decode cX14_merchantTold 51 = .ok (.ireturn, 1) := by decide +kernel
theorem dX14_merchantTold_52 : decode cX14_merchantTold 52 = .ok (.aload_n 0, 1) := by decide +kernel
theorem dX14_merchantTold_53 : decode cX14_merchantTold 53 = .ok (.getfield 27, 3) := by decide +kernel
theorem dX14_merchantTold_56 : decode cX14_merchantTold 56 = .ok (.iload_n 1, 1) := by decide +kernel
theorem dX14_merchantTold_57 : decode cX14_merchantTold 57 = .ok (.invokevirtual 305, 3) := by decide +kernel
theorem dX14_merchantTold_60 : decode cX14_merchantTold 60 = .ok (.ireturn, 1) := by decide +kernel
theorem dX14_merchantTold_61 : decode cX14_merchantTold 61 = .ok (.aload_n 0, 1) := by decide +kernel
theorem dX14_merchantTold_62 : decode cX14_merchantTold 62 = .ok (.getfield 27, 3) := by decide +kernel
theorem dX14_merchantTold_65 : decode cX14_merchantTold 65 = .ok (.iload_n 1, 1) := by decide +kernel
theorem dX14_merchantTold_66 : decode cX14_merchantTold 66 = .ok (.invokevirtual 429, 3) := by decide +kernel
theorem dX14_merchantTold_69 : decode cX14_merchantTold 69 = .ok (.ireturn, 1) := by decide +kernel
theorem dX14_merchantTold_70 : decode cX14_merchantTold 70 = .ok (.aload_n 0, 1) := by decide +kernel
theorem dX14_merchantTold_71 : decode cX14_merchantTold 71 = .ok (.iload_n 1, 1) := by decide +kernel
theorem dX14_merchantTold_72 : decode cX14_merchantTold 72 = .ok (.iload_n 2, 1) := by decide +kernel
theorem dX14_merchantTold_73 : decode cX14_merchantTold 73 = .ok (.iconst 5, 1) := by decide +kernel
theorem dX14_merchantTold_74 : decode cX14_merchantTold 74 = .ok (.if_icmp .ne 7, 3) := by decide +kernel
theorem dX14_merchantTold_77 : decode cX14_merchantTold 77 = .ok (.iconst 1, 1) := by decide +kernel
theorem dX14_merchantTold_78 : decode cX14_merchantTold 78 = .ok (.goto 4, 3) := by decide +kernel
theorem dX14_merchantTold_81 : decode cX14_merchantTold 81 = .ok (.iconst 0, 1) := by decide +kernel
theorem dX14_merchantTold_82 : decode cX14_merchantTold 82 = .ok (.invokevirtual 432, 3) := by decide +kernel
theorem dX14_merchantTold_85 : decode cX14_merchantTold 85 = .ok (.ireturn, 1) := by decide +kernel
theorem dX14_merchant_0 : decode cX14_merchant 0 = .ok (.aload_n 0, 1) := by decide +kernel
theorem dX14_merchant_1 : decode cX14_merchant 1 = .ok (.iconst 0, 1) := by decide +kernel
theorem dX14_merchant_2 : decode cX14_merchant 2 = .ok (.putfield 40, 3) := by decide +kernel
theorem dX14_merchant_5 : decode cX14_merchant 5 = .ok (.aload_n 0, 1) := by decide +kernel
theorem dX14_merchant_6 : decode cX14_merchant 6 = .ok (.iload_n 1, 1) := by decide +kernel
theorem dX14_merchant_7 : decode cX14_merchant 7 = .ok (.invokevirtual 50, 3) := by decide +kernel
theorem dX14_merchant_10 : decode cX14_merchant 10 = .ok (.ifCond .eq 21, 3) := by decide +kernel
theorem dX14_merchant_13 : decode cX14_merchant 13 = .ok (.iload_n 2, 1) := by decide +kernel
theorem dX14_merchant_14 : decode cX14_merchant 14 = .ok (.iconst 0, 1) := by decide +kernel
theorem dX14_merchant_15 : decode cX14_merchant 15 = .ok (.iconst 5, 1) := by decide +kernel
theorem dX14_merchant_16 : decode cX14_merchant 16 = .ok (.invokestatic 46, 3) := by decide +kernel
theorem dX14_merchant_19 : decode cX14_merchant 19 = .ok (.ifCond .eq 12, 3) := by decide +kernel
theorem dX14_merchant_22 : decode cX14_merchant 22 = .ok (.aload_n 0, 1) := by decide +kernel
theorem dX14_merchant_23 : decode cX14_merchant 23 = .ok (.iload_n 1, 1) := by decide +kernel
theorem dX14_merchant_24 : decode cX14_merchant 24 = .ok (.iload_n 2, 1) := by decide +kernel
theorem dX14_merchant_25 : decode cX14_merchant 25 = .ok (.invokevirtual 436, 3) := by decide +kernel
theorem dX14_merchant_28 : decode cX14_merchant 28 = .ok (.goto 8, 3) := by decide +kernel
theorem dX14_merchant_31 : decode cX14_merchant 31 = .ok (.aload_n 0, 1) := by decide +kernel
theorem dX14_merchant_32 : decode cX14_merchant 32 = .ok (.iconst 1, 1) := by decide +kernel
theorem dX14_merchant_33 : decode cX14_merchant 33 = .ok (.invokevirtual 403, 3) := by decide +kernel
theorem dX14_merchant_36 : decode cX14_merchant 36 = .ok (.ireturn, 1) := by decide +kernel
theorem dX14_guildTold_0 : decode cX14_guildTold 0 = .ok (.iconst 0, 1) := by decide +kernel
theorem dX14_guildTold_1 : decode cX14_guildTold 1 = .ok (.istore_n 3, 1) := by decide +kernel
theorem dX14_guildTold_2 : decode cX14_guildTold 2 = .ok (.iload_n 2, 1) := by decide +kernel
theorem dX14_guildTold_3 : decode cX14_guildTold 3 = .ok (.tableswitch 55 0 2 #[25, 35, 45], 25) := by decide +kernel
theorem dX14_guildTold_28 : decode cX14_guildTold 28 = .ok (.aload_n 0, 1) := by decide +kernel
theorem dX14_guildTold_29 : decode cX14_guildTold 29 = .ok (.getfield 20, 3) := by decide +kernel
theorem dX14_guildTold_32 : decode cX14_guildTold 32 = .ok (.getfield 224, 3) := by decide +kernel
theorem dX14_guildTold_35 : decode cX14_guildTold 35 = .ok (.iload_n 1, 1) := by decide +kernel
theorem dX14_guildTold_36 : decode cX14_guildTold 36 = .ok (.iaload, 1) := by decide +kernel
theorem dX14_guildTold_37 : decode cX14_guildTold 37 = .ok (.ireturn, 1) := by decide +kernel
theorem dX14_guildTold_38 : decode cX14_guildTold 38 = .ok (.aload_n 0, 1) := by decide +kernel
theorem dX14_guildTold_39 : decode cX14_guildTold 39 = .ok (.getfield 20, 3) := by decide +kernel
theorem dX14_guildTold_42 : decode cX14_guildTold 42 = .ok (.getfield 227, 3) := by decide +kernel
theorem dX14_guildTold_45 : decode cX14_guildTold 45 = .ok (.iload_n 1, 1) := by decide +kernel
theorem dX14_guildTold_46 : decode cX14_guildTold 46 = .ok (.iaload, 1) := by decide +kernel
theorem dX14_guildTold_47 : decode cX14_guildTold 47 = .ok (.ireturn, 1) := by decide +kernel
theorem dX14_guildTold_48 : decode cX14_guildTold 48 = .ok (.aload_n 0, 1) := by decide +kernel
theorem dX14_guildTold_49 : decode cX14_guildTold 49 = .ok (.getfield 27, 3) := by decide +kernel
theorem dX14_guildTold_52 : decode cX14_guildTold 52 = .ok (.getfield 348, 3) := by decide +kernel
theorem dX14_guildTold_55 : decode cX14_guildTold 55 = .ok (.iload_n 1, 1) := by decide +kernel
theorem dX14_guildTold_56 : decode cX14_guildTold 56 = .ok (.iaload, 1) := by decide +kernel
theorem dX14_guildTold_57 : decode cX14_guildTold 57 = .ok (.ireturn, 1) := by decide +kernel
theorem dX14_guildTold_58 : decode cX14_guildTold 58 = .ok (.iconst 0, 1) := by decide +kernel
theorem dX14_guildTold_59 : decode cX14_guildTold 59 = .ok (.istore 4, 2) := by decide +kernel
theorem dX14_guildTold_61 : decode cX14_guildTold 61 = .ok (.iload 4, 2) := by decide +kernel
theorem dX14_guildTold_63 : decode cX14_guildTold 63 = .ok (.aload_n 0, 1) := by decide +kernel
theorem dX14_guildTold_64 : decode cX14_guildTold 64 = .ok (.getfield 20, 3) := by decide +kernel
theorem dX14_guildTold_67 : decode cX14_guildTold 67 = .ok (.getfield 54, 3) := by decide +kernel
theorem dX14_guildTold_70 : decode cX14_guildTold 70 = .ok (.if_icmp .ge 31, 3) := by decide +kernel
theorem dX14_guildTold_73 : decode cX14_guildTold 73 = .ok (.iload_n 3, 1) := by decide +kernel
theorem dX14_guildTold_74 : decode cX14_guildTold 74 = .ok (.aload_n 0, 1) := by decide +kernel
theorem dX14_guildTold_75 : decode cX14_guildTold 75 = .ok (.getfield 27, 3) := by decide +kernel
theorem dX14_guildTold_78 : decode cX14_guildTold 78 = .ok (.getfield 295, 3) := by decide +kernel
theorem dX14_guildTold_81 : decode cX14_guildTold 81 = .ok (.iload 4, 2) := by decide +kernel
theorem dX14_guildTold_83 : decode cX14_guildTold 83 = .ok (.iaload, 1) := by decide +kernel
theorem dX14_guildTold_84 : decode cX14_guildTold 84 = .ok (.iload_n 1, 1) := by decide +kernel
theorem dX14_guildTold_85 : decode cX14_guildTold 85 = .ok (.if_icmp .ne 7, 3) := by decide +kernel
theorem dX14_guildTold_88 : decode cX14_guildTold 88 = .ok (.iconst 1, 1) := by decide +kernel
theorem dX14_guildTold_89 : decode cX14_guildTold 89 = .ok (.goto 4, 3) := by decide +kernel
theorem dX14_guildTold_92 : decode cX14_guildTold 92 = .ok (.iconst 0, 1) := by decide +kernel
theorem dX14_guildTold_93 : decode cX14_guildTold 93 = .ok (.iadd, 1) := by decide +kernel
theorem dX14_guildTold_94 : decode cX14_guildTold 94 = .ok (.istore_n 3, 1) := by decide +kernel
theorem dX14_guildTold_95 : decode cX14_guildTold 95 = .ok (.iinc 4 1, 3) := by decide +kernel
theorem dX14_guildTold_98 : decode cX14_guildTold 98 = .ok (.goto (-37), 3) := by decide +kernel
theorem dX14_guildTold_101 : decode cX14_guildTold 101 = .ok (.iload_n 3, 1) := by decide +kernel
theorem dX14_guildTold_102 : decode cX14_guildTold 102 = .ok (.ireturn, 1) := by decide +kernel
theorem dX14_guild_0 : decode cX14_guild 0 = .ok (.aload_n 0, 1) := by decide +kernel
theorem dX14_guild_1 : decode cX14_guild 1 = .ok (.iconst 0, 1) := by decide +kernel
theorem dX14_guild_2 : decode cX14_guild 2 = .ok (.putfield 40, 3) := by decide +kernel
theorem dX14_guild_5 : decode cX14_guild 5 = .ok (.iload_n 1, 1) := by decide +kernel
theorem dX14_guild_6 : decode cX14_guild 6 = .ok (.iconst 0, 1) := by decide +kernel
theorem dX14_guild_7 : decode cX14_guild 7 = .ok (.aload_n 0, 1) := by decide +kernel
theorem dX14_guild_8 : decode cX14_guild 8 = .ok (.getfield 20, 3) := by decide +kernel
theorem dX14_guild_11 : decode cX14_guild 11 = .ok (.getfield 174, 3) := by decide +kernel
theorem dX14_guild_14 : decode cX14_guild 14 = .ok (.iconst 1, 1) := by decide +kernel
theorem dX14_guild_15 : decode cX14_guild 15 = .ok (.isub, 1) := by decide +kernel
theorem dX14_guild_16 : decode cX14_guild 16 = .ok (.invokestatic 46, 3) := by decide +kernel
theorem dX14_guild_19 : decode cX14_guild 19 = .ok (.ifCond .eq 21, 3) := by decide +kernel
theorem dX14_guild_22 : decode cX14_guild 22 = .ok (.iload_n 2, 1) := by decide +kernel
theorem dX14_guild_23 : decode cX14_guild 23 = .ok (.iconst 0, 1) := by decide +kernel
theorem dX14_guild_24 : decode cX14_guild 24 = .ok (.iconst 3, 1) := by decide +kernel
theorem dX14_guild_25 : decode cX14_guild 25 = .ok (.invokestatic 46, 3) := by decide +kernel
theorem dX14_guild_28 : decode cX14_guild 28 = .ok (.ifCond .eq 12, 3) := by decide +kernel
theorem dX14_guild_31 : decode cX14_guild 31 = .ok (.aload_n 0, 1) := by decide +kernel
theorem dX14_guild_32 : decode cX14_guild 32 = .ok (.iload_n 1, 1) := by decide +kernel
theorem dX14_guild_33 : decode cX14_guild 33 = .ok (.iload_n 2, 1) := by decide +kernel
theorem dX14_guild_34 : decode cX14_guild 34 = .ok (.invokevirtual 439, 3) := by decide +kernel
theorem dX14_guild_37 : decode cX14_guild 37 = .ok (.goto 8, 3) := by decide +kernel
theorem dX14_guild_40 : decode cX14_guild 40 = .ok (.aload_n 0, 1) := by decide +kernel
theorem dX14_guild_41 : decode cX14_guild 41 = .ok (.iconst 1, 1) := by decide +kernel
theorem dX14_guild_42 : decode cX14_guild 42 = .ok (.invokevirtual 403, 3) := by decide +kernel
theorem dX14_guild_45 : decode cX14_guild 45 = .ok (.ireturn, 1) := by decide +kernel
theorem dX14_orderTold_0 : decode cX14_orderTold 0 = .ok (.iload_n 2, 1) := by decide +kernel
theorem dX14_orderTold_1 : decode cX14_orderTold 1 = .ok (.tableswitch 79 0 3 #[31, 41, 51, 61], 31) := by decide +kernel
theorem dX14_orderTold_32 : decode cX14_orderTold 32 = .ok (.aload_n 0, 1) := by decide +kernel
theorem dX14_orderTold_33 : decode cX14_orderTold 33 = .ok (.getfield 20, 3) := by decide +kernel
theorem dX14_orderTold_36 : decode cX14_orderTold 36 = .ok (.getfield 239, 3) := by decide +kernel
theorem dX14_orderTold_39 : decode cX14_orderTold 39 = .ok (.iload_n 1, 1) := by decide +kernel
theorem dX14_orderTold_40 : decode cX14_orderTold 40 = .ok (.iaload, 1) := by decide +kernel
theorem dX14_orderTold_41 : decode cX14_orderTold 41 = .ok (.ireturn, 1) := by decide +kernel
theorem dX14_orderTold_42 : decode cX14_orderTold 42 = .ok (.aload_n 0, 1) := by decide +kernel
theorem dX14_orderTold_43 : decode cX14_orderTold 43 = .ok (.getfield 20, 3) := by decide +kernel
theorem dX14_orderTold_46 : decode cX14_orderTold 46 = .ok (.getfield 205, 3) := by decide +kernel
theorem dX14_orderTold_49 : decode cX14_orderTold 49 = .ok (.iload_n 1, 1) := by decide +kernel
theorem dX14_orderTold_50 : decode cX14_orderTold 50 = .ok (.iaload, 1) := by decide +kernel
theorem dX14_orderTold_51 : decode cX14_orderTold 51 = .ok (.ireturn, 1) := by decide +kernel
theorem dX14_orderTold_52 : decode cX14_orderTold 52 = .ok (.aload_n 0, 1) := by decide +kernel
theorem dX14_orderTold_53 : decode cX14_orderTold 53 = .ok (.getfield 20, 3) := by decide +kernel
theorem dX14_orderTold_56 : decode cX14_orderTold 56 = .ok (.getfield 211, 3) := by decide +kernel
theorem dX14_orderTold_59 : decode cX14_orderTold 59 = .ok (.iload_n 1, 1) := by decide +kernel
theorem dX14_orderTold_60 : decode cX14_orderTold 60 = .ok (.iaload, 1) := by decide +kernel
theorem dX14_orderTold_61 : decode cX14_orderTold 61 = .ok (.ireturn, 1) := by decide +kernel
theorem dX14_orderTold_62 : decode cX14_orderTold 62 = .ok (.aload_n 0, 1) := by decide +kernel
theorem dX14_orderTold_63 : decode cX14_orderTold 63 = .ok (.aload_n 0, 1) := by decide +kernel
theorem dX14_orderTold_64 : decode cX14_orderTold 64 = .ok (.getfield 27, 3) := by decide +kernel
theorem dX14_orderTold_67 : decode cX14_orderTold 67 = .ok (.iload_n 1, 1) := by decide +kernel
theorem dX14_orderTold_68 : decode cX14_orderTold 68 = .ok (.invokevirtual 365, 3) := by decide +kernel
theorem dX14_orderTold_71 : decode cX14_orderTold 71 = .ok (.ifCond .eq 7, 3) := by decide +kernel
theorem dX14_orderTold_74 : decode cX14_orderTold 74 = .ok (.iconst 1, 1) := by decide +kernel
theorem dX14_orderTold_75 : decode cX14_orderTold 75 = .ok (.goto 4, 3) := by decide +kernel
theorem dX14_orderTold_78 : decode cX14_orderTold 78 = .ok (.iconst 0, 1) := by decide +kernel
theorem dX14_orderTold_79 : decode cX14_orderTold 79 = .ok (.ireturn, 1) := by decide +kernel
theorem dX14_orderTold_80 : decode cX14_orderTold 80 = .ok (.aload_n 0, 1) := by decide +kernel
theorem dX14_orderTold_81 : decode cX14_orderTold 81 = .ok (.getfield 27, 3) := by decide +kernel
theorem dX14_orderTold_84 : decode cX14_orderTold 84 = .ok (.getfield 379, 3) := by decide +kernel
theorem dX14_orderTold_87 : decode cX14_orderTold 87 = .ok (.iload_n 1, 1) := by decide +kernel
theorem dX14_orderTold_88 : decode cX14_orderTold 88 = .ok (.iaload, 1) := by decide +kernel
theorem dX14_orderTold_89 : decode cX14_orderTold 89 = .ok (.ireturn, 1) := by decide +kernel
theorem dX14_order_0 : decode cX14_order 0 = .ok (.aload_n 0, 1) := by decide +kernel
theorem dX14_order_1 : decode cX14_order 1 = .ok (.iconst 0, 1) := by decide +kernel
theorem dX14_order_2 : decode cX14_order 2 = .ok (.putfield 40, 3) := by decide +kernel
theorem dX14_order_5 : decode cX14_order 5 = .ok (.iload_n 1, 1) := by decide +kernel
theorem dX14_order_6 : decode cX14_order 6 = .ok (.iconst 0, 1) := by decide +kernel
theorem dX14_order_7 : decode cX14_order 7 = .ok (.aload_n 0, 1) := by decide +kernel
theorem dX14_order_8 : decode cX14_order 8 = .ok (.getfield 20, 3) := by decide +kernel
theorem dX14_order_11 : decode cX14_order 11 = .ok (.getfield 208, 3) := by decide +kernel
theorem dX14_order_14 : decode cX14_order 14 = .ok (.iconst 1, 1) := by decide +kernel
theorem dX14_order_15 : decode cX14_order 15 = .ok (.isub, 1) := by decide +kernel
theorem dX14_order_16 : decode cX14_order 16 = .ok (.invokestatic 46, 3) := by decide +kernel
theorem dX14_order_19 : decode cX14_order 19 = .ok (.ifCond .eq 21, 3) := by decide +kernel
theorem dX14_order_22 : decode cX14_order 22 = .ok (.iload_n 2, 1) := by decide +kernel
theorem dX14_order_23 : decode cX14_order 23 = .ok (.iconst 0, 1) := by decide +kernel
theorem dX14_order_24 : decode cX14_order 24 = .ok (.iconst 4, 1) := by decide +kernel
theorem dX14_order_25 : decode cX14_order 25 = .ok (.invokestatic 46, 3) := by decide +kernel
theorem dX14_order_28 : decode cX14_order 28 = .ok (.ifCond .eq 12, 3) := by decide +kernel
theorem dX14_order_31 : decode cX14_order 31 = .ok (.aload_n 0, 1) := by decide +kernel
theorem dX14_order_32 : decode cX14_order 32 = .ok (.iload_n 1, 1) := by decide +kernel
theorem dX14_order_33 : decode cX14_order 33 = .ok (.iload_n 2, 1) := by decide +kernel
theorem dX14_order_34 : decode cX14_order 34 = .ok (.invokevirtual 442, 3) := by decide +kernel
theorem dX14_order_37 : decode cX14_order 37 = .ok (.goto 8, 3) := by decide +kernel
theorem dX14_order_40 : decode cX14_order 40 = .ok (.aload_n 0, 1) := by decide +kernel
theorem dX14_order_41 : decode cX14_order 41 = .ok (.iconst 1, 1) := by decide +kernel
theorem dX14_order_42 : decode cX14_order 42 = .ok (.invokevirtual 403, 3) := by decide +kernel
theorem dX14_order_45 : decode cX14_order 45 = .ok (.ireturn, 1) := by decide +kernel
theorem dX14_owes_0 : decode cX14_owes 0 = .ok (.aload_n 0, 1) := by decide +kernel
theorem dX14_owes_1 : decode cX14_owes 1 = .ok (.iconst 0, 1) := by decide +kernel
theorem dX14_owes_2 : decode cX14_owes 2 = .ok (.putfield 40, 3) := by decide +kernel
theorem dX14_owes_5 : decode cX14_owes 5 = .ok (.aload_n 0, 1) := by decide +kernel
theorem dX14_owes_6 : decode cX14_owes 6 = .ok (.iload_n 1, 1) := by decide +kernel
theorem dX14_owes_7 : decode cX14_owes 7 = .ok (.iload_n 2, 1) := by decide +kernel
theorem dX14_owes_8 : decode cX14_owes 8 = .ok (.invokevirtual 445, 3) := by decide +kernel
theorem dX14_owes_11 : decode cX14_owes 11 = .ok (.ifCond .eq 15, 3) := by decide +kernel
theorem dX14_owes_14 : decode cX14_owes 14 = .ok (.aload_n 0, 1) := by decide +kernel
theorem dX14_owes_15 : decode cX14_owes 15 = .ok (.getfield 27, 3) := by decide +kernel
theorem dX14_owes_18 : decode cX14_owes 18 = .ok (.iload_n 1, 1) := by decide +kernel
theorem dX14_owes_19 : decode cX14_owes 19 = .ok (.iload_n 2, 1) := by decide +kernel
theorem dX14_owes_20 : decode cX14_owes 20 = .ok (.invokevirtual 317, 3) := by decide +kernel
theorem dX14_owes_23 : decode cX14_owes 23 = .ok (.goto 8, 3) := by decide +kernel
theorem dX14_owes_26 : decode cX14_owes 26 = .ok (.aload_n 0, 1) := by decide +kernel
theorem dX14_owes_27 : decode cX14_owes 27 = .ok (.iconst 1, 1) := by decide +kernel
theorem dX14_owes_28 : decode cX14_owes 28 = .ok (.invokevirtual 403, 3) := by decide +kernel
theorem dX14_owes_31 : decode cX14_owes 31 = .ok (.ireturn, 1) := by decide +kernel
theorem dX14_chain_0 : decode cX14_chain 0 = .ok (.aload_n 0, 1) := by decide +kernel
theorem dX14_chain_1 : decode cX14_chain 1 = .ok (.iconst 0, 1) := by decide +kernel
theorem dX14_chain_2 : decode cX14_chain 2 = .ok (.putfield 40, 3) := by decide +kernel
theorem dX14_chain_5 : decode cX14_chain 5 = .ok (.aload_n 0, 1) := by decide +kernel
theorem dX14_chain_6 : decode cX14_chain 6 = .ok (.iload_n 1, 1) := by decide +kernel
theorem dX14_chain_7 : decode cX14_chain 7 = .ok (.iload_n 2, 1) := by decide +kernel
theorem dX14_chain_8 : decode cX14_chain 8 = .ok (.invokevirtual 445, 3) := by decide +kernel
theorem dX14_chain_11 : decode cX14_chain 11 = .ok (.ifCond .ne 9, 3) := by decide +kernel
theorem dX14_chain_14 : decode cX14_chain 14 = .ok (.aload_n 0, 1) := by decide +kernel
theorem dX14_chain_15 : decode cX14_chain 15 = .ok (.iconst 1, 1) := by decide +kernel
theorem dX14_chain_16 : decode cX14_chain 16 = .ok (.invokevirtual 403, 3) := by decide +kernel
theorem dX14_chain_19 : decode cX14_chain 19 = .ok (.ireturn, 1) := by decide +kernel
theorem dX14_chain_20 : decode cX14_chain 20 = .ok (.aload_n 0, 1) := by decide +kernel
theorem dX14_chain_21 : decode cX14_chain 21 = .ok (.getfield 34, 3) := by decide +kernel
theorem dX14_chain_24 : decode cX14_chain 24 = .ok (.iconst (-1), 1) := by decide +kernel
theorem dX14_chain_25 : decode cX14_chain 25 = .ok (.invokestatic 416, 3) := by decide +kernel
theorem dX14_chain_28 : decode cX14_chain 28 = .ok (.aload_n 0, 1) := by decide +kernel
theorem dX14_chain_29 : decode cX14_chain 29 = .ok (.getfield 34, 3) := by decide +kernel
theorem dX14_chain_32 : decode cX14_chain 32 = .ok (.iload_n 1, 1) := by decide +kernel
theorem dX14_chain_33 : decode cX14_chain 33 = .ok (.iconst 0, 1) := by decide +kernel
theorem dX14_chain_34 : decode cX14_chain 34 = .ok (.iastore, 1) := by decide +kernel
theorem dX14_chain_35 : decode cX14_chain 35 = .ok (.iconst 0, 1) := by decide +kernel
theorem dX14_chain_36 : decode cX14_chain 36 = .ok (.istore_n 3, 1) := by decide +kernel
theorem dX14_chain_37 : decode cX14_chain 37 = .ok (.iload_n 3, 1) := by decide +kernel
theorem dX14_chain_38 : decode cX14_chain 38 = .ok (.aload_n 0, 1) := by decide +kernel
theorem dX14_chain_39 : decode cX14_chain 39 = .ok (.getfield 20, 3) := by decide +kernel
theorem dX14_chain_42 : decode cX14_chain 42 = .ok (.getfield 43, 3) := by decide +kernel
theorem dX14_chain_45 : decode cX14_chain 45 = .ok (.if_icmp .ge 100, 3) := by decide +kernel
theorem dX14_chain_48 : decode cX14_chain 48 = .ok (.iconst 0, 1) := by decide +kernel
theorem dX14_chain_49 : decode cX14_chain 49 = .ok (.istore 4, 2) := by decide +kernel
theorem dX14_chain_51 : decode cX14_chain 51 = .ok (.iload 4, 2) := by decide +kernel
theorem dX14_chain_53 : decode cX14_chain 53 = .ok (.aload_n 0, 1) := by decide +kernel
theorem dX14_chain_54 : decode cX14_chain 54 = .ok (.getfield 20, 3) := by decide +kernel
theorem dX14_chain_57 : decode cX14_chain 57 = .ok (.getfield 43, 3) := by decide +kernel
theorem dX14_chain_60 : decode cX14_chain 60 = .ok (.if_icmp .ge 79, 3) := by decide +kernel
theorem dX14_chain_63 : decode cX14_chain 63 = .ok (.aload_n 0, 1) := by decide +kernel
theorem dX14_chain_64 : decode cX14_chain 64 = .ok (.getfield 34, 3) := by decide +kernel
theorem dX14_chain_67 : decode cX14_chain 67 = .ok (.iload 4, 2) := by decide +kernel
theorem dX14_chain_69 : decode cX14_chain 69 = .ok (.iaload, 1) := by decide +kernel
theorem dX14_chain_70 : decode cX14_chain 70 = .ok (.iload_n 3, 1) := by decide +kernel
theorem dX14_chain_71 : decode cX14_chain 71 = .ok (.if_icmp .eq 6, 3) := by decide +kernel
theorem dX14_chain_74 : decode cX14_chain 74 = .ok (.goto 59, 3) := by decide +kernel
theorem dX14_chain_77 : decode cX14_chain 77 = .ok (.iconst 0, 1) := by decide +kernel
theorem dX14_chain_78 : decode cX14_chain 78 = .ok (.istore 5, 2) := by decide +kernel
theorem dX14_chain_80 : decode cX14_chain 80 = .ok (.iload 5, 2) := by decide +kernel
theorem dX14_chain_82 : decode cX14_chain 82 = .ok (.aload_n 0, 1) := by decide +kernel
theorem dX14_chain_83 : decode cX14_chain 83 = .ok (.getfield 20, 3) := by decide +kernel
theorem dX14_chain_86 : decode cX14_chain 86 = .ok (.getfield 43, 3) := by decide +kernel
theorem dX14_chain_89 : decode cX14_chain 89 = .ok (.if_icmp .ge 44, 3) := by decide +kernel
theorem dX14_chain_92 : decode cX14_chain 92 = .ok (.aload_n 0, 1) := by decide +kernel
theorem dX14_chain_93 : decode cX14_chain 93 = .ok (.getfield 34, 3) := by decide +kernel
theorem dX14_chain_96 : decode cX14_chain 96 = .ok (.iload 5, 2) := by decide +kernel
theorem dX14_chain_98 : decode cX14_chain 98 = .ok (.iaload, 1) := by decide +kernel
theorem dX14_chain_99 : decode cX14_chain 99 = .ok (.iconst (-1), 1) := by decide +kernel
theorem dX14_chain_100 : decode cX14_chain 100 = .ok (.if_icmp .ne 27, 3) := by decide +kernel
theorem dX14_chain_103 : decode cX14_chain 103 = .ok (.aload_n 0, 1) := by decide +kernel
theorem dX14_chain_104 : decode cX14_chain 104 = .ok (.getfield 27, 3) := by decide +kernel
theorem dX14_chain_107 : decode cX14_chain 107 = .ok (.iload 4, 2) := by decide +kernel
theorem dX14_chain_109 : decode cX14_chain 109 = .ok (.iload 5, 2) := by decide +kernel
theorem dX14_chain_111 : decode cX14_chain 111 = .ok (.invokevirtual 317, 3) := by decide +kernel
theorem dX14_chain_114 : decode cX14_chain 114 = .ok (.ifCond .le 13, 3) := by decide +kernel
theorem dX14_chain_117 : decode cX14_chain 117 = .ok (.aload_n 0, 1) := by decide +kernel
theorem dX14_chain_118 : decode cX14_chain 118 = .ok (.getfield 34, 3) := by decide +kernel
theorem dX14_chain_121 : decode cX14_chain 121 = .ok (.iload 5, 2) := by decide +kernel
theorem dX14_chain_123 : decode cX14_chain 123 = .ok (.iload_n 3, 1) := by decide +kernel
theorem dX14_chain_124 : decode cX14_chain 124 = .ok (.iconst 1, 1) := by decide +kernel
theorem dX14_chain_125 : decode cX14_chain 125 = .ok (.iadd, 1) := by decide +kernel
theorem dX14_chain_126 : decode cX14_chain 126 = .ok (.iastore, 1) := by decide +kernel
theorem dX14_chain_127 : decode cX14_chain 127 = .ok (.iinc 5 1, 3) := by decide +kernel
theorem dX14_chain_130 : decode cX14_chain 130 = .ok (.goto (-50), 3) := by decide +kernel
theorem dX14_chain_133 : decode cX14_chain 133 = .ok (.iinc 4 1, 3) := by decide +kernel
theorem dX14_chain_136 : decode cX14_chain 136 = .ok (.goto (-85), 3) := by decide +kernel
theorem dX14_chain_139 : decode cX14_chain 139 = .ok (.iinc 3 1, 3) := by decide +kernel
theorem dX14_chain_142 : decode cX14_chain 142 = .ok (.goto (-105), 3) := by decide +kernel
theorem dX14_chain_145 : decode cX14_chain 145 = .ok (.aload_n 0, 1) := by decide +kernel
theorem dX14_chain_146 : decode cX14_chain 146 = .ok (.getfield 34, 3) := by decide +kernel
theorem dX14_chain_149 : decode cX14_chain 149 = .ok (.iload_n 2, 1) := by decide +kernel
theorem dX14_chain_150 : decode cX14_chain 150 = .ok (.iaload, 1) := by decide +kernel
theorem dX14_chain_151 : decode cX14_chain 151 = .ok (.ireturn, 1) := by decide +kernel
theorem dX14_ring_0 : decode cX14_ring 0 = .ok (.aload_n 0, 1) := by decide +kernel
theorem dX14_ring_1 : decode cX14_ring 1 = .ok (.iconst 0, 1) := by decide +kernel
theorem dX14_ring_2 : decode cX14_ring 2 = .ok (.putfield 40, 3) := by decide +kernel
theorem dX14_ring_5 : decode cX14_ring 5 = .ok (.aload_n 0, 1) := by decide +kernel
theorem dX14_ring_6 : decode cX14_ring 6 = .ok (.iload_n 1, 1) := by decide +kernel
theorem dX14_ring_7 : decode cX14_ring 7 = .ok (.invokevirtual 50, 3) := by decide +kernel
theorem dX14_ring_10 : decode cX14_ring 10 = .ok (.ifCond .ne 9, 3) := by decide +kernel
theorem dX14_ring_13 : decode cX14_ring 13 = .ok (.aload_n 0, 1) := by decide +kernel
theorem dX14_ring_14 : decode cX14_ring 14 = .ok (.iconst 1, 1) := by decide +kernel
theorem dX14_ring_15 : decode cX14_ring 15 = .ok (.invokevirtual 403, 3) := by decide +kernel
theorem dX14_ring_18 : decode cX14_ring 18 = .ok (.ireturn, 1) := by decide +kernel
theorem dX14_ring_19 : decode cX14_ring 19 = .ok (.aload_n 0, 1) := by decide +kernel
theorem dX14_ring_20 : decode cX14_ring 20 = .ok (.getfield 34, 3) := by decide +kernel
theorem dX14_ring_23 : decode cX14_ring 23 = .ok (.iconst 0, 1) := by decide +kernel
theorem dX14_ring_24 : decode cX14_ring 24 = .ok (.invokestatic 416, 3) := by decide +kernel
theorem dX14_ring_27 : decode cX14_ring 27 = .ok (.aload_n 0, 1) := by decide +kernel
theorem dX14_ring_28 : decode cX14_ring 28 = .ok (.getfield 34, 3) := by decide +kernel
theorem dX14_ring_31 : decode cX14_ring 31 = .ok (.iload_n 1, 1) := by decide +kernel
theorem dX14_ring_32 : decode cX14_ring 32 = .ok (.ldc_w 451, 3) := by decide +kernel
theorem dX14_ring_35 : decode cX14_ring 35 = .ok (.iastore, 1) := by decide +kernel
theorem dX14_ring_36 : decode cX14_ring 36 = .ok (.iconst 0, 1) := by decide +kernel
theorem dX14_ring_37 : decode cX14_ring 37 = .ok (.istore_n 2, 1) := by decide +kernel
theorem dX14_ring_38 : decode cX14_ring 38 = .ok (.iload_n 2, 1) := by decide +kernel
theorem dX14_ring_39 : decode cX14_ring 39 = .ok (.aload_n 0, 1) := by decide +kernel
theorem dX14_ring_40 : decode cX14_ring 40 = .ok (.getfield 20, 3) := by decide +kernel
theorem dX14_ring_43 : decode cX14_ring 43 = .ok (.getfield 43, 3) := by decide +kernel
theorem dX14_ring_46 : decode cX14_ring 46 = .ok (.if_icmp .ge 85, 3) := by decide +kernel
theorem dX14_ring_49 : decode cX14_ring 49 = .ok (.iconst 0, 1) := by decide +kernel
theorem dX14_ring_50 : decode cX14_ring 50 = .ok (.istore_n 3, 1) := by decide +kernel
theorem dX14_ring_51 : decode cX14_ring 51 = .ok (.iload_n 3, 1) := by decide +kernel
theorem dX14_ring_52 : decode cX14_ring 52 = .ok (.aload_n 0, 1) := by decide +kernel
theorem dX14_ring_53 : decode cX14_ring 53 = .ok (.getfield 20, 3) := by decide +kernel
theorem dX14_ring_56 : decode cX14_ring 56 = .ok (.getfield 43, 3) := by decide +kernel
theorem dX14_ring_59 : decode cX14_ring 59 = .ok (.if_icmp .ge 66, 3) := by decide +kernel
theorem dX14_ring_62 : decode cX14_ring 62 = .ok (.iconst 0, 1) := by decide +kernel
theorem dX14_ring_63 : decode cX14_ring 63 = .ok (.istore 4, 2) := by decide +kernel
theorem dX14_ring_65 : decode cX14_ring 65 = .ok (.iload 4, 2) := by decide +kernel
theorem dX14_ring_67 : decode cX14_ring 67 = .ok (.aload_n 0, 1) := by decide +kernel
theorem dX14_ring_68 : decode cX14_ring 68 = .ok (.getfield 20, 3) := by decide +kernel
theorem dX14_ring_71 : decode cX14_ring 71 = .ok (.getfield 43, 3) := by decide +kernel
theorem dX14_ring_74 : decode cX14_ring 74 = .ok (.if_icmp .ge 45, 3) := by decide +kernel
theorem dX14_ring_77 : decode cX14_ring 77 = .ok (.aload_n 0, 1) := by decide +kernel
theorem dX14_ring_78 : decode cX14_ring 78 = .ok (.getfield 34, 3) := by decide +kernel
theorem dX14_ring_81 : decode cX14_ring 81 = .ok (.iload 4, 2) := by decide +kernel
theorem dX14_ring_83 : decode cX14_ring 83 = .ok (.aload_n 0, 1) := by decide +kernel
theorem dX14_ring_84 : decode cX14_ring 84 = .ok (.getfield 34, 3) := by decide +kernel
theorem dX14_ring_87 : decode cX14_ring 87 = .ok (.iload 4, 2) := by decide +kernel
theorem dX14_ring_89 : decode cX14_ring 89 = .ok (.iaload, 1) := by decide +kernel
theorem dX14_ring_90 : decode cX14_ring 90 = .ok (.aload_n 0, 1) := by decide +kernel
theorem dX14_ring_91 : decode cX14_ring 91 = .ok (.getfield 34, 3) := by decide +kernel
theorem dX14_ring_94 : decode cX14_ring 94 = .ok (.iload_n 3, 1) := by decide +kernel
theorem dX14_ring_95 : decode cX14_ring 95 = .ok (.iaload, 1) := by decide +kernel
theorem dX14_ring_96 : decode cX14_ring 96 = .ok (.aload_n 0, 1) := by decide +kernel
theorem dX14_ring_97 : decode cX14_ring 97 = .ok (.getfield 27, 3) := by decide +kernel
theorem dX14_ring_100 : decode cX14_ring 100 = .ok (.iload_n 3, 1) := by decide +kernel
theorem dX14_ring_101 : decode cX14_ring 101 = .ok (.iload 4, 2) := by decide +kernel
theorem dX14_ring_103 : decode cX14_ring 103 = .ok (.invokevirtual 317, 3) := by decide +kernel
theorem dX14_ring_106 : decode cX14_ring 106 = .ok (.invokestatic 320, 3) := by decide +kernel
theorem dX14_ring_109 : decode cX14_ring 109 = .ok (.invokestatic 325, 3) := by decide +kernel
theorem dX14_ring_112 : decode cX14_ring 112 = .ok (.iastore, 1) := by decide +kernel
theorem dX14_ring_113 : decode cX14_ring 113 = .ok (.iinc 4 1, 3) := by decide +kernel
theorem dX14_ring_116 : decode cX14_ring 116 = .ok (.goto (-51), 3) := by decide +kernel
theorem dX14_ring_119 : decode cX14_ring 119 = .ok (.iinc 3 1, 3) := by decide +kernel
theorem dX14_ring_122 : decode cX14_ring 122 = .ok (.goto (-71), 3) := by decide +kernel
theorem dX14_ring_125 : decode cX14_ring 125 = .ok (.iinc 2 1, 3) := by decide +kernel
theorem dX14_ring_128 : decode cX14_ring 128 = .ok (.goto (-90), 3) := by decide +kernel
theorem dX14_ring_131 : decode cX14_ring 131 = .ok (.iconst 0, 1) := by decide +kernel
theorem dX14_ring_132 : decode cX14_ring 132 = .ok (.istore_n 2, 1) := by decide +kernel
theorem dX14_ring_133 : decode cX14_ring 133 = .ok (.iconst 0, 1) := by decide +kernel
theorem dX14_ring_134 : decode cX14_ring 134 = .ok (.istore_n 3, 1) := by decide +kernel
theorem dX14_ring_135 : decode cX14_ring 135 = .ok (.iload_n 3, 1) := by decide +kernel
theorem dX14_ring_136 : decode cX14_ring 136 = .ok (.aload_n 0, 1) := by decide +kernel
theorem dX14_ring_137 : decode cX14_ring 137 = .ok (.getfield 20, 3) := by decide +kernel
theorem dX14_ring_140 : decode cX14_ring 140 = .ok (.getfield 43, 3) := by decide +kernel
theorem dX14_ring_143 : decode cX14_ring 143 = .ok (.if_icmp .ge 37, 3) := by decide +kernel
theorem dX14_ring_146 : decode cX14_ring 146 = .ok (.iload_n 3, 1) := by decide +kernel
theorem dX14_ring_147 : decode cX14_ring 147 = .ok (.iload_n 1, 1) := by decide +kernel
theorem dX14_ring_148 : decode cX14_ring 148 = .ok (.if_icmp .eq 26, 3) := by decide +kernel
theorem dX14_ring_151 : decode cX14_ring 151 = .ok (.iload_n 2, 1) := by decide +kernel
theorem dX14_ring_152 : decode cX14_ring 152 = .ok (.aload_n 0, 1) := by decide +kernel
theorem dX14_ring_153 : decode cX14_ring 153 = .ok (.getfield 34, 3) := by decide +kernel
theorem dX14_ring_156 : decode cX14_ring 156 = .ok (.iload_n 3, 1) := by decide +kernel
theorem dX14_ring_157 : decode cX14_ring 157 = .ok (.iaload, 1) := by decide +kernel
theorem dX14_ring_158 : decode cX14_ring 158 = .ok (.aload_n 0, 1) := by decide +kernel
theorem dX14_ring_159 : decode cX14_ring 159 = .ok (.getfield 27, 3) := by decide +kernel
theorem dX14_ring_162 : decode cX14_ring 162 = .ok (.iload_n 3, 1) := by decide +kernel
theorem dX14_ring_163 : decode cX14_ring 163 = .ok (.iload_n 1, 1) := by decide +kernel
theorem dX14_ring_164 : decode cX14_ring 164 = .ok (.invokevirtual 317, 3) := by decide +kernel
theorem dX14_ring_167 : decode cX14_ring 167 = .ok (.invokestatic 320, 3) := by decide +kernel
theorem dX14_ring_170 : decode cX14_ring 170 = .ok (.invokestatic 325, 3) := by decide +kernel
theorem dX14_ring_173 : decode cX14_ring 173 = .ok (.istore_n 2, 1) := by decide +kernel
theorem dX14_ring_174 : decode cX14_ring 174 = .ok (.iinc 3 1, 3) := by decide +kernel
theorem dX14_ring_177 : decode cX14_ring 177 = .ok (.goto (-42), 3) := by decide +kernel
theorem dX14_ring_180 : decode cX14_ring 180 = .ok (.iload_n 2, 1) := by decide +kernel
theorem dX14_ring_181 : decode cX14_ring 181 = .ok (.ireturn, 1) := by decide +kernel
theorem dX14_setDamp_0 : decode cX14_setDamp 0 = .ok (.aload_n 0, 1) := by decide +kernel
theorem dX14_setDamp_1 : decode cX14_setDamp 1 = .ok (.iconst 0, 1) := by decide +kernel
theorem dX14_setDamp_2 : decode cX14_setDamp 2 = .ok (.putfield 40, 3) := by decide +kernel
theorem dX14_setDamp_5 : decode cX14_setDamp 5 = .ok (.iload_n 1, 1) := by decide +kernel
theorem dX14_setDamp_6 : decode cX14_setDamp 6 = .ok (.iconst 0, 1) := by decide +kernel
theorem dX14_setDamp_7 : decode cX14_setDamp 7 = .ok (.bipush 9, 2) := by decide +kernel
theorem dX14_setDamp_9 : decode cX14_setDamp 9 = .ok (.invokestatic 46, 3) := by decide +kernel
theorem dX14_setDamp_12 : decode cX14_setDamp 12 = .ok (.ifCond .ne 9, 3) := by decide +kernel
theorem dX14_setDamp_15 : decode cX14_setDamp 15 = .ok (.aload_n 0, 1) := by decide +kernel
theorem dX14_setDamp_16 : decode cX14_setDamp 16 = .ok (.iconst 1, 1) := by decide +kernel
theorem dX14_setDamp_17 : decode cX14_setDamp 17 = .ok (.invokevirtual 403, 3) := by decide +kernel
theorem dX14_setDamp_20 : decode cX14_setDamp 20 = .ok (.ireturn, 1) := by decide +kernel
theorem dX14_setDamp_21 : decode cX14_setDamp 21 = .ok (.aload_n 0, 1) := by decide +kernel
theorem dX14_setDamp_22 : decode cX14_setDamp 22 = .ok (.getfield 27, 3) := by decide +kernel
theorem dX14_setDamp_25 : decode cX14_setDamp 25 = .ok (.getfield 311, 3) := by decide +kernel
theorem dX14_setDamp_28 : decode cX14_setDamp 28 = .ok (.istore_n 2, 1) := by decide +kernel
theorem dX14_setDamp_29 : decode cX14_setDamp 29 = .ok (.aload_n 0, 1) := by decide +kernel
theorem dX14_setDamp_30 : decode cX14_setDamp 30 = .ok (.getfield 27, 3) := by decide +kernel
theorem dX14_setDamp_33 : decode cX14_setDamp 33 = .ok (.iload_n 1, 1) := by decide +kernel
theorem dX14_setDamp_34 : decode cX14_setDamp 34 = .ok (.putfield 311, 3) := by decide +kernel
theorem dX14_setDamp_37 : decode cX14_setDamp 37 = .ok (.iload_n 2, 1) := by decide +kernel
theorem dX14_setDamp_38 : decode cX14_setDamp 38 = .ok (.ireturn, 1) := by decide +kernel
theorem dX14_lend_0 : decode cX14_lend 0 = .ok (.aload_n 0, 1) := by decide +kernel
theorem dX14_lend_1 : decode cX14_lend 1 = .ok (.iconst 0, 1) := by decide +kernel
theorem dX14_lend_2 : decode cX14_lend 2 = .ok (.putfield 40, 3) := by decide +kernel
theorem dX14_lend_5 : decode cX14_lend 5 = .ok (.aload_n 0, 1) := by decide +kernel
theorem dX14_lend_6 : decode cX14_lend 6 = .ok (.iload_n 1, 1) := by decide +kernel
theorem dX14_lend_7 : decode cX14_lend 7 = .ok (.iload_n 2, 1) := by decide +kernel
theorem dX14_lend_8 : decode cX14_lend 8 = .ok (.invokevirtual 445, 3) := by decide +kernel
theorem dX14_lend_11 : decode cX14_lend 11 = .ok (.ifCond .ne 9, 3) := by decide +kernel
theorem dX14_lend_14 : decode cX14_lend 14 = .ok (.aload_n 0, 1) := by decide +kernel
theorem dX14_lend_15 : decode cX14_lend 15 = .ok (.iconst 1, 1) := by decide +kernel
theorem dX14_lend_16 : decode cX14_lend 16 = .ok (.invokevirtual 403, 3) := by decide +kernel
theorem dX14_lend_19 : decode cX14_lend 19 = .ok (.ireturn, 1) := by decide +kernel
theorem dX14_lend_20 : decode cX14_lend 20 = .ok (.iload_n 1, 1) := by decide +kernel
theorem dX14_lend_21 : decode cX14_lend 21 = .ok (.iload_n 2, 1) := by decide +kernel
theorem dX14_lend_22 : decode cX14_lend 22 = .ok (.if_icmp .eq 14, 3) := by decide +kernel
theorem dX14_lend_25 : decode cX14_lend 25 = .ok (.iload_n 3, 1) := by decide +kernel
theorem dX14_lend_26 : decode cX14_lend 26 = .ok (.iconst 1, 1) := by decide +kernel
theorem dX14_lend_27 : decode cX14_lend 27 = .ok (.sipush 9999, 3) := by decide +kernel
theorem dX14_lend_30 : decode cX14_lend 30 = .ok (.invokestatic 46, 3) := by decide +kernel
theorem dX14_lend_33 : decode cX14_lend 33 = .ok (.ifCond .ne 9, 3) := by decide +kernel
theorem dX14_lend_36 : decode cX14_lend 36 = .ok (.aload_n 0, 1) := by decide +kernel
theorem dX14_lend_37 : decode cX14_lend 37 = .ok (.iconst 2, 1) := by decide +kernel
theorem dX14_lend_38 : decode cX14_lend 38 = .ok (.invokevirtual 403, 3) := by decide +kernel
theorem dX14_lend_41 : decode cX14_lend 41 = .ok (.ireturn, 1) := by decide +kernel
theorem dX14_lend_42 : decode cX14_lend 42 = .ok (.aload_n 0, 1) := by decide +kernel
theorem dX14_lend_43 : decode cX14_lend 43 = .ok (.getfield 27, 3) := by decide +kernel
theorem dX14_lend_46 : decode cX14_lend 46 = .ok (.getfield 304, 3) := by decide +kernel
theorem dX14_lend_49 : decode cX14_lend 49 = .ok (.iload_n 1, 1) := by decide +kernel
theorem dX14_lend_50 : decode cX14_lend 50 = .ok (.iaload, 1) := by decide +kernel
theorem dX14_lend_51 : decode cX14_lend 51 = .ok (.iload_n 3, 1) := by decide +kernel
theorem dX14_lend_52 : decode cX14_lend 52 = .ok (.if_icmp .lt 25, 3) := by decide +kernel
theorem dX14_lend_55 : decode cX14_lend 55 = .ok (.aload_n 0, 1) := by decide +kernel
theorem dX14_lend_56 : decode cX14_lend 56 = .ok (.getfield 27, 3) := by decide +kernel
theorem dX14_lend_59 : decode cX14_lend 59 = .ok (.iload_n 2, 1) := by decide +kernel
theorem dX14_lend_60 : decode cX14_lend 60 = .ok (.invokevirtual 305, 3) := by decide +kernel
theorem dX14_lend_63 : decode cX14_lend 63 = .ok (.iload_n 3, 1) := by decide +kernel
theorem dX14_lend_64 : decode cX14_lend 64 = .ok (.iadd, 1) := by decide +kernel
theorem dX14_lend_65 : decode cX14_lend 65 = .ok (.aload_n 0, 1) := by decide +kernel
theorem dX14_lend_66 : decode cX14_lend 66 = .ok (.getfield 20, 3) := by decide +kernel
theorem dX14_lend_69 : decode cX14_lend 69 = .ok (.getfield 233, 3) := by decide +kernel
theorem dX14_lend_72 : decode cX14_lend 72 = .ok (.iload_n 2, 1) := by decide +kernel
theorem dX14_lend_73 : decode cX14_lend 73 = .ok (.iaload, 1) := by decide +kernel
theorem dX14_lend_74 : decode cX14_lend 74 = .ok (.if_icmp .le 9, 3) := by decide +kernel
theorem dX14_lend_77 : decode cX14_lend 77 = .ok (.aload_n 0, 1) := by decide +kernel
