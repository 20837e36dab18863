theorem dX14_lend_78 : decode cX14_lend 78 = .ok (.iconst 3, 1) := by decide +kernel
theorem dX14_lend_79 : decode cX14_lend 79 = .ok (.invokevirtual 403, 3) := by decide +kernel
theorem dX14_lend_82 : decode cX14_lend 82 = .ok (.ireturn, 1) := by decide +kernel
theorem dX14_lend_83 : decode cX14_lend 83 = .ok (.aload_n 0, 1) := by decide +kernel
theorem dX14_lend_84 : decode cX14_lend 84 = .ok (.getfield 27, 3) := by decide +kernel
theorem dX14_lend_87 : decode cX14_lend 87 = .ok (.getfield 304, 3) := by decide +kernel
theorem dX14_lend_90 : decode cX14_lend 90 = .ok (.iload_n 1, 1) := by decide +kernel
theorem dX14_lend_91 : decode cX14_lend 91 = .ok (.dup2, 1) := by decide +kernel
theorem dX14_lend_92 : decode cX14_lend 92 = .ok (.iaload, 1) := by decide +kernel
theorem dX14_lend_93 : decode cX14_lend 93 = .ok (.iload_n 3, 1) := by decide +kernel
theorem dX14_lend_94 : decode cX14_lend 94 = .ok (.isub, 1) := by decide +kernel
theorem dX14_lend_95 : decode cX14_lend 95 = .ok (.iastore, 1) := by decide +kernel
theorem dX14_lend_96 : decode cX14_lend 96 = .ok (.aload_n 0, 1) := by decide +kernel
theorem dX14_lend_97 : decode cX14_lend 97 = .ok (.getfield 27, 3) := by decide +kernel
theorem dX14_lend_100 : decode cX14_lend 100 = .ok (.getfield 304, 3) := by decide +kernel
theorem dX14_lend_103 : decode cX14_lend 103 = .ok (.iload_n 2, 1) := by decide +kernel
theorem dX14_lend_104 : decode cX14_lend 104 = .ok (.dup2, 1) := by decide +kernel
theorem dX14_lend_105 : decode cX14_lend 105 = .ok (.iaload, 1) := by decide +kernel
theorem dX14_lend_106 : decode cX14_lend 106 = .ok (.iload_n 3, 1) := by decide +kernel
theorem dX14_lend_107 : decode cX14_lend 107 = .ok (.iadd, 1) := by decide +kernel
theorem dX14_lend_108 : decode cX14_lend 108 = .ok (.iastore, 1) := by decide +kernel
theorem dX14_lend_109 : decode cX14_lend 109 = .ok (.aload_n 0, 1) := by decide +kernel
theorem dX14_lend_110 : decode cX14_lend 110 = .ok (.getfield 27, 3) := by decide +kernel
theorem dX14_lend_113 : decode cX14_lend 113 = .ok (.getfield 357, 3) := by decide +kernel
theorem dX14_lend_116 : decode cX14_lend 116 = .ok (.bipush 6, 2) := by decide +kernel
theorem dX14_lend_118 : decode cX14_lend 118 = .ok (.iload_n 2, 1) := by decide +kernel
theorem dX14_lend_119 : decode cX14_lend 119 = .ok (.imul, 1) := by decide +kernel
theorem dX14_lend_120 : decode cX14_lend 120 = .ok (.iload_n 1, 1) := by decide +kernel
theorem dX14_lend_121 : decode cX14_lend 121 = .ok (.iadd, 1) := by decide +kernel
theorem dX14_lend_122 : decode cX14_lend 122 = .ok (.dup2, 1) := by decide +kernel
theorem dX14_lend_123 : decode cX14_lend 123 = .ok (.iaload, 1) := by decide +kernel
theorem dX14_lend_124 : decode cX14_lend 124 = .ok (.iload_n 3, 1) := by decide +kernel
theorem dX14_lend_125 : decode cX14_lend 125 = .ok (.iadd, 1) := by decide +kernel
theorem dX14_lend_126 : decode cX14_lend 126 = .ok (.iastore, 1) := by decide +kernel
theorem dX14_lend_127 : decode cX14_lend 127 = .ok (.aload_n 0, 1) := by decide +kernel
theorem dX14_lend_128 : decode cX14_lend 128 = .ok (.getfield 27, 3) := by decide +kernel
theorem dX14_lend_131 : decode cX14_lend 131 = .ok (.iload_n 2, 1) := by decide +kernel
theorem dX14_lend_132 : decode cX14_lend 132 = .ok (.iload_n 1, 1) := by decide +kernel
theorem dX14_lend_133 : decode cX14_lend 133 = .ok (.invokevirtual 317, 3) := by decide +kernel
theorem dX14_lend_136 : decode cX14_lend 136 = .ok (.ireturn, 1) := by decide +kernel
theorem dX14_offset_0 : decode cX14_offset 0 = .ok (.aload_n 0, 1) := by decide +kernel
theorem dX14_offset_1 : decode cX14_offset 1 = .ok (.iconst 0, 1) := by decide +kernel
theorem dX14_offset_2 : decode cX14_offset 2 = .ok (.putfield 40, 3) := by decide +kernel
theorem dX14_offset_5 : decode cX14_offset 5 = .ok (.aload_n 0, 1) := by decide +kernel
theorem dX14_offset_6 : decode cX14_offset 6 = .ok (.iload_n 1, 1) := by decide +kernel
theorem dX14_offset_7 : decode cX14_offset 7 = .ok (.iload_n 2, 1) := by decide +kernel
theorem dX14_offset_8 : decode cX14_offset 8 = .ok (.invokevirtual 445, 3) := by decide +kernel
theorem dX14_offset_11 : decode cX14_offset 11 = .ok (.ifCond .ne 9, 3) := by decide +kernel
theorem dX14_offset_14 : decode cX14_offset 14 = .ok (.aload_n 0, 1) := by decide +kernel
theorem dX14_offset_15 : decode cX14_offset 15 = .ok (.iconst 1, 1) := by decide +kernel
theorem dX14_offset_16 : decode cX14_offset 16 = .ok (.invokevirtual 403, 3) := by decide +kernel
theorem dX14_offset_19 : decode cX14_offset 19 = .ok (.ireturn, 1) := by decide +kernel
theorem dX14_offset_20 : decode cX14_offset 20 = .ok (.iload_n 1, 1) := by decide +kernel
theorem dX14_offset_21 : decode cX14_offset 21 = .ok (.iload_n 2, 1) := by decide +kernel
theorem dX14_offset_22 : decode cX14_offset 22 = .ok (.if_icmp .ne 9, 3) := by decide +kernel
theorem dX14_offset_25 : decode cX14_offset 25 = .ok (.aload_n 0, 1) := by decide +kernel
theorem dX14_offset_26 : decode cX14_offset 26 = .ok (.iconst 2, 1) := by decide +kernel
theorem dX14_offset_27 : decode cX14_offset 27 = .ok (.invokevirtual 403, 3) := by decide +kernel
theorem dX14_offset_30 : decode cX14_offset 30 = .ok (.ireturn, 1) := by decide +kernel
theorem dX14_offset_31 : decode cX14_offset 31 = .ok (.aload_n 0, 1) := by decide +kernel
theorem dX14_offset_32 : decode cX14_offset 32 = .ok (.getfield 27, 3) := by decide +kernel
theorem dX14_offset_35 : decode cX14_offset 35 = .ok (.iload_n 1, 1) := by decide +kernel
theorem dX14_offset_36 : decode cX14_offset 36 = .ok (.iload_n 2, 1) := by decide +kernel
theorem dX14_offset_37 : decode cX14_offset 37 = .ok (.invokevirtual 317, 3) := by decide +kernel
theorem dX14_offset_40 : decode cX14_offset 40 = .ok (.aload_n 0, 1) := by decide +kernel
theorem dX14_offset_41 : decode cX14_offset 41 = .ok (.getfield 27, 3) := by decide +kernel
theorem dX14_offset_44 : decode cX14_offset 44 = .ok (.iload_n 2, 1) := by decide +kernel
theorem dX14_offset_45 : decode cX14_offset 45 = .ok (.iload_n 1, 1) := by decide +kernel
theorem dX14_offset_46 : decode cX14_offset 46 = .ok (.invokevirtual 317, 3) := by decide +kernel
theorem dX14_offset_49 : decode cX14_offset 49 = .ok (.invokestatic 320, 3) := by decide +kernel
theorem dX14_offset_52 : decode cX14_offset 52 = .ok (.istore_n 3, 1) := by decide +kernel
theorem dX14_offset_53 : decode cX14_offset 53 = .ok (.aload_n 0, 1) := by decide +kernel
theorem dX14_offset_54 : decode cX14_offset 54 = .ok (.getfield 27, 3) := by decide +kernel
theorem dX14_offset_57 : decode cX14_offset 57 = .ok (.getfield 357, 3) := by decide +kernel
theorem dX14_offset_60 : decode cX14_offset 60 = .ok (.bipush 6, 2) := by decide +kernel
theorem dX14_offset_62 : decode cX14_offset 62 = .ok (.iload_n 1, 1) := by decide +kernel
theorem dX14_offset_63 : decode cX14_offset 63 = .ok (.imul, 1) := by decide +kernel
theorem dX14_offset_64 : decode cX14_offset 64 = .ok (.iload_n 2, 1) := by decide +kernel
theorem dX14_offset_65 : decode cX14_offset 65 = .ok (.iadd, 1) := by decide +kernel
theorem dX14_offset_66 : decode cX14_offset 66 = .ok (.dup2, 1) := by decide +kernel
theorem dX14_offset_67 : decode cX14_offset 67 = .ok (.iaload, 1) := by decide +kernel
theorem dX14_offset_68 : decode cX14_offset 68 = .ok (.iload_n 3, 1) := by decide +kernel
theorem dX14_offset_69 : decode cX14_offset 69 = .ok (.isub, 1) := by decide +kernel
theorem dX14_offset_70 : decode cX14_offset 70 = .ok (.iastore, 1) := by decide +kernel
theorem dX14_offset_71 : decode cX14_offset 71 = .ok (.aload_n 0, 1) := by decide +kernel
theorem dX14_offset_72 : decode cX14_offset 72 = .ok (.getfield 27, 3) := by decide +kernel
theorem dX14_offset_75 : decode cX14_offset 75 = .ok (.getfield 357, 3) := by decide +kernel
theorem dX14_offset_78 : decode cX14_offset 78 = .ok (.bipush 6, 2) := by decide +kernel
theorem dX14_offset_80 : decode cX14_offset 80 = .ok (.iload_n 2, 1) := by decide +kernel
theorem dX14_offset_81 : decode cX14_offset 81 = .ok (.imul, 1) := by decide +kernel
theorem dX14_offset_82 : decode cX14_offset 82 = .ok (.iload_n 1, 1) := by decide +kernel
theorem dX14_offset_83 : decode cX14_offset 83 = .ok (.iadd, 1) := by decide +kernel
theorem dX14_offset_84 : decode cX14_offset 84 = .ok (.dup2, 1) := by decide +kernel
theorem dX14_offset_85 : decode cX14_offset 85 = .ok (.iaload, 1) := by decide +kernel
theorem dX14_offset_86 : decode cX14_offset 86 = .ok (.iload_n 3, 1) := by decide +kernel
theorem dX14_offset_87 : decode cX14_offset 87 = .ok (.isub, 1) := by decide +kernel
theorem dX14_offset_88 : decode cX14_offset 88 = .ok (.iastore, 1) := by decide +kernel
theorem dX14_offset_89 : decode cX14_offset 89 = .ok (.iload_n 3, 1) := by decide +kernel
theorem dX14_offset_90 : decode cX14_offset 90 = .ok (.ireturn, 1) := by decide +kernel
theorem dX14_dry_0 : decode cX14_dry 0 = .ok (.aload_n 0, 1) := by decide +kernel
theorem dX14_dry_1 : decode cX14_dry 1 = .ok (.iconst 0, 1) := by decide +kernel
theorem dX14_dry_2 : decode cX14_dry 2 = .ok (.putfield 40, 3) := by decide +kernel
theorem dX14_dry_5 : decode cX14_dry 5 = .ok (.aload_n 0, 1) := by decide +kernel
theorem dX14_dry_6 : decode cX14_dry 6 = .ok (.iload_n 1, 1) := by decide +kernel
theorem dX14_dry_7 : decode cX14_dry 7 = .ok (.invokevirtual 423, 3) := by decide +kernel
theorem dX14_dry_10 : decode cX14_dry 10 = .ok (.ifCond .ne 9, 3) := by decide +kernel
theorem dX14_dry_13 : decode cX14_dry 13 = .ok (.aload_n 0, 1) := by decide +kernel
theorem dX14_dry_14 : decode cX14_dry 14 = .ok (.iconst 1, 1) := by decide +kernel
theorem dX14_dry_15 : decode cX14_dry 15 = .ok (.invokevirtual 403, 3) := by decide +kernel
theorem dX14_dry_18 : decode cX14_dry 18 = .ok (.ireturn, 1) := by decide +kernel
theorem dX14_dry_19 : decode cX14_dry 19 = .ok (.aload_n 0, 1) := by decide +kernel
theorem dX14_dry_20 : decode cX14_dry 20 = .ok (.getfield 27, 3) := by decide +kernel
theorem dX14_dry_23 : decode cX14_dry 23 = .ok (.getfield 292, 3) := by decide +kernel
theorem dX14_dry_26 : decode cX14_dry 26 = .ok (.iload_n 1, 1) := by decide +kernel
theorem dX14_dry_27 : decode cX14_dry 27 = .ok (.dup2, 1) := by decide +kernel
theorem dX14_dry_28 : decode cX14_dry 28 = .ok (.iaload, 1) := by decide +kernel
theorem dX14_dry_29 : decode cX14_dry 29 = .ok (.aload_n 0, 1) := by decide +kernel
theorem dX14_dry_30 : decode cX14_dry 30 = .ok (.getfield 27, 3) := by decide +kernel
theorem dX14_dry_33 : decode cX14_dry 33 = .ok (.getfield 292, 3) := by decide +kernel
theorem dX14_dry_36 : decode cX14_dry 36 = .ok (.iload_n 1, 1) := by decide +kernel
theorem dX14_dry_37 : decode cX14_dry 37 = .ok (.iaload, 1) := by decide +kernel
theorem dX14_dry_38 : decode cX14_dry 38 = .ok (.bipush 10, 2) := by decide +kernel
theorem dX14_dry_40 : decode cX14_dry 40 = .ok (.idiv, 1) := by decide +kernel
theorem dX14_dry_41 : decode cX14_dry 41 = .ok (.isub, 1) := by decide +kernel
theorem dX14_dry_42 : decode cX14_dry 42 = .ok (.iastore, 1) := by decide +kernel
theorem dX14_dry_43 : decode cX14_dry 43 = .ok (.aload_n 0, 1) := by decide +kernel
theorem dX14_dry_44 : decode cX14_dry 44 = .ok (.getfield 27, 3) := by decide +kernel
theorem dX14_dry_47 : decode cX14_dry 47 = .ok (.getfield 295, 3) := by decide +kernel
theorem dX14_dry_50 : decode cX14_dry 50 = .ok (.iload_n 1, 1) := by decide +kernel
theorem dX14_dry_51 : decode cX14_dry 51 = .ok (.iconst (-1), 1) := by decide +kernel
theorem dX14_dry_52 : decode cX14_dry 52 = .ok (.iastore, 1) := by decide +kernel
theorem dX14_dry_53 : decode cX14_dry 53 = .ok (.aload_n 0, 1) := by decide +kernel
theorem dX14_dry_54 : decode cX14_dry 54 = .ok (.getfield 27, 3) := by decide +kernel
theorem dX14_dry_57 : decode cX14_dry 57 = .ok (.getfield 292, 3) := by decide +kernel
theorem dX14_dry_60 : decode cX14_dry 60 = .ok (.iload_n 1, 1) := by decide +kernel
theorem dX14_dry_61 : decode cX14_dry 61 = .ok (.iaload, 1) := by decide +kernel
theorem dX14_dry_62 : decode cX14_dry 62 = .ok (.ireturn, 1) := by decide +kernel
theorem dX14_pass_0 : decode cX14_pass 0 = .ok (.aload_n 0, 1) := by decide +kernel
theorem dX14_pass_1 : decode cX14_pass 1 = .ok (.iconst 0, 1) := by decide +kernel
theorem dX14_pass_2 : decode cX14_pass 2 = .ok (.putfield 40, 3) := by decide +kernel
theorem dX14_pass_5 : decode cX14_pass 5 = .ok (.iload_n 1, 1) := by decide +kernel
theorem dX14_pass_6 : decode cX14_pass 6 = .ok (.iconst 1, 1) := by decide +kernel
theorem dX14_pass_7 : decode cX14_pass 7 = .ok (.bipush 120, 2) := by decide +kernel
theorem dX14_pass_9 : decode cX14_pass 9 = .ok (.invokestatic 46, 3) := by decide +kernel
theorem dX14_pass_12 : decode cX14_pass 12 = .ok (.ifCond .eq 15, 3) := by decide +kernel
theorem dX14_pass_15 : decode cX14_pass 15 = .ok (.aload_n 0, 1) := by decide +kernel
theorem dX14_pass_16 : decode cX14_pass 16 = .ok (.aload_n 0, 1) := by decide +kernel
theorem dX14_pass_17 : decode cX14_pass 17 = .ok (.getfield 27, 3) := by decide +kernel
theorem dX14_pass_20 : decode cX14_pass 20 = .ok (.iload_n 1, 1) := by decide +kernel
theorem dX14_pass_21 : decode cX14_pass 21 = .ok (.invokevirtual 452, 3) := by decide +kernel
theorem dX14_pass_24 : decode cX14_pass 24 = .ok (.goto 8, 3) := by decide +kernel
theorem dX14_pass_27 : decode cX14_pass 27 = .ok (.aload_n 0, 1) := by decide +kernel
theorem dX14_pass_28 : decode cX14_pass 28 = .ok (.iconst 1, 1) := by decide +kernel
theorem dX14_pass_29 : decode cX14_pass 29 = .ok (.invokevirtual 403, 3) := by decide +kernel
theorem dX14_pass_32 : decode cX14_pass 32 = .ok (.ireturn, 1) := by decide +kernel
theorem dX14_foresee_0 : decode cX14_foresee 0 = .ok (.aload_n 0, 1) := by decide +kernel
theorem dX14_foresee_1 : decode cX14_foresee 1 = .ok (.iconst 0, 1) := by decide +kernel
theorem dX14_foresee_2 : decode cX14_foresee 2 = .ok (.putfield 40, 3) := by decide +kernel
theorem dX14_foresee_5 : decode cX14_foresee 5 = .ok (.iload_n 1, 1) := by decide +kernel
theorem dX14_foresee_6 : decode cX14_foresee 6 = .ok (.iconst 1, 1) := by decide +kernel
theorem dX14_foresee_7 : decode cX14_foresee 7 = .ok (.bipush 120, 2) := by decide +kernel
theorem dX14_foresee_9 : decode cX14_foresee 9 = .ok (.invokestatic 46, 3) := by decide +kernel
theorem dX14_foresee_12 : decode cX14_foresee 12 = .ok (.ifCond .ne 9, 3) := by decide +kernel
theorem dX14_foresee_15 : decode cX14_foresee 15 = .ok (.aload_n 0, 1) := by decide +kernel
theorem dX14_foresee_16 : decode cX14_foresee 16 = .ok (.iconst 1, 1) := by decide +kernel
theorem dX14_foresee_17 : decode cX14_foresee 17 = .ok (.invokevirtual 403, 3) := by decide +kernel
theorem dX14_foresee_20 : decode cX14_foresee 20 = .ok (.ireturn, 1) := by decide +kernel
theorem dX14_foresee_21 : decode cX14_foresee 21 = .ok (.iload_n 2, 1) := by decide +kernel
theorem dX14_foresee_22 : decode cX14_foresee 22 = .ok (.ifCond .eq 20, 3) := by decide +kernel
theorem dX14_foresee_25 : decode cX14_foresee 25 = .ok (.iload_n 2, 1) := by decide +kernel
theorem dX14_foresee_26 : decode cX14_foresee 26 = .ok (.bipush 7, 2) := by decide +kernel
theorem dX14_foresee_28 : decode cX14_foresee 28 = .ok (.bipush 12, 2) := by decide +kernel
theorem dX14_foresee_30 : decode cX14_foresee 30 = .ok (.invokestatic 46, 3) := by decide +kernel
theorem dX14_foresee_33 : decode cX14_foresee 33 = .ok (.ifCond .ne 9, 3) := by decide +kernel
theorem dX14_foresee_36 : decode cX14_foresee 36 = .ok (.aload_n 0, 1) := by decide +kernel
theorem dX14_foresee_37 : decode cX14_foresee 37 = .ok (.iconst 2, 1) := by decide +kernel
theorem dX14_foresee_38 : decode cX14_foresee 38 = .ok (.invokevirtual 403, 3) := by decide +kernel
theorem dX14_foresee_41 : decode cX14_foresee 41 = .ok (.ireturn, 1) := by decide +kernel
theorem dX14_foresee_42 : decode cX14_foresee 42 = .ok (.aload_n 0, 1) := by decide +kernel
theorem dX14_foresee_43 : decode cX14_foresee 43 = .ok (.getfield 31, 3) := by decide +kernel
theorem dX14_foresee_46 : decode cX14_foresee 46 = .ok (.aload_n 0, 1) := by decide +kernel
theorem dX14_foresee_47 : decode cX14_foresee 47 = .ok (.getfield 27, 3) := by decide +kernel
theorem dX14_foresee_50 : decode cX14_foresee 50 = .ok (.invokevirtual 455, 3) := by decide +kernel
theorem dX14_foresee_53 : decode cX14_foresee 53 = .ok (.aload_n 0, 1) := by decide +kernel
theorem dX14_foresee_54 : decode cX14_foresee 54 = .ok (.aload_n 0, 1) := by decide +kernel
theorem dX14_foresee_55 : decode cX14_foresee 55 = .ok (.getfield 31, 3) := by decide +kernel
theorem dX14_foresee_58 : decode cX14_foresee 58 = .ok (.iload_n 1, 1) := by decide +kernel
theorem dX14_foresee_59 : decode cX14_foresee 59 = .ok (.invokevirtual 452, 3) := by decide +kernel
theorem dX14_foresee_62 : decode cX14_foresee 62 = .ok (.istore_n 3, 1) := by decide +kernel
theorem dX14_foresee_63 : decode cX14_foresee 63 = .ok (.iload_n 2, 1) := by decide +kernel
theorem dX14_foresee_64 : decode cX14_foresee 64 = .ok (.ifCond .ne 7, 3) := by decide +kernel
theorem dX14_foresee_67 : decode cX14_foresee 67 = .ok (.iload_n 3, 1) := by decide +kernel
theorem dX14_foresee_68 : decode cX14_foresee 68 = .ok (.goto 12, 3) := by decide +kernel
theorem dX14_foresee_71 : decode cX14_foresee 71 = .ok (.aload_n 0, 1) := by decide +kernel
theorem dX14_foresee_72 : decode cX14_foresee 72 = .ok (.aload_n 0, 1) := by decide +kernel
theorem dX14_foresee_73 : decode cX14_foresee 73 = .ok (.getfield 31, 3) := by decide +kernel
theorem dX14_foresee_76 : decode cX14_foresee 76 = .ok (.iload_n 2, 1) := by decide +kernel
theorem dX14_foresee_77 : decode cX14_foresee 77 = .ok (.invokevirtual 420, 3) := by decide +kernel
theorem dX14_foresee_80 : decode cX14_foresee 80 = .ok (.ireturn, 1) := by decide +kernel
theorem dX14_costs_0 : decode cX14_costs 0 = .ok (.aload_n 0, 1) := by decide +kernel
theorem dX14_costs_1 : decode cX14_costs 1 = .ok (.iconst 0, 1) := by decide +kernel
theorem dX14_costs_2 : decode cX14_costs 2 = .ok (.putfield 40, 3) := by decide +kernel
theorem dX14_costs_5 : decode cX14_costs 5 = .ok (.iload_n 1, 1) := by decide +kernel
theorem dX14_costs_6 : decode cX14_costs 6 = .ok (.iconst 1, 1) := by decide +kernel
theorem dX14_costs_7 : decode cX14_costs 7 = .ok (.bipush 90, 2) := by decide +kernel
theorem dX14_costs_9 : decode cX14_costs 9 = .ok (.invokestatic 46, 3) := by decide +kernel
theorem dX14_costs_12 : decode cX14_costs 12 = .ok (.ifCond .eq 13, 3) := by decide +kernel
theorem dX14_costs_15 : decode cX14_costs 15 = .ok (.iload_n 2, 1) := by decide +kernel
theorem dX14_costs_16 : decode cX14_costs 16 = .ok (.iconst 0, 1) := by decide +kernel
theorem dX14_costs_17 : decode cX14_costs 17 = .ok (.bipush 9, 2) := by decide +kernel
theorem dX14_costs_19 : decode cX14_costs 19 = .ok (.invokestatic 46, 3) := by decide +kernel
theorem dX14_costs_22 : decode cX14_costs 22 = .ok (.ifCond .ne 9, 3) := by decide +kernel
theorem dX14_costs_25 : decode cX14_costs 25 = .ok (.aload_n 0, 1) := by decide +kernel
theorem dX14_costs_26 : decode cX14_costs 26 = .ok (.iconst 1, 1) := by decide +kernel
theorem dX14_costs_27 : decode cX14_costs 27 = .ok (.invokevirtual 403, 3) := by decide +kernel
theorem dX14_costs_30 : decode cX14_costs 30 = .ok (.ireturn, 1) := by decide +kernel
theorem dX14_costs_31 : decode cX14_costs 31 = .ok (.aload_n 0, 1) := by decide +kernel
theorem dX14_costs_32 : decode cX14_costs 32 = .ok (.getfield 31, 3) := by decide +kernel
theorem dX14_costs_35 : decode cX14_costs 35 = .ok (.aload_n 0, 1) := by decide +kernel
theorem dX14_costs_36 : decode cX14_costs 36 = .ok (.getfield 27, 3) := by decide +kernel
theorem dX14_costs_39 : decode cX14_costs 39 = .ok (.invokevirtual 455, 3) := by decide +kernel
theorem dX14_costs_42 : decode cX14_costs 42 = .ok (.aload_n 0, 1) := by decide +kernel
theorem dX14_costs_43 : decode cX14_costs 43 = .ok (.getfield 31, 3) := by decide +kernel
theorem dX14_costs_46 : decode cX14_costs 46 = .ok (.iload_n 2, 1) := by decide +kernel
theorem dX14_costs_47 : decode cX14_costs 47 = .ok (.putfield 311, 3) := by decide +kernel
theorem dX14_costs_50 : decode cX14_costs 50 = .ok (.iconst 0, 1) := by decide +kernel
theorem dX14_costs_51 : decode cX14_costs 51 = .ok (.istore_n 3, 1) := by decide +kernel
theorem dX14_costs_52 : decode cX14_costs 52 = .ok (.iload_n 3, 1) := by decide +kernel
theorem dX14_costs_53 : decode cX14_costs 53 = .ok (.iload_n 1, 1) := by decide +kernel
theorem dX14_costs_54 : decode cX14_costs 54 = .ok (.if_icmp .ge 17, 3) := by decide +kernel
theorem dX14_costs_57 : decode cX14_costs 57 = .ok (.aload_n 0, 1) := by decide +kernel
theorem dX14_costs_58 : decode cX14_costs 58 = .ok (.aload_n 0, 1) := by decide +kernel
theorem dX14_costs_59 : decode cX14_costs 59 = .ok (.getfield 31, 3) := by decide +kernel
theorem dX14_costs_62 : decode cX14_costs 62 = .ok (.invokevirtual 385, 3) := by decide +kernel
theorem dX14_costs_65 : decode cX14_costs 65 = .ok (.iinc 3 1, 3) := by decide +kernel
theorem dX14_costs_68 : decode cX14_costs 68 = .ok (.goto (-16), 3) := by decide +kernel
theorem dX14_costs_71 : decode cX14_costs 71 = .ok (.aload_n 0, 1) := by decide +kernel
theorem dX14_costs_72 : decode cX14_costs 72 = .ok (.aload_n 0, 1) := by decide +kernel
theorem dX14_costs_73 : decode cX14_costs 73 = .ok (.getfield 27, 3) := by decide +kernel
theorem dX14_costs_76 : decode cX14_costs 76 = .ok (.invokevirtual 397, 3) := by decide +kernel
theorem dX14_costs_79 : decode cX14_costs 79 = .ok (.aload_n 0, 1) := by decide +kernel
theorem dX14_costs_80 : decode cX14_costs 80 = .ok (.aload_n 0, 1) := by decide +kernel
theorem dX14_costs_81 : decode cX14_costs 81 = .ok (.getfield 31, 3) := by decide +kernel
theorem dX14_costs_84 : decode cX14_costs 84 = .ok (.invokevirtual 397, 3) := by decide +kernel
theorem dX14_costs_87 : decode cX14_costs 87 = .ok (.isub, 1) := by decide +kernel
theorem dX14_costs_88 : decode cX14_costs 88 = .ok (.ireturn, 1) := by decide +kernel
theorem dX14_wealth_0 : decode cX14_wealth 0 = .ok (.aload_n 0, 1) := by decide +kernel
theorem dX14_wealth_1 : decode cX14_wealth 1 = .ok (.getfield 304, 3) := by decide +kernel
theorem dX14_wealth_4 : decode cX14_wealth 4 = .ok (.iload_n 1, 1) := by decide +kernel
theorem dX14_wealth_5 : decode cX14_wealth 5 = .ok (.iaload, 1) := by decide +kernel
theorem dX14_wealth_6 : decode cX14_wealth 6 = .ok (.aload_n 0, 1) := by decide +kernel
theorem dX14_wealth_7 : decode cX14_wealth 7 = .ok (.iload_n 1, 1) := by decide +kernel
theorem dX14_wealth_8 : decode cX14_wealth 8 = .ok (.invokevirtual 429, 3) := by decide +kernel
theorem dX14_wealth_11 : decode cX14_wealth 11 = .ok (.iadd, 1) := by decide +kernel
theorem dX14_wealth_12 : decode cX14_wealth 12 = .ok (.aload_n 0, 1) := by decide +kernel
theorem dX14_wealth_13 : decode cX14_wealth 13 = .ok (.iload_n 1, 1) := by decide +kernel
theorem dX14_wealth_14 : decode cX14_wealth 14 = .ok (.invokevirtual 305, 3) := by decide +kernel
theorem dX14_wealth_17 : decode cX14_wealth 17 = .ok (.isub, 1) := by decide +kernel
theorem dX14_wealth_18 : decode cX14_wealth 18 = .ok (.ireturn, 1) := by decide +kernel
theorem dX14_richest_0 : decode cX14_richest 0 = .ok (.aload_n 0, 1) := by decide +kernel
theorem dX14_richest_1 : decode cX14_richest 1 = .ok (.iconst 0, 1) := by decide +kernel
theorem dX14_richest_2 : decode cX14_richest 2 = .ok (.putfield 40, 3) := by decide +kernel
theorem dX14_richest_5 : decode cX14_richest 5 = .ok (.iload_n 1, 1) := by decide +kernel
theorem dX14_richest_6 : decode cX14_richest 6 = .ok (.iconst 1, 1) := by decide +kernel
theorem dX14_richest_7 : decode cX14_richest 7 = .ok (.bipush 90, 2) := by decide +kernel
theorem dX14_richest_9 : decode cX14_richest 9 = .ok (.invokestatic 46, 3) := by decide +kernel
theorem dX14_richest_12 : decode cX14_richest 12 = .ok (.ifCond .ne 9, 3) := by decide +kernel
theorem dX14_richest_15 : decode cX14_richest 15 = .ok (.aload_n 0, 1) := by decide +kernel
theorem dX14_richest_16 : decode cX14_richest 16 = .ok (.iconst 1, 1) := by decide +kernel
theorem dX14_richest_17 : decode cX14_richest 17 = .ok (.invokevirtual 403, 3) := by decide +kernel
theorem dX14_richest_20 : decode cX14_richest 20 = .ok (.ireturn, 1) := by decide +kernel
theorem dX14_richest_21 : decode cX14_richest 21 = .ok (.aload_n 0, 1) := by decide +kernel
theorem dX14_richest_22 : decode cX14_richest 22 = .ok (.getfield 31, 3) := by decide +kernel
theorem dX14_richest_25 : decode cX14_richest 25 = .ok (.aload_n 0, 1) := by decide +kernel
theorem dX14_richest_26 : decode cX14_richest 26 = .ok (.getfield 27, 3) := by decide +kernel
theorem dX14_richest_29 : decode cX14_richest 29 = .ok (.invokevirtual 455, 3) := by decide +kernel
theorem dX14_richest_32 : decode cX14_richest 32 = .ok (.aload_n 0, 1) := by decide +kernel
theorem dX14_richest_33 : decode cX14_richest 33 = .ok (.aload_n 0, 1) := by decide +kernel
theorem dX14_richest_34 : decode cX14_richest 34 = .ok (.getfield 31, 3) := by decide +kernel
theorem dX14_richest_37 : decode cX14_richest 37 = .ok (.iload_n 1, 1) := by decide +kernel
theorem dX14_richest_38 : decode cX14_richest 38 = .ok (.invokevirtual 452, 3) := by decide +kernel
theorem dX14_richest_41 : decode cX14_richest 41 = .ok (.pop, 1) := by decide +kernel
theorem dX14_richest_42 : decode cX14_richest 42 = .ok (.aload_n 0, 1) := by decide +kernel
theorem dX14_richest_43 : decode cX14_richest 43 = .ok (.getfield 20, 3) := by decide +kernel
theorem dX14_richest_46 : decode cX14_richest 46 = .ok (.getfield 43, 3) := by decide +kernel
theorem dX14_richest_49 : decode cX14_richest 49 = .ok (.ifCond .ne 7, 3) := by decide +kernel
theorem dX14_richest_52 : decode cX14_richest 52 = .ok (.iconst (-1), 1) := by decide +kernel
theorem dX14_richest_53 : decode cX14_richest 53 = .ok (.goto 4, 3) := by decide +kernel
theorem dX14_richest_56 : decode cX14_richest 56 = .ok (.iconst 0, 1) := by decide +kernel
theorem dX14_richest_57 : decode cX14_richest 57 = .ok (.istore_n 2, 1) := by decide +kernel
theorem dX14_richest_58 : decode cX14_richest 58 = .ok (.iconst 1, 1) := by decide +kernel
theorem dX14_richest_59 : decode cX14_richest 59 = .ok (.istore_n 3, 1) := by decide +kernel
theorem dX14_richest_60 : decode cX14_richest 60 = .ok (.iload_n 3, 1) := by decide +kernel
theorem dX14_richest_61 : decode cX14_richest 61 = .ok (.aload_n 0, 1) := by decide +kernel
theorem dX14_richest_62 : decode cX14_richest 62 = .ok (.getfield 20, 3) := by decide +kernel
theorem dX14_richest_65 : decode cX14_richest 65 = .ok (.getfield 43, 3) := by decide +kernel
theorem dX14_richest_68 : decode cX14_richest 68 = .ok (.if_icmp .ge 30, 3) := by decide +kernel
theorem dX14_richest_71 : decode cX14_richest 71 = .ok (.aload_n 0, 1) := by decide +kernel
theorem dX14_richest_72 : decode cX14_richest 72 = .ok (.getfield 31, 3) := by decide +kernel
theorem dX14_richest_75 : decode cX14_richest 75 = .ok (.iload_n 3, 1) := by decide +kernel
theorem dX14_richest_76 : decode cX14_richest 76 = .ok (.invokestatic 458, 3) := by decide +kernel
theorem dX14_richest_79 : decode cX14_richest 79 = .ok (.aload_n 0, 1) := by decide +kernel
theorem dX14_richest_80 : decode cX14_richest 80 = .ok (.getfield 31, 3) := by decide +kernel
theorem dX14_richest_83 : decode cX14_richest 83 = .ok (.iload_n 2, 1) := by decide +kernel
theorem dX14_richest_84 : decode cX14_richest 84 = .ok (.invokestatic 458, 3) := by decide +kernel
theorem dX14_richest_87 : decode cX14_richest 87 = .ok (.if_icmp .le 5, 3) := by decide +kernel
theorem dX14_richest_90 : decode cX14_richest 90 = .ok (.iload_n 3, 1) := by decide +kernel
theorem dX14_richest_91 : decode cX14_richest 91 = .ok (.istore_n 2, 1) := by decide +kernel
theorem dX14_richest_92 : decode cX14_richest 92 = .ok (.iinc 3 1, 3) := by decide +kernel
theorem dX14_richest_95 : decode cX14_richest 95 = .ok (.goto (-35), 3) := by decide +kernel
theorem dX14_richest_98 : decode cX14_richest 98 = .ok (.iload_n 2, 1) := by decide +kernel
theorem dX14_richest_99 : decode cX14_richest 99 = .ok (.ireturn, 1) := by decide +kernel
theorem dX14_until_0 : decode cX14_until 0 = .ok (.aload_n 0, 1) := by decide +kernel
theorem dX14_until_1 : decode cX14_until 1 = .ok (.iconst 0, 1) := by decide +kernel
theorem dX14_until_2 : decode cX14_until 2 = .ok (.putfield 40, 3) := by decide +kernel
theorem dX14_until_5 : decode cX14_until 5 = .ok (.aload_n 0, 1) := by decide +kernel
theorem dX14_until_6 : decode cX14_until 6 = .ok (.iload_n 1, 1) := by decide +kernel
theorem dX14_until_7 : decode cX14_until 7 = .ok (.invokevirtual 50, 3) := by decide +kernel
theorem dX14_until_10 : decode cX14_until 10 = .ok (.ifCond .ne 9, 3) := by decide +kernel
theorem dX14_until_13 : decode cX14_until 13 = .ok (.aload_n 0, 1) := by decide +kernel
theorem dX14_until_14 : decode cX14_until 14 = .ok (.iconst 1, 1) := by decide +kernel
theorem dX14_until_15 : decode cX14_until 15 = .ok (.invokevirtual 403, 3) := by decide +kernel
theorem dX14_until_18 : decode cX14_until 18 = .ok (.ireturn, 1) := by decide +kernel
theorem dX14_until_19 : decode cX14_until 19 = .ok (.aload_n 0, 1) := by decide +kernel
theorem dX14_until_20 : decode cX14_until 20 = .ok (.getfield 31, 3) := by decide +kernel
theorem dX14_until_23 : decode cX14_until 23 = .ok (.aload_n 0, 1) := by decide +kernel
theorem dX14_until_24 : decode cX14_until 24 = .ok (.getfield 27, 3) := by decide +kernel
theorem dX14_until_27 : decode cX14_until 27 = .ok (.invokevirtual 455, 3) := by decide +kernel
theorem dX14_until_30 : decode cX14_until 30 = .ok (.iconst 0, 1) := by decide +kernel
theorem dX14_until_31 : decode cX14_until 31 = .ok (.istore_n 2, 1) := by decide +kernel
theorem dX14_until_32 : decode cX14_until 32 = .ok (.iload_n 2, 1) := by decide +kernel
theorem dX14_until_33 : decode cX14_until 33 = .ok (.sipush 150, 3) := by decide +kernel
theorem dX14_until_36 : decode cX14_until 36 = .ok (.if_icmp .gt 40, 3) := by decide +kernel
theorem dX14_until_39 : decode cX14_until 39 = .ok (.aload_n 0, 1) := by decide +kernel
theorem dX14_until_40 : decode cX14_until 40 = .ok (.getfield 31, 3) := by decide +kernel
theorem dX14_until_43 : decode cX14_until 43 = .ok (.iload_n 1, 1) := by decide +kernel
theorem dX14_until_44 : decode cX14_until 44 = .ok (.invokevirtual 305, 3) := by decide +kernel
theorem dX14_until_47 : decode cX14_until 47 = .ok (.aload_n 0, 1) := by decide +kernel
theorem dX14_until_48 : decode cX14_until 48 = .ok (.getfield 20, 3) := by decide +kernel
theorem dX14_until_51 : decode cX14_until 51 = .ok (.getfield 233, 3) := by decide +kernel
theorem dX14_until_54 : decode cX14_until 54 = .ok (.iload_n 1, 1) := by decide +kernel
theorem dX14_until_55 : decode cX14_until 55 = .ok (.iaload, 1) := by decide +kernel
theorem dX14_until_56 : decode cX14_until 56 = .ok (.if_icmp .le 5, 3) := by decide +kernel
theorem dX14_until_59 : decode cX14_until 59 = .ok (.iload_n 2, 1) := by decide +kernel
theorem dX14_until_60 : decode cX14_until 60 = .ok (.ireturn, 1) := by decide +kernel
theorem dX14_until_61 : decode cX14_until 61 = .ok (.aload_n 0, 1) := by decide +kernel
theorem dX14_until_62 : decode cX14_until 62 = .ok (.aload_n 0, 1) := by decide +kernel
theorem dX14_until_63 : decode cX14_until 63 = .ok (.getfield 31, 3) := by decide +kernel
theorem dX14_until_66 : decode cX14_until 66 = .ok (.invokevirtual 393, 3) := by decide +kernel
theorem dX14_until_69 : decode cX14_until 69 = .ok (.pop, 1) := by decide +kernel
theorem dX14_until_70 : decode cX14_until 70 = .ok (.iinc 2 1, 3) := by decide +kernel
theorem dX14_until_73 : decode cX14_until 73 = .ok (.goto (-41), 3) := by decide +kernel
theorem dX14_until_76 : decode cX14_until 76 = .ok (.iconst (-1), 1) := by decide +kernel
theorem dX14_until_77 : decode cX14_until 77 = .ok (.ireturn, 1) := by decide +kernel
theorem dX14_mean_0 : decode cX14_mean 0 = .ok (.aload_n 0, 1) := by decide +kernel
theorem dX14_mean_1 : decode cX14_mean 1 = .ok (.iconst 0, 1) := by decide +kernel
theorem dX14_mean_2 : decode cX14_mean 2 = .ok (.putfield 40, 3) := by decide +kernel
theorem dX14_mean_5 : decode cX14_mean 5 = .ok (.aload_n 0, 1) := by decide +kernel
theorem dX14_mean_6 : decode cX14_mean 6 = .ok (.getfield 20, 3) := by decide +kernel
theorem dX14_mean_9 : decode cX14_mean 9 = .ok (.getfield 54, 3) := by decide +kernel
theorem dX14_mean_12 : decode cX14_mean 12 = .ok (.ifCond .ne 7, 3) := by decide +kernel
theorem dX14_mean_15 : decode cX14_mean 15 = .ok (.dconst 0, 1) := by decide +kernel
theorem dX14_mean_16 : decode cX14_mean 16 = .ok (.goto 21, 3) := by decide +kernel
theorem dX14_mean_19 : decode cX14_mean 19 = .ok (.aload_n 0, 1) := by decide +kernel
theorem dX14_mean_20 : decode cX14_mean 20 = .ok (.aload_n 0, 1) := by decide +kernel
theorem dX14_mean_21 : decode cX14_mean 21 = .ok (.getfield 27, 3) := by decide +kernel
theorem dX14_mean_24 : decode cX14_mean 24 = .ok (.invokevirtual 397, 3) := by decide +kernel
theorem dX14_mean_27 : decode cX14_mean 27 = .ok (.i2d, 1) := by decide +kernel
theorem dX14_mean_28 : decode cX14_mean 28 = .ok (.aload_n 0, 1) := by decide +kernel
theorem dX14_mean_29 : decode cX14_mean 29 = .ok (.getfield 20, 3) := by decide +kernel
theorem dX14_mean_32 : decode cX14_mean 32 = .ok (.getfield 54, 3) := by decide +kernel
theorem dX14_mean_35 : decode cX14_mean 35 = .ok (.i2d, 1) := by decide +kernel
theorem dX14_mean_36 : decode cX14_mean 36 = .ok (.ddiv, 1) := by decide +kernel
theorem dX14_mean_37 : decode cX14_mean 37 = .ok (.dreturn, 1) := by decide +kernel
theorem dX14_digest_0 : decode cX14_digest 0 = .ok (.aload_n 0, 1) := by decide +kernel
theorem dX14_digest_1 : decode cX14_digest 1 = .ok (.iconst 0, 1) := by decide +kernel
theorem dX14_digest_2 : decode cX14_digest 2 = .ok (.putfield 40, 3) := by decide +kernel
theorem dX14_digest_5 : decode cX14_digest 5 = .ok (.ldc2_w 461, 3) := by decide +kernel
theorem dX14_digest_8 : decode cX14_digest 8 = .ok (.lstore_n 1, 1) := by decide +kernel
theorem dX14_digest_9 : decode cX14_digest 9 = .ok (.iconst 0, 1) := by decide +kernel
theorem dX14_digest_10 : decode cX14_digest 10 = .ok (.istore_n 3, 1) := by decide +kernel
theorem dX14_digest_11 : decode cX14_digest 11 = .ok (.iload_n 3, 1) := by decide +kernel
theorem dX14_digest_12 : decode cX14_digest 12 = .ok (.bipush 13, 2) := by decide +kernel
theorem dX14_digest_14 : decode cX14_digest 14 = .ok (.if_icmp .gt 26, 3) := by decide +kernel
theorem dX14_digest_17 : decode cX14_digest 17 = .ok (.lload_n 1, 1) := by decide +kernel
theorem dX14_digest_18 : decode cX14_digest 18 = .ok (.ldc2_w 463, 3) := by decide +kernel
theorem dX14_digest_21 : decode cX14_digest 21 = .ok (.lmul, 1) := by decide +kernel
theorem dX14_digest_22 : decode cX14_digest 22 = .ok (.aload_n 0, 1) := by decide +kernel
theorem dX14_digest_23 : decode cX14_digest 23 = .ok (.aload_n 0, 1) := by decide +kernel
theorem dX14_digest_24 : decode cX14_digest 24 = .ok (.getfield 27, 3) := by decide +kernel
theorem dX14_digest_27 : decode cX14_digest 27 = .ok (.iload_n 3, 1) := by decide +kernel
theorem dX14_digest_28 : decode cX14_digest 28 = .ok (.invokevirtual 420, 3) := by decide +kernel
theorem dX14_digest_31 : decode cX14_digest 31 = .ok (.i2l, 1) := by decide +kernel
theorem dX14_digest_32 : decode cX14_digest 32 = .ok (.ladd, 1) := by decide +kernel
theorem dX14_digest_33 : decode cX14_digest 33 = .ok (.lstore_n 1, 1) := by decide +kernel
theorem dX14_digest_34 : decode cX14_digest 34 = .ok (.iinc 3 1, 3) := by decide +kernel
theorem dX14_digest_37 : decode cX14_digest 37 = .ok (.goto (-26), 3) := by decide +kernel
theorem dX14_digest_40 : decode cX14_digest 40 = .ok (.iconst 0, 1) := by decide +kernel
theorem dX14_digest_41 : decode cX14_digest 41 = .ok (.istore_n 3, 1) := by decide +kernel
theorem dX14_digest_42 : decode cX14_digest 42 = .ok (.iload_n 3, 1) := by decide +kernel
theorem dX14_digest_43 : decode cX14_digest 43 = .ok (.aload_n 0, 1) := by decide +kernel
theorem dX14_digest_44 : decode cX14_digest 44 = .ok (.getfield 20, 3) := by decide +kernel
theorem dX14_digest_47 : decode cX14_digest 47 = .ok (.getfield 54, 3) := by decide +kernel
theorem dX14_digest_50 : decode cX14_digest 50 = .ok (.if_icmp .ge 40, 3) := by decide +kernel
theorem dX14_digest_53 : decode cX14_digest 53 = .ok (.iconst 0, 1) := by decide +kernel
theorem dX14_digest_54 : decode cX14_digest 54 = .ok (.istore 4, 2) := by decide +kernel
theorem dX14_digest_56 : decode cX14_digest 56 = .ok (.iload 4, 2) := by decide +kernel
theorem dX14_digest_58 : decode cX14_digest 58 = .ok (.bipush 6, 2) := by decide +kernel
theorem dX14_digest_60 : decode cX14_digest 60 = .ok (.if_icmp .gt 24, 3) := by decide +kernel
theorem dX14_digest_63 : decode cX14_digest 63 = .ok (.lload_n 1, 1) := by decide +kernel
theorem dX14_digest_64 : decode cX14_digest 64 = .ok (.ldc2_w 463, 3) := by decide +kernel
theorem dX14_digest_67 : decode cX14_digest 67 = .ok (.lmul, 1) := by decide +kernel
theorem dX14_digest_68 : decode cX14_digest 68 = .ok (.aload_n 0, 1) := by decide +kernel
theorem dX14_digest_69 : decode cX14_digest 69 = .ok (.iload_n 3, 1) := by decide +kernel
theorem dX14_digest_70 : decode cX14_digest 70 = .ok (.iload 4, 2) := by decide +kernel
theorem dX14_digest_72 : decode cX14_digest 72 = .ok (.invokevirtual 426, 3) := by decide +kernel
theorem dX14_digest_75 : decode cX14_digest 75 = .ok (.i2l, 1) := by decide +kernel
theorem dX14_digest_76 : decode cX14_digest 76 = .ok (.ladd, 1) := by decide +kernel
theorem dX14_digest_77 : decode cX14_digest 77 = .ok (.lstore_n 1, 1) := by decide +kernel
theorem dX14_digest_78 : decode cX14_digest 78 = .ok (.iinc 4 1, 3) := by decide +kernel
theorem dX14_digest_81 : decode cX14_digest 81 = .ok (.goto (-25), 3) := by decide +kernel
theorem dX14_digest_84 : decode cX14_digest 84 = .ok (.iinc 3 1, 3) := by decide +kernel
theorem dX14_digest_87 : decode cX14_digest 87 = .ok (.goto (-45), 3) := by decide +kernel
theorem dX14_digest_90 : decode cX14_digest 90 = .ok (.iconst 0, 1) := by decide +kernel
theorem dX14_digest_91 : decode cX14_digest 91 = .ok (.istore_n 3, 1) := by decide +kernel
theorem dX14_digest_92 : decode cX14_digest 92 = .ok (.iload_n 3, 1) := by decide +kernel
theorem dX14_digest_93 : decode cX14_digest 93 = .ok (.aload_n 0, 1) := by decide +kernel
theorem dX14_digest_94 : decode cX14_digest 94 = .ok (.getfield 20, 3) := by decide +kernel
theorem dX14_digest_97 : decode cX14_digest 97 = .ok (.getfield 43, 3) := by decide +kernel
theorem dX14_digest_100 : decode cX14_digest 100 = .ok (.if_icmp .ge 78, 3) := by decide +kernel
theorem dX14_digest_103 : decode cX14_digest 103 = .ok (.iconst 0, 1) := by decide +kernel
theorem dX14_digest_104 : decode cX14_digest 104 = .ok (.istore 4, 2) := by decide +kernel
theorem dX14_digest_106 : decode cX14_digest 106 = .ok (.iload 4, 2) := by decide +kernel
theorem dX14_digest_108 : decode cX14_digest 108 = .ok (.iconst 5, 1) := by decide +kernel
theorem dX14_digest_109 : decode cX14_digest 109 = .ok (.if_icmp .gt 24, 3) := by decide +kernel
theorem dX14_digest_112 : decode cX14_digest 112 = .ok (.lload_n 1, 1) := by decide +kernel
theorem dX14_digest_113 : decode cX14_digest 113 = .ok (.ldc2_w 463, 3) := by decide +kernel
theorem dX14_digest_116 : decode cX14_digest 116 = .ok (.lmul, 1) := by decide +kernel
theorem dX14_digest_117 : decode cX14_digest 117 = .ok (.aload_n 0, 1) := by decide +kernel
theorem dX14_digest_118 : decode cX14_digest 118 = .ok (.iload_n 3, 1) := by decide +kernel
theorem dX14_digest_119 : decode cX14_digest 119 = .ok (.iload 4, 2) := by decide +kernel
theorem dX14_digest_121 : decode cX14_digest 121 = .ok (.invokevirtual 436, 3) := by decide +kernel
theorem dX14_digest_124 : decode cX14_digest 124 = .ok (.i2l, 1) := by decide +kernel
theorem dX14_digest_125 : decode cX14_digest 125 = .ok (.ladd, 1) := by decide +kernel
theorem dX14_digest_126 : decode cX14_digest 126 = .ok (.lstore_n 1, 1) := by decide +kernel
theorem dX14_digest_127 : decode cX14_digest 127 = .ok (.iinc 4 1, 3) := by decide +kernel
theorem dX14_digest_130 : decode cX14_digest 130 = .ok (.goto (-24), 3) := by decide +kernel
theorem dX14_digest_133 : decode cX14_digest 133 = .ok (.iconst 0, 1) := by decide +kernel
theorem dX14_digest_134 : decode cX14_digest 134 = .ok (.istore 4, 2) := by decide +kernel
theorem dX14_digest_136 : decode cX14_digest 136 = .ok (.iload 4, 2) := by decide +kernel
theorem dX14_digest_138 : decode cX14_digest 138 = .ok (.aload_n 0, 1) := by decide +kernel
theorem dX14_digest_139 : decode cX14_digest 139 = .ok (.getfield 20, 3) := by decide +kernel
theorem dX14_digest_142 : decode cX14_digest 142 = .ok (.getfield 43, 3) := by decide +kernel
theorem dX14_digest_145 : decode cX14_digest 145 = .ok (.if_icmp .ge 27, 3) := by decide +kernel
theorem dX14_digest_148 : decode cX14_digest 148 = .ok (.lload_n 1, 1) := by decide +kernel
theorem dX14_digest_149 : decode cX14_digest 149 = .ok (.ldc2_w 463, 3) := by decide +kernel
theorem dX14_digest_152 : decode cX14_digest 152 = .ok (.lmul, 1) := by decide +kernel
theorem dX14_digest_153 : decode cX14_digest 153 = .ok (.aload_n 0, 1) := by decide +kernel
theorem dX14_digest_154 : decode cX14_digest 154 = .ok (.getfield 27, 3) := by decide +kernel
theorem dX14_digest_157 : decode cX14_digest 157 = .ok (.iload_n 3, 1) := by decide +kernel
theorem dX14_digest_158 : decode cX14_digest 158 = .ok (.iload 4, 2) := by decide +kernel
theorem dX14_digest_160 : decode cX14_digest 160 = .ok (.invokevirtual 317, 3) := by decide +kernel
theorem dX14_digest_163 : decode cX14_digest 163 = .ok (.i2l, 1) := by decide +kernel
theorem dX14_digest_164 : decode cX14_digest 164 = .ok (.ladd, 1) := by decide +kernel
theorem dX14_digest_165 : decode cX14_digest 165 = .ok (.lstore_n 1, 1) := by decide +kernel
theorem dX14_digest_166 : decode cX14_digest 166 = .ok (.iinc 4 1, 3) := by decide +kernel
theorem dX14_digest_169 : decode cX14_digest 169 = .ok (.goto (-33), 3) := by decide +kernel
theorem dX14_digest_172 : decode cX14_digest 172 = .ok (.iinc 3 1, 3) := by decide +kernel
theorem dX14_digest_175 : decode cX14_digest 175 = .ok (.goto (-83), 3) := by decide +kernel
theorem dX14_digest_178 : decode cX14_digest 178 = .ok (.iconst 0, 1) := by decide +kernel
theorem dX14_digest_179 : decode cX14_digest 179 = .ok (.istore_n 3, 1) := by decide +kernel
theorem dX14_digest_180 : decode cX14_digest 180 = .ok (.iload_n 3, 1) := by decide +kernel
theorem dX14_digest_181 : decode cX14_digest 181 = .ok (.aload_n 0, 1) := by decide +kernel
theorem dX14_digest_182 : decode cX14_digest 182 = .ok (.getfield 20, 3) := by decide +kernel
theorem dX14_digest_185 : decode cX14_digest 185 = .ok (.getfield 174, 3) := by decide +kernel
theorem dX14_digest_188 : decode cX14_digest 188 = .ok (.if_icmp .ge 39, 3) := by decide +kernel
theorem dX14_digest_191 : decode cX14_digest 191 = .ok (.iconst 0, 1) := by decide +kernel
theorem dX14_digest_192 : decode cX14_digest 192 = .ok (.istore 4, 2) := by decide +kernel
theorem dX14_digest_194 : decode cX14_digest 194 = .ok (.iload 4, 2) := by decide +kernel
theorem dX14_digest_196 : decode cX14_digest 196 = .ok (.iconst 3, 1) := by decide +kernel
theorem dX14_digest_197 : decode cX14_digest 197 = .ok (.if_icmp .gt 24, 3) := by decide +kernel
theorem dX14_digest_200 : decode cX14_digest 200 = .ok (.lload_n 1, 1) := by decide +kernel
theorem dX14_digest_201 : decode cX14_digest 201 = .ok (.ldc2_w 463, 3) := by decide +kernel
theorem dX14_digest_204 : decode cX14_digest 204 = .ok (.lmul, 1) := by decide +kernel
theorem dX14_digest_205 : decode cX14_digest 205 = .ok (.aload_n 0, 1) := by decide +kernel
theorem dX14_digest_206 : decode cX14_digest 206 = .ok (.iload_n 3, 1) := by decide +kernel
theorem dX14_digest_207 : decode cX14_digest 207 = .ok (.iload 4, 2) := by decide +kernel
theorem dX14_digest_209 : decode cX14_digest 209 = .ok (.invokevirtual 439, 3) := by decide +kernel
theorem dX14_digest_212 : decode cX14_digest 212 = .ok (.i2l, 1) := by decide +kernel
theorem dX14_digest_213 : decode cX14_digest 213 = .ok (.ladd, 1) := by decide +kernel
theorem dX14_digest_214 : decode cX14_digest 214 = .ok (.lstore_n 1, 1) := by decide +kernel
theorem dX14_digest_215 : decode cX14_digest 215 = .ok (.iinc 4 1, 3) := by decide +kernel
theorem dX14_digest_218 : decode cX14_digest 218 = .ok (.goto (-24), 3) := by decide +kernel
theorem dX14_digest_221 : decode cX14_digest 221 = .ok (.iinc 3 1, 3) := by decide +kernel
theorem dX14_digest_224 : decode cX14_digest 224 = .ok (.goto (-44), 3) := by decide +kernel
theorem dX14_digest_227 : decode cX14_digest 227 = .ok (.iconst 0, 1) := by decide +kernel
theorem dX14_digest_228 : decode cX14_digest 228 = .ok (.istore_n 3, 1) := by decide +kernel
theorem dX14_digest_229 : decode cX14_digest 229 = .ok (.iload_n 3, 1) := by decide +kernel
theorem dX14_digest_230 : decode cX14_digest 230 = .ok (.aload_n 0, 1) := by decide +kernel
theorem dX14_digest_231 : decode cX14_digest 231 = .ok (.getfield 20, 3) := by decide +kernel
theorem dX14_digest_234 : decode cX14_digest 234 = .ok (.getfield 208, 3) := by decide +kernel
theorem dX14_digest_237 : decode cX14_digest 237 = .ok (.if_icmp .ge 39, 3) := by decide +kernel
theorem dX14_digest_240 : decode cX14_digest 240 = .ok (.iconst 0, 1) := by decide +kernel
theorem dX14_digest_241 : decode cX14_digest 241 = .ok (.istore 4, 2) := by decide +kernel
theorem dX14_digest_243 : decode cX14_digest 243 = .ok (.iload 4, 2) := by decide +kernel
theorem dX14_digest_245 : decode cX14_digest 245 = .ok (.iconst 4, 1) := by decide +kernel
theorem dX14_digest_246 : decode cX14_digest 246 = .ok (.if_icmp .gt 24, 3) := by decide +kernel
theorem dX14_digest_249 : decode cX14_digest 249 = .ok (.lload_n 1, 1) := by decide +kernel
theorem dX14_digest_250 : decode cX14_digest 250 = .ok (.ldc2_w 463, 3) := by decide +kernel
theorem dX14_digest_253 : decode cX14_digest 253 = .ok (.lmul, 1) := by decide +kernel
theorem dX14_digest_254 : decode cX14_digest 254 = .ok (.aload_n 0, 1) := by decide +kernel
theorem dX14_digest_255 : decode cX14_digest 255 = .ok (.iload_n 3, 1) := by decide +kernel
theorem dX14_digest_256 : decode cX14_digest 256 = .ok (.iload 4, 2) := by decide +kernel
theorem dX14_digest_258 : decode cX14_digest 258 = .ok (.invokevirtual 442, 3) := by decide +kernel
theorem dX14_digest_261 : decode cX14_digest 261 = .ok (.i2l, 1) := by decide +kernel
theorem dX14_digest_262 : decode cX14_digest 262 = .ok (.ladd, 1) := by decide +kernel
theorem dX14_digest_263 : decode cX14_digest 263 = .ok (.lstore_n 1, 1) := by decide +kernel
theorem dX14_digest_264 : decode cX14_digest 264 = .ok (.iinc 4 1, 3) := by decide +kernel
theorem dX14_digest_267 : decode cX14_digest 267 = .ok (.goto (-24), 3) := by decide +kernel
theorem dX14_digest_270 : decode cX14_digest 270 = .ok (.iinc 3 1, 3) := by decide +kernel
theorem dX14_digest_273 : decode cX14_digest 273 = .ok (.goto (-44), 3) := by decide +kernel
theorem dX14_digest_276 : decode cX14_digest 276 = .ok (.lload_n 1, 1) := by decide +kernel
theorem dX14_digest_277 : decode cX14_digest 277 = .ok (.lreturn, 1) := by decide +kernel
theorem dX2_joinsTests_0 : decode cX2_joinsTests 0 = .ok (.iload_n 0, 1) := by decide +kernel
theorem dX2_joinsTests_1 : decode cX2_joinsTests 1 = .ok (.bipush 28, 2) := by decide +kernel
theorem dX2_joinsTests_3 : decode cX2_joinsTests 3 = .ok (.if_icmp .eq 9, 3) := by decide +kernel
theorem dX2_joinsTests_6 : decode cX2_joinsTests 6 = .ok (.iload_n 0, 1) := by decide +kernel
theorem dX2_joinsTests_7 : decode cX2_joinsTests 7 = .ok (.bipush 29, 2) := by decide +kernel
theorem dX2_joinsTests_9 : decode cX2_joinsTests 9 = .ok (.if_icmp .ne 7, 3) := by decide +kernel
theorem dX2_joinsTests_12 : decode cX2_joinsTests 12 = .ok (.iconst 1, 1) := by decide +kernel
theorem dX2_joinsTests_13 : decode cX2_joinsTests 13 = .ok (.goto 4, 3) := by decide +kernel
theorem dX2_joinsTests_16 : decode cX2_joinsTests 16 = .ok (.iconst 0, 1) := by decide +kernel
theorem dX2_joinsTests_17 : decode cX2_joinsTests 17 = .ok (.ireturn, 1) := by decide +kernel
theorem dX2_compares_0 : decode cX2_compares 0 = .ok (.iload_n 0, 1) := by decide +kernel
theorem dX2_compares_1 : decode cX2_compares 1 = .ok (.bipush 42, 2) := by decide +kernel
theorem dX2_compares_3 : decode cX2_compares 3 = .ok (.if_icmp .lt 13, 3) := by decide +kernel
theorem dX2_compares_6 : decode cX2_compares 6 = .ok (.iload_n 0, 1) := by decide +kernel
theorem dX2_compares_7 : decode cX2_compares 7 = .ok (.bipush 46, 2) := by decide +kernel
theorem dX2_compares_9 : decode cX2_compares 9 = .ok (.if_icmp .gt 7, 3) := by decide +kernel
theorem dX2_compares_12 : decode cX2_compares 12 = .ok (.iconst 1, 1) := by decide +kernel
theorem dX2_compares_13 : decode cX2_compares 13 = .ok (.goto 4, 3) := by decide +kernel
theorem dX2_compares_16 : decode cX2_compares 16 = .ok (.iconst 0, 1) := by decide +kernel
theorem dX2_compares_17 : decode cX2_compares 17 = .ok (.ireturn, 1) := by decide +kernel
theorem dX2_joinsSums_0 : decode cX2_joinsSums 0 = .ok (.iload_n 0, 1) := by decide +kernel
theorem dX2_joinsSums_1 : decode cX2_joinsSums 1 = .ok (.bipush 38, 2) := by decide +kernel
theorem dX2_joinsSums_3 : decode cX2_joinsSums 3 = .ok (.if_icmp .lt 9, 3) := by decide +kernel
theorem dX2_joinsSums_6 : decode cX2_joinsSums 6 = .ok (.iload_n 0, 1) := by decide +kernel
theorem dX2_joinsSums_7 : decode cX2_joinsSums 7 = .ok (.bipush 41, 2) := by decide +kernel
theorem dX2_joinsSums_9 : decode cX2_joinsSums 9 = .ok (.if_icmp .le 15, 3) := by decide +kernel
theorem dX2_joinsSums_12 : decode cX2_joinsSums 12 = .ok (.iload_n 0, 1) := by decide +kernel
theorem dX2_joinsSums_13 : decode cX2_joinsSums 13 = .ok (.bipush 30, 2) := by decide +kernel
theorem dX2_joinsSums_15 : decode cX2_joinsSums 15 = .ok (.if_icmp .eq 9, 3) := by decide +kernel
theorem dX2_joinsSums_18 : decode cX2_joinsSums 18 = .ok (.iload_n 0, 1) := by decide +kernel
theorem dX2_joinsSums_19 : decode cX2_joinsSums 19 = .ok (.bipush 31, 2) := by decide +kernel
theorem dX2_joinsSums_21 : decode cX2_joinsSums 21 = .ok (.if_icmp .ne 7, 3) := by decide +kernel
theorem dX2_joinsSums_24 : decode cX2_joinsSums 24 = .ok (.iconst 1, 1) := by decide +kernel
theorem dX2_joinsSums_25 : decode cX2_joinsSums 25 = .ok (.goto 4, 3) := by decide +kernel
theorem dX2_joinsSums_28 : decode cX2_joinsSums 28 = .ok (.iconst 0, 1) := by decide +kernel
theorem dX2_joinsSums_29 : decode cX2_joinsSums 29 = .ok (.ireturn, 1) := by decide +kernel
theorem dX3_init_0 : decode cX3_init 0 = .ok (.aload_n 0, 1) := by decide +kernel
theorem dX3_init_1 : decode cX3_init 1 = .ok (.invokespecial 1, 3) := by decide +kernel
theorem dX3_init_4 : decode cX3_init 4 = .ok (.aload_n 0, 1) := by decide +kernel
theorem dX3_init_5 : decode cX3_init 5 = .ok (.iload_n 1, 1) := by decide +kernel
theorem dX3_init_6 : decode cX3_init 6 = .ok (.putfield 7, 3) := by decide +kernel
theorem dX3_init_9 : decode cX3_init 9 = .ok (.aload_n 0, 1) := by decide +kernel
theorem dX3_init_10 : decode cX3_init 10 = .ok (.new 13, 3) := by decide +kernel
theorem dX3_init_13 : decode cX3_init 13 = .ok (.dup, 1) := by decide +kernel
theorem dX3_init_14 : decode cX3_init 14 = .ok (.iload_n 1, 1) := by decide +kernel
theorem dX3_init_15 : decode cX3_init 15 = .ok (.invokespecial 15, 3) := by decide +kernel
theorem dX3_init_18 : decode cX3_init 18 = .ok (.putfield 18, 3) := by decide +kernel
theorem dX3_init_21 : decode cX3_init 21 = .ok (.aload_n 0, 1) := by decide +kernel
theorem dX3_init_22 : decode cX3_init 22 = .ok (.iconst 0, 1) := by decide +kernel
theorem dX3_init_23 : decode cX3_init 23 = .ok (.putfield 22, 3) := by decide +kernel
theorem dX3_init_26 : decode cX3_init 26 = .ok (.return_, 1) := by decide +kernel
theorem dX3_forget_0 : decode cX3_forget 0 = .ok (.aload_n 0, 1) := by decide +kernel
theorem dX3_forget_1 : decode cX3_forget 1 = .ok (.iconst 0, 1) := by decide +kernel
theorem dX3_forget_2 : decode cX3_forget 2 = .ok (.putfield 22, 3) := by decide +kernel
theorem dX3_forget_5 : decode cX3_forget 5 = .ok (.return_, 1) := by decide +kernel
theorem dX3_told_0 : decode cX3_told 0 = .ok (.aload_n 0, 1) := by decide +kernel
theorem dX3_told_1 : decode cX3_told 1 = .ok (.getfield 22, 3) := by decide +kernel
theorem dX3_told_4 : decode cX3_told 4 = .ok (.ireturn, 1) := by decide +kernel
theorem dX3_isFull_0 : decode cX3_isFull 0 = .ok (.aload_n 0, 1) := by decide +kernel
theorem dX3_isFull_1 : decode cX3_isFull 1 = .ok (.getfield 22, 3) := by decide +kernel
theorem dX3_isFull_4 : decode cX3_isFull 4 = .ok (.aload_n 0, 1) := by decide +kernel
theorem dX3_isFull_5 : decode cX3_isFull 5 = .ok (.getfield 7, 3) := by decide +kernel
theorem dX3_isFull_8 : decode cX3_isFull 8 = .ok (.if_icmp .lt 7, 3) := by decide +kernel
theorem dX3_isFull_11 : decode cX3_isFull 11 = .ok (.iconst 1, 1) := by decide +kernel
theorem dX3_isFull_12 : decode cX3_isFull 12 = .ok (.goto 4, 3) := by decide +kernel
theorem dX3_isFull_15 : decode cX3_isFull 15 = .ok (.iconst 0, 1) := by decide +kernel
theorem dX3_isFull_16 : decode cX3_isFull 16 = .ok (.ireturn, 1) := by decide +kernel
theorem dX3_find_0 : decode cX3_find 0 = .ok (.iconst 0, 1) := by decide +kernel
theorem dX3_find_1 : decode cX3_find 1 = .ok (.istore_n 2, 1) := by decide +kernel
theorem dX3_find_2 : decode cX3_find 2 = .ok (.iload_n 2, 1) := by decide +kernel
theorem dX3_find_3 : decode cX3_find 3 = .ok (.aload_n 0, 1) := by decide +kernel
theorem dX3_find_4 : decode cX3_find 4 = .ok (.getfield 22, 3) := by decide +kernel
theorem dX3_find_7 : decode cX3_find 7 = .ok (.if_icmp .ge 23, 3) := by decide +kernel
theorem dX3_find_10 : decode cX3_find 10 = .ok (.aload_n 0, 1) := by decide +kernel
theorem dX3_find_11 : decode cX3_find 11 = .ok (.getfield 18, 3) := by decide +kernel
theorem dX3_find_14 : decode cX3_find 14 = .ok (.iload_n 2, 1) := by decide +kernel
theorem dX3_find_15 : decode cX3_find 15 = .ok (.invokevirtual 25, 3) := by decide +kernel
theorem dX3_find_18 : decode cX3_find 18 = .ok (.iload_n 1, 1) := by decide +kernel
theorem dX3_find_19 : decode cX3_find 19 = .ok (.if_icmp .ne 5, 3) := by decide +kernel
theorem dX3_find_22 : decode cX3_find 22 = .ok (.iload_n 2, 1) := by decide +kernel
theorem dX3_find_23 : decode cX3_find 23 = .ok (.ireturn, 1) := by decide +kernel
theorem dX3_find_24 : decode cX3_find 24 = .ok (.iinc 2 1, 3) := by decide +kernel
theorem dX3_find_27 : decode cX3_find 27 = .ok (.goto (-25), 3) := by decide +kernel
theorem dX3_find_30 : decode cX3_find 30 = .ok (.iconst (-1), 1) := by decide +kernel
theorem dX3_find_31 : decode cX3_find 31 = .ok (.ireturn, 1) := by decide +kernel
theorem dX3_add_0 : decode cX3_add 0 = .ok (.aload_n 0, 1) := by decide +kernel
theorem dX3_add_1 : decode cX3_add 1 = .ok (.getfield 18, 3) := by decide +kernel
theorem dX3_add_4 : decode cX3_add 4 = .ok (.aload_n 0, 1) := by decide +kernel
theorem dX3_add_5 : decode cX3_add 5 = .ok (.getfield 22, 3) := by decide +kernel
theorem dX3_add_8 : decode cX3_add 8 = .ok (.iload_n 1, 1) := by decide +kernel
theorem dX3_add_9 : decode cX3_add 9 = .ok (.invokevirtual 29, 3) := by decide +kernel
theorem dX3_add_12 : decode cX3_add 12 = .ok (.aload_n 0, 1) := by decide +kernel
theorem dX3_add_13 : decode cX3_add 13 = .ok (.dup, 1) := by decide +kernel
theorem dX3_add_14 : decode cX3_add 14 = .ok (.getfield 22, 3) := by decide +kernel
theorem dX3_add_17 : decode cX3_add 17 = .ok (.iconst 1, 1) := by decide +kernel
theorem dX3_add_18 : decode cX3_add 18 = .ok (.iadd, 1) := by decide +kernel
theorem dX3_add_19 : decode cX3_add 19 = .ok (.putfield 22, 3) := by decide +kernel
theorem dX3_add_22 : decode cX3_add 22 = .ok (.aload_n 0, 1) := by decide +kernel
theorem dX3_add_23 : decode cX3_add 23 = .ok (.getfield 22, 3) := by decide +kernel
theorem dX3_add_26 : decode cX3_add 26 = .ok (.iconst 1, 1) := by decide +kernel
theorem dX3_add_27 : decode cX3_add 27 = .ok (.isub, 1) := by decide +kernel
theorem dX3_add_28 : decode cX3_add 28 = .ok (.ireturn, 1) := by decide +kernel
theorem dX4_init_0 : decode cX4_init 0 = .ok (.aload_n 0, 1) := by decide +kernel
theorem dX4_init_1 : decode cX4_init 1 = .ok (.invokespecial 1, 3) := by decide +kernel
theorem dX4_init_4 : decode cX4_init 4 = .ok (.aload_n 0, 1) := by decide +kernel
theorem dX4_init_5 : decode cX4_init 5 = .ok (.new 7, 3) := by decide +kernel
theorem dX4_init_8 : decode cX4_init 8 = .ok (.dup, 1) := by decide +kernel
theorem dX4_init_9 : decode cX4_init 9 = .ok (.iconst 4, 1) := by decide +kernel
theorem dX4_init_10 : decode cX4_init 10 = .ok (.invokespecial 11, 3) := by decide +kernel
theorem dX4_init_13 : decode cX4_init 13 = .ok (.putfield 14, 3) := by decide +kernel
theorem dX4_init_16 : decode cX4_init 16 = .ok (.aload_n 0, 1) := by decide +kernel
theorem dX4_init_17 : decode cX4_init 17 = .ok (.new 7, 3) := by decide +kernel
theorem dX4_init_20 : decode cX4_init 20 = .ok (.dup, 1) := by decide +kernel
theorem dX4_init_21 : decode cX4_init 21 = .ok (.iconst 4, 1) := by decide +kernel
theorem dX4_init_22 : decode cX4_init 22 = .ok (.invokespecial 11, 3) := by decide +kernel
theorem dX4_init_25 : decode cX4_init 25 = .ok (.putfield 18, 3) := by decide +kernel
theorem dX4_init_28 : decode cX4_init 28 = .ok (.aload_n 0, 1) := by decide +kernel
theorem dX4_init_29 : decode cX4_init 29 = .ok (.new 7, 3) := by decide +kernel
theorem dX4_init_32 : decode cX4_init 32 = .ok (.dup, 1) := by decide +kernel
theorem dX4_init_33 : decode cX4_init 33 = .ok (.iconst 4, 1) := by decide +kernel
theorem dX4_init_34 : decode cX4_init 34 = .ok (.invokespecial 11, 3) := by decide +kernel
theorem dX4_init_37 : decode cX4_init 37 = .ok (.putfield 21, 3) := by decide +kernel
theorem dX4_init_40 : decode cX4_init 40 = .ok (.aload_n 0, 1) := by decide +kernel
theorem dX4_init_41 : decode cX4_init 41 = .ok (.new 7, 3) := by decide +kernel
theorem dX4_init_44 : decode cX4_init 44 = .ok (.dup, 1) := by decide +kernel
theorem dX4_init_45 : decode cX4_init 45 = .ok (.bipush 6, 2) := by decide +kernel
theorem dX4_init_47 : decode cX4_init 47 = .ok (.invokespecial 11, 3) := by decide +kernel
theorem dX4_init_50 : decode cX4_init 50 = .ok (.putfield 24, 3) := by decide +kernel
theorem dX4_init_53 : decode cX4_init 53 = .ok (.aload_n 0, 1) := by decide +kernel
theorem dX4_init_54 : decode cX4_init 54 = .ok (.new 7, 3) := by decide +kernel
theorem dX4_init_57 : decode cX4_init 57 = .ok (.dup, 1) := by decide +kernel
theorem dX4_init_58 : decode cX4_init 58 = .ok (.bipush 6, 2) := by decide +kernel
theorem dX4_init_60 : decode cX4_init 60 = .ok (.invokespecial 11, 3) := by decide +kernel
theorem dX4_init_63 : decode cX4_init 63 = .ok (.putfield 27, 3) := by decide +kernel
theorem dX4_init_66 : decode cX4_init 66 = .ok (.aload_n 0, 1) := by decide +kernel
theorem dX4_init_67 : decode cX4_init 67 = .ok (.new 7, 3) := by decide +kernel
theorem dX4_init_70 : decode cX4_init 70 = .ok (.dup, 1) := by decide +kernel
theorem dX4_init_71 : decode cX4_init 71 = .ok (.bipush 10, 2) := by decide +kernel
theorem dX4_init_73 : decode cX4_init 73 = .ok (.invokespecial 11, 3) := by decide +kernel
theorem dX4_init_76 : decode cX4_init 76 = .ok (.putfield 30, 3) := by decide +kernel
theorem dX4_init_79 : decode cX4_init 79 = .ok (.aload_n 0, 1) := by decide +kernel
theorem dX4_init_80 : decode cX4_init 80 = .ok (.new 7, 3) := by decide +kernel
theorem dX4_init_83 : decode cX4_init 83 = .ok (.dup, 1) := by decide +kernel
theorem dX4_init_84 : decode cX4_init 84 = .ok (.bipush 10, 2) := by decide +kernel
theorem dX4_init_86 : decode cX4_init 86 = .ok (.invokespecial 11, 3) := by decide +kernel
theorem dX4_init_89 : decode cX4_init 89 = .ok (.putfield 33, 3) := by decide +kernel
theorem dX4_init_92 : decode cX4_init 92 = .ok (.aload_n 0, 1) := by decide +kernel
theorem dX4_init_93 : decode cX4_init 93 = .ok (.new 7, 3) := by decide +kernel
theorem dX4_init_96 : decode cX4_init 96 = .ok (.dup, 1) := by decide +kernel
theorem dX4_init_97 : decode cX4_init 97 = .ok (.bipush 10, 2) := by decide +kernel
theorem dX4_init_99 : decode cX4_init 99 = .ok (.invokespecial 11, 3) := by decide +kernel
theorem dX4_init_102 : decode cX4_init 102 = .ok (.putfield 36, 3) := by decide +kernel
theorem dX4_init_105 : decode cX4_init 105 = .ok (.aload_n 0, 1) := by decide +kernel
theorem dX4_init_106 : decode cX4_init 106 = .ok (.new 7, 3) := by decide +kernel
theorem dX4_init_109 : decode cX4_init 109 = .ok (.dup, 1) := by decide +kernel
theorem dX4_init_110 : decode cX4_init 110 = .ok (.bipush 24, 2) := by decide +kernel
theorem dX4_init_112 : decode cX4_init 112 = .ok (.invokespecial 11, 3) := by decide +kernel
theorem dX4_init_115 : decode cX4_init 115 = .ok (.putfield 39, 3) := by decide +kernel
theorem dX4_init_118 : decode cX4_init 118 = .ok (.aload_n 0, 1) := by decide +kernel
theorem dX4_init_119 : decode cX4_init 119 = .ok (.new 7, 3) := by decide +kernel
theorem dX4_init_122 : decode cX4_init 122 = .ok (.dup, 1) := by decide +kernel
theorem dX4_init_123 : decode cX4_init 123 = .ok (.bipush 24, 2) := by decide +kernel
theorem dX4_init_125 : decode cX4_init 125 = .ok (.invokespecial 11, 3) := by decide +kernel
theorem dX4_init_128 : decode cX4_init 128 = .ok (.putfield 42, 3) := by decide +kernel
theorem dX4_init_131 : decode cX4_init 131 = .ok (.aload_n 0, 1) := by decide +kernel
theorem dX4_init_132 : decode cX4_init 132 = .ok (.new 7, 3) := by decide +kernel
theorem dX4_init_135 : decode cX4_init 135 = .ok (.dup, 1) := by decide +kernel
theorem dX4_init_136 : decode cX4_init 136 = .ok (.bipush 24, 2) := by decide +kernel
theorem dX4_init_138 : decode cX4_init 138 = .ok (.invokespecial 11, 3) := by decide +kernel
theorem dX4_init_141 : decode cX4_init 141 = .ok (.putfield 45, 3) := by decide +kernel
theorem dX4_init_144 : decode cX4_init 144 = .ok (.aload_n 0, 1) := by decide +kernel
theorem dX4_init_145 : decode cX4_init 145 = .ok (.new 7, 3) := by decide +kernel
theorem dX4_init_148 : decode cX4_init 148 = .ok (.dup, 1) := by decide +kernel
theorem dX4_init_149 : decode cX4_init 149 = .ok (.bipush 24, 2) := by decide +kernel
theorem dX4_init_151 : decode cX4_init 151 = .ok (.invokespecial 11, 3) := by decide +kernel
theorem dX4_init_154 : decode cX4_init 154 = .ok (.putfield 48, 3) := by decide +kernel
theorem dX4_init_157 : decode cX4_init 157 = .ok (.aload_n 0, 1) := by decide +kernel
theorem dX4_init_158 : decode cX4_init 158 = .ok (.new 7, 3) := by decide +kernel
theorem dX4_init_161 : decode cX4_init 161 = .ok (.dup, 1) := by decide +kernel
theorem dX4_init_162 : decode cX4_init 162 = .ok (.bipush 24, 2) := by decide +kernel
theorem dX4_init_164 : decode cX4_init 164 = .ok (.invokespecial 11, 3) := by decide +kernel
theorem dX4_init_167 : decode cX4_init 167 = .ok (.putfield 51, 3) := by decide +kernel
theorem dX4_init_170 : decode cX4_init 170 = .ok (.aload_n 0, 1) := by decide +kernel
theorem dX4_init_171 : decode cX4_init 171 = .ok (.new 7, 3) := by decide +kernel
theorem dX4_init_174 : decode cX4_init 174 = .ok (.dup, 1) := by decide +kernel
theorem dX4_init_175 : decode cX4_init 175 = .ok (.bipush 24, 2) := by decide +kernel
theorem dX4_init_177 : decode cX4_init 177 = .ok (.invokespecial 11, 3) := by decide +kernel
theorem dX4_init_180 : decode cX4_init 180 = .ok (.putfield 54, 3) := by decide +kernel
theorem dX4_init_183 : decode cX4_init 183 = .ok (.aload_n 0, 1) := by decide +kernel
theorem dX4_init_184 : decode cX4_init 184 = .ok (.new 57, 3) := by decide +kernel
theorem dX4_init_187 : decode cX4_init 187 = .ok (.dup, 1) := by decide +kernel
theorem dX4_init_188 : decode cX4_init 188 = .ok (.invokespecial 59, 3) := by decide +kernel
theorem dX4_init_191 : decode cX4_init 191 = .ok (.putfield 60, 3) := by decide +kernel
theorem dX4_init_194 : decode cX4_init 194 = .ok (.return_, 1) := by decide +kernel
theorem dX4_copyFrom_0 : decode cX4_copyFrom 0 = .ok (.aload_n 0, 1) := by decide +kernel
theorem dX4_copyFrom_1 : decode cX4_copyFrom 1 = .ok (.aload_n 1, 1) := by decide +kernel
theorem dX4_copyFrom_2 : decode cX4_copyFrom 2 = .ok (.getfield 64, 3) := by decide +kernel
theorem dX4_copyFrom_5 : decode cX4_copyFrom 5 = .ok (.putfield 64, 3) := by decide +kernel
theorem dX4_copyFrom_8 : decode cX4_copyFrom 8 = .ok (.aload_n 0, 1) := by decide +kernel
theorem dX4_copyFrom_9 : decode cX4_copyFrom 9 = .ok (.aload_n 1, 1) := by decide +kernel
theorem dX4_copyFrom_10 : decode cX4_copyFrom 10 = .ok (.getfield 68, 3) := by decide +kernel
theorem dX4_copyFrom_13 : decode cX4_copyFrom 13 = .ok (.putfield 68, 3) := by decide +kernel
theorem dX4_copyFrom_16 : decode cX4_copyFrom 16 = .ok (.aload_n 0, 1) := by decide +kernel
theorem dX4_copyFrom_17 : decode cX4_copyFrom 17 = .ok (.aload_n 1, 1) := by decide +kernel
theorem dX4_copyFrom_18 : decode cX4_copyFrom 18 = .ok (.getfield 71, 3) := by decide +kernel
theorem dX4_copyFrom_21 : decode cX4_copyFrom 21 = .ok (.putfield 71, 3) := by decide +kernel
theorem dX4_copyFrom_24 : decode cX4_copyFrom 24 = .ok (.aload_n 0, 1) := by decide +kernel
theorem dX4_copyFrom_25 : decode cX4_copyFrom 25 = .ok (.aload_n 1, 1) := by decide +kernel
theorem dX4_copyFrom_26 : decode cX4_copyFrom 26 = .ok (.getfield 74, 3) := by decide +kernel
theorem dX4_copyFrom_29 : decode cX4_copyFrom 29 = .ok (.putfield 74, 3) := by decide +kernel
theorem dX4_copyFrom_32 : decode cX4_copyFrom 32 = .ok (.aload_n 0, 1) := by decide +kernel
theorem dX4_copyFrom_33 : decode cX4_copyFrom 33 = .ok (.aload_n 1, 1) := by decide +kernel
theorem dX4_copyFrom_34 : decode cX4_copyFrom 34 = .ok (.getfield 77, 3) := by decide +kernel
theorem dX4_copyFrom_37 : decode cX4_copyFrom 37 = .ok (.putfield 77, 3) := by decide +kernel
theorem dX4_copyFrom_40 : decode cX4_copyFrom 40 = .ok (.aload_n 0, 1) := by decide +kernel
theorem dX4_copyFrom_41 : decode cX4_copyFrom 41 = .ok (.getfield 14, 3) := by decide +kernel
theorem dX4_copyFrom_44 : decode cX4_copyFrom 44 = .ok (.aload_n 1, 1) := by decide +kernel
theorem dX4_copyFrom_45 : decode cX4_copyFrom 45 = .ok (.getfield 14, 3) := by decide +kernel
theorem dX4_copyFrom_48 : decode cX4_copyFrom 48 = .ok (.invokevirtual 80, 3) := by decide +kernel
theorem dX4_copyFrom_51 : decode cX4_copyFrom 51 = .ok (.aload_n 0, 1) := by decide +kernel
theorem dX4_copyFrom_52 : decode cX4_copyFrom 52 = .ok (.getfield 18, 3) := by decide +kernel
theorem dX4_copyFrom_55 : decode cX4_copyFrom 55 = .ok (.aload_n 1, 1) := by decide +kernel
theorem dX4_copyFrom_56 : decode cX4_copyFrom 56 = .ok (.getfield 18, 3) := by decide +kernel
theorem dX4_copyFrom_59 : decode cX4_copyFrom 59 = .ok (.invokevirtual 80, 3) := by decide +kernel
theorem dX4_copyFrom_62 : decode cX4_copyFrom 62 = .ok (.aload_n 0, 1) := by decide +kernel
theorem dX4_copyFrom_63 : decode cX4_copyFrom 63 = .ok (.getfield 21, 3) := by decide +kernel
theorem dX4_copyFrom_66 : decode cX4_copyFrom 66 = .ok (.aload_n 1, 1) := by decide +kernel
theorem dX4_copyFrom_67 : decode cX4_copyFrom 67 = .ok (.getfield 21, 3) := by decide +kernel
theorem dX4_copyFrom_70 : decode cX4_copyFrom 70 = .ok (.invokevirtual 80, 3) := by decide +kernel
theorem dX4_copyFrom_73 : decode cX4_copyFrom 73 = .ok (.aload_n 0, 1) := by decide +kernel
theorem dX4_copyFrom_74 : decode cX4_copyFrom 74 = .ok (.getfield 24, 3) := by decide +kernel
theorem dX4_copyFrom_77 : decode cX4_copyFrom 77 = .ok (.aload_n 1, 1) := by decide +kernel
theorem dX4_copyFrom_78 : decode cX4_copyFrom 78 = .ok (.getfield 24, 3) := by decide +kernel
theorem dX4_copyFrom_81 : decode cX4_copyFrom 81 = .ok (.invokevirtual 80, 3) := by decide +kernel
theorem dX4_copyFrom_84 : decode cX4_copyFrom 84 = .ok (.aload_n 0, 1) := by decide +kernel
theorem dX4_copyFrom_85 : decode cX4_copyFrom 85 = .ok (.getfield 27, 3) := by decide +kernel
theorem dX4_copyFrom_88 : decode cX4_copyFrom 88 = .ok (.aload_n 1, 1) := by decide +kernel
theorem dX4_copyFrom_89 : decode cX4_copyFrom 89 = .ok (.getfield 27, 3) := by decide +kernel
theorem dX4_copyFrom_92 : decode cX4_copyFrom 92 = .ok (.invokevirtual 80, 3) := by decide +kernel
theorem dX4_copyFrom_95 : decode cX4_copyFrom 95 = .ok (.aload_n 0, 1) := by decide +kernel
theorem dX4_copyFrom_96 : decode cX4_copyFrom 96 = .ok (.getfield 30, 3) := by decide +kernel
theorem dX4_copyFrom_99 : decode cX4_copyFrom 99 = .ok (.aload_n 1, 1) := by decide +kernel
theorem dX4_copyFrom_100 : decode cX4_copyFrom 100 = .ok (.getfield 30, 3) := by decide +kernel
theorem dX4_copyFrom_103 : decode cX4_copyFrom 103 = .ok (.invokevirtual 80, 3) := by decide +kernel
theorem dX4_copyFrom_106 : decode cX4_copyFrom 106 = .ok (.aload_n 0, 1) := by decide +kernel
theorem dX4_copyFrom_107 : decode cX4_copyFrom 107 = .ok (.getfield 33, 3) := by decide +kernel
theorem dX4_copyFrom_110 : decode cX4_copyFrom 110 = .ok (.aload_n 1, 1) := by decide +kernel
theorem dX4_copyFrom_111 : decode cX4_copyFrom 111 = .ok (.getfield 33, 3) := by decide +kernel
theorem dX4_copyFrom_114 : decode cX4_copyFrom 114 = .ok (.invokevirtual 80, 3) := by decide +kernel
theorem dX4_copyFrom_117 : decode cX4_copyFrom 117 = .ok (.aload_n 0, 1) := by decide +kernel
theorem dX4_copyFrom_118 : decode cX4_copyFrom 118 = .ok (.getfield 36, 3) := by decide +kernel
theorem dX4_copyFrom_121 : decode cX4_copyFrom 121 = .ok (.aload_n 1, 1) := by decide +kernel
theorem dX4_copyFrom_122 : decode cX4_copyFrom 122 = .ok (.getfield 36, 3) := by decide +kernel
theorem dX4_copyFrom_125 : decode cX4_copyFrom 125 = .ok (.invokevirtual 80, 3) := by decide +kernel
theorem dX4_copyFrom_128 : decode cX4_copyFrom 128 = .ok (.aload_n 0, 1) := by decide +kernel
theorem dX4_copyFrom_129 : decode cX4_copyFrom 129 = .ok (.getfield 39, 3) := by decide +kernel
theorem dX4_copyFrom_132 : decode cX4_copyFrom 132 = .ok (.aload_n 1, 1) := by decide +kernel
theorem dX4_copyFrom_133 : decode cX4_copyFrom 133 = .ok (.getfield 39, 3) := by decide +kernel
theorem dX4_copyFrom_136 : decode cX4_copyFrom 136 = .ok (.invokevirtual 80, 3) := by decide +kernel
theorem dX4_copyFrom_139 : decode cX4_copyFrom 139 = .ok (.aload_n 0, 1) := by decide +kernel
theorem dX4_copyFrom_140 : decode cX4_copyFrom 140 = .ok (.getfield 42, 3) := by decide +kernel
theorem dX4_copyFrom_143 : decode cX4_copyFrom 143 = .ok (.aload_n 1, 1) := by decide +kernel
theorem dX4_copyFrom_144 : decode cX4_copyFrom 144 = .ok (.getfield 42, 3) := by decide +kernel
theorem dX4_copyFrom_147 : decode cX4_copyFrom 147 = .ok (.invokevirtual 80, 3) := by decide +kernel
theorem dX4_copyFrom_150 : decode cX4_copyFrom 150 = .ok (.aload_n 0, 1) := by decide +kernel
theorem dX4_copyFrom_151 : decode cX4_copyFrom 151 = .ok (.getfield 45, 3) := by decide +kernel
theorem dX4_copyFrom_154 : decode cX4_copyFrom 154 = .ok (.aload_n 1, 1) := by decide +kernel
theorem dX4_copyFrom_155 : decode cX4_copyFrom 155 = .ok (.getfield 45, 3) := by decide +kernel
theorem dX4_copyFrom_158 : decode cX4_copyFrom 158 = .ok (.invokevirtual 80, 3) := by decide +kernel
theorem dX4_copyFrom_161 : decode cX4_copyFrom 161 = .ok (.aload_n 0, 1) := by decide +kernel
theorem dX4_copyFrom_162 : decode cX4_copyFrom 162 = .ok (.getfield 48, 3) := by decide +kernel
theorem dX4_copyFrom_165 : decode cX4_copyFrom 165 = .ok (.aload_n 1, 1) := by decide +kernel
theorem dX4_copyFrom_166 : decode cX4_copyFrom 166 = .ok (.getfield 48, 3) := by decide +kernel
theorem dX4_copyFrom_169 : decode cX4_copyFrom 169 = .ok (.invokevirtual 80, 3) := by decide +kernel
theorem dX4_copyFrom_172 : decode cX4_copyFrom 172 = .ok (.aload_n 0, 1) := by decide +kernel
theorem dX4_copyFrom_173 : decode cX4_copyFrom 173 = .ok (.getfield 51, 3) := by decide +kernel
theorem dX4_copyFrom_176 : decode cX4_copyFrom 176 = .ok (.aload_n 1, 1) := by decide +kernel
theorem dX4_copyFrom_177 : decode cX4_copyFrom 177 = .ok (.getfield 51, 3) := by decide +kernel
theorem dX4_copyFrom_180 : decode cX4_copyFrom 180 = .ok (.invokevirtual 80, 3) := by decide +kernel
theorem dX4_copyFrom_183 : decode cX4_copyFrom 183 = .ok (.aload_n 0, 1) := by decide +kernel
theorem dX4_copyFrom_184 : decode cX4_copyFrom 184 = .ok (.getfield 54, 3) := by decide +kernel
theorem dX4_copyFrom_187 : decode cX4_copyFrom 187 = .ok (.aload_n 1, 1) := by decide +kernel
theorem dX4_copyFrom_188 : decode cX4_copyFrom 188 = .ok (.getfield 54, 3) := by decide +kernel
theorem dX4_copyFrom_191 : decode cX4_copyFrom 191 = .ok (.invokevirtual 80, 3) := by decide +kernel
theorem dX4_copyFrom_194 : decode cX4_copyFrom 194 = .ok (.aload_n 0, 1) := by decide +kernel
theorem dX4_copyFrom_195 : decode cX4_copyFrom 195 = .ok (.getfield 60, 3) := by decide +kernel
theorem dX4_copyFrom_198 : decode cX4_copyFrom 198 = .ok (.aload_n 1, 1) := by decide +kernel
theorem dX4_copyFrom_199 : decode cX4_copyFrom 199 = .ok (.getfield 60, 3) := by decide +kernel
theorem dX4_copyFrom_202 : decode cX4_copyFrom 202 = .ok (.invokevirtual 84, 3) := by decide +kernel
theorem dX4_copyFrom_205 : decode cX4_copyFrom 205 = .ok (.return_, 1) := by decide +kernel
theorem dX5_init_0 : decode cX5_init 0 = .ok (.aload_n 0, 1) := by decide +kernel
theorem dX5_init_1 : decode cX5_init 1 = .ok (.invokespecial 1, 3) := by decide +kernel
theorem dX5_init_4 : decode cX5_init 4 = .ok (.aload_n 0, 1) := by decide +kernel
theorem dX5_init_5 : decode cX5_init 5 = .ok (.aload_n 1, 1) := by decide +kernel
theorem dX5_init_6 : decode cX5_init 6 = .ok (.putfield 7, 3) := by decide +kernel
theorem dX5_init_9 : decode cX5_init 9 = .ok (.aload_n 0, 1) := by decide +kernel
theorem dX5_init_10 : decode cX5_init 10 = .ok (.new 13, 3) := by decide +kernel
theorem dX5_init_13 : decode cX5_init 13 = .ok (.dup, 1) := by decide +kernel
theorem dX5_init_14 : decode cX5_init 14 = .ok (.invokespecial 15, 3) := by decide +kernel
theorem dX5_init_17 : decode cX5_init 17 = .ok (.putfield 16, 3) := by decide +kernel
theorem dX5_init_20 : decode cX5_init 20 = .ok (.aload_n 0, 1) := by decide +kernel
theorem dX5_init_21 : decode cX5_init 21 = .ok (.new 20, 3) := by decide +kernel
theorem dX5_init_24 : decode cX5_init 24 = .ok (.dup, 1) := by decide +kernel
theorem dX5_init_25 : decode cX5_init 25 = .ok (.iconst 4, 1) := by decide +kernel
theorem dX5_init_26 : decode cX5_init 26 = .ok (.invokespecial 22, 3) := by decide +kernel
theorem dX5_init_29 : decode cX5_init 29 = .ok (.putfield 25, 3) := by decide +kernel
theorem dX5_init_32 : decode cX5_init 32 = .ok (.aload_n 0, 1) := by decide +kernel
theorem dX5_init_33 : decode cX5_init 33 = .ok (.new 20, 3) := by decide +kernel
theorem dX5_init_36 : decode cX5_init 36 = .ok (.dup, 1) := by decide +kernel
theorem dX5_init_37 : decode cX5_init 37 = .ok (.iconst 4, 1) := by decide +kernel
theorem dX5_init_38 : decode cX5_init 38 = .ok (.invokespecial 22, 3) := by decide +kernel
theorem dX5_init_41 : decode cX5_init 41 = .ok (.putfield 29, 3) := by decide +kernel
theorem dX5_init_44 : decode cX5_init 44 = .ok (.aload_n 0, 1) := by decide +kernel
theorem dX5_init_45 : decode cX5_init 45 = .ok (.new 20, 3) := by decide +kernel
theorem dX5_init_48 : decode cX5_init 48 = .ok (.dup, 1) := by decide +kernel
theorem dX5_init_49 : decode cX5_init 49 = .ok (.bipush 6, 2) := by decide +kernel
theorem dX5_init_51 : decode cX5_init 51 = .ok (.invokespecial 22, 3) := by decide +kernel
theorem dX5_init_54 : decode cX5_init 54 = .ok (.putfield 32, 3) := by decide +kernel
theorem dX5_init_57 : decode cX5_init 57 = .ok (.aload_n 0, 1) := by decide +kernel
theorem dX5_init_58 : decode cX5_init 58 = .ok (.new 20, 3) := by decide +kernel
theorem dX5_init_61 : decode cX5_init 61 = .ok (.dup, 1) := by decide +kernel
theorem dX5_init_62 : decode cX5_init 62 = .ok (.bipush 10, 2) := by decide +kernel
theorem dX5_init_64 : decode cX5_init 64 = .ok (.invokespecial 22, 3) := by decide +kernel
theorem dX5_init_67 : decode cX5_init 67 = .ok (.putfield 35, 3) := by decide +kernel
theorem dX5_init_70 : decode cX5_init 70 = .ok (.aload_n 0, 1) := by decide +kernel
theorem dX5_init_71 : decode cX5_init 71 = .ok (.iconst 0, 1) := by decide +kernel
theorem dX5_init_72 : decode cX5_init 72 = .ok (.putfield 38, 3) := by decide +kernel
theorem dX5_init_75 : decode cX5_init 75 = .ok (.aload_n 0, 1) := by decide +kernel
theorem dX5_init_76 : decode cX5_init 76 = .ok (.iconst 0, 1) := by decide +kernel
theorem dX5_init_77 : decode cX5_init 77 = .ok (.putfield 42, 3) := by decide +kernel
theorem dX5_init_80 : decode cX5_init 80 = .ok (.aload_n 0, 1) := by decide +kernel
theorem dX5_init_81 : decode cX5_init 81 = .ok (.iconst 0, 1) := by decide +kernel
theorem dX5_init_82 : decode cX5_init 82 = .ok (.putfield 45, 3) := by decide +kernel
theorem dX5_init_85 : decode cX5_init 85 = .ok (.return_, 1) := by decide +kernel
theorem dX5_faultPlace_0 : decode cX5_faultPlace 0 = .ok (.aload_n 0, 1) := by decide +kernel
theorem dX5_faultPlace_1 : decode cX5_faultPlace 1 = .ok (.getfield 42, 3) := by decide +kernel
theorem dX5_faultPlace_4 : decode cX5_faultPlace 4 = .ok (.ifCond .ne 7, 3) := by decide +kernel
theorem dX5_faultPlace_7 : decode cX5_faultPlace 7 = .ok (.iconst (-1), 1) := by decide +kernel
theorem dX5_faultPlace_8 : decode cX5_faultPlace 8 = .ok (.goto 17, 3) := by decide +kernel
theorem dX5_faultPlace_11 : decode cX5_faultPlace 11 = .ok (.aload_n 0, 1) := by decide +kernel
theorem dX5_faultPlace_12 : decode cX5_faultPlace 12 = .ok (.getfield 7, 3) := by decide +kernel
theorem dX5_faultPlace_15 : decode cX5_faultPlace 15 = .ok (.getfield 48, 3) := by decide +kernel
theorem dX5_faultPlace_18 : decode cX5_faultPlace 18 = .ok (.aload_n 0, 1) := by decide +kernel
theorem dX5_faultPlace_19 : decode cX5_faultPlace 19 = .ok (.getfield 45, 3) := by decide +kernel
theorem dX5_faultPlace_22 : decode cX5_faultPlace 22 = .ok (.invokevirtual 54, 3) := by decide +kernel
theorem dX5_faultPlace_25 : decode cX5_faultPlace 25 = .ok (.ireturn, 1) := by decide +kernel
theorem dX5_read_0 : decode cX5_read 0 = .ok (.aload_n 0, 1) := by decide +kernel
theorem dX5_read_1 : decode cX5_read 1 = .ok (.invokevirtual 60, 3) := by decide +kernel
theorem dX5_read_4 : decode cX5_read 4 = .ok (.iconst 0, 1) := by decide +kernel
theorem dX5_read_5 : decode cX5_read 5 = .ok (.istore_n 1, 1) := by decide +kernel
theorem dX5_read_6 : decode cX5_read 6 = .ok (.iload_n 1, 1) := by decide +kernel
theorem dX5_read_7 : decode cX5_read 7 = .ok (.sipush 400, 3) := by decide +kernel
theorem dX5_read_10 : decode cX5_read 10 = .ok (.if_icmp .ge 174, 3) := by decide +kernel
theorem dX5_read_13 : decode cX5_read 13 = .ok (.aload_n 0, 1) := by decide +kernel
theorem dX5_read_14 : decode cX5_read 14 = .ok (.getfield 42, 3) := by decide +kernel
theorem dX5_read_17 : decode cX5_read 17 = .ok (.iconst 1, 1) := by decide +kernel
theorem dX5_read_18 : decode cX5_read 18 = .ok (.if_icmp .eq 166, 3) := by decide +kernel
theorem dX5_read_21 : decode cX5_read 21 = .ok (.aload_n 0, 1) := by decide +kernel
theorem dX5_read_22 : decode cX5_read 22 = .ok (.invokevirtual 63, 3) := by decide +kernel
theorem dX5_read_25 : decode cX5_read 25 = .ok (.bipush 49, 2) := by decide +kernel
theorem dX5_read_27 : decode cX5_read 27 = .ok (.if_icmp .eq 157, 3) := by decide +kernel
theorem dX5_read_30 : decode cX5_read 30 = .ok (.aload_n 0, 1) := by decide +kernel
theorem dX5_read_31 : decode cX5_read 31 = .ok (.invokevirtual 63, 3) := by decide +kernel
theorem dX5_read_34 : decode cX5_read 34 = .ok (.tableswitch 134 0 16 #[82, 134, 89, 134, 134, 96, 134, 134, 103, 134, 134, 134, 110, 134, 118, 134, 126], 82) := by decide +kernel
theorem dX5_read_116 : decode cX5_read 116 = .ok (.aload_n 0, 1) := by decide +kernel
theorem dX5_read_117 : decode cX5_read 117 = .ok (.invokevirtual 69, 3) := by decide +kernel
theorem dX5_read_120 : decode cX5_read 120 = .ok (.goto 52, 3) := by decide +kernel
theorem dX5_read_123 : decode cX5_read 123 = .ok (.aload_n 0, 1) := by decide +kernel
theorem dX5_read_124 : decode cX5_read 124 = .ok (.invokevirtual 72, 3) := by decide +kernel
theorem dX5_read_127 : decode cX5_read 127 = .ok (.goto 45, 3) := by decide +kernel
theorem dX5_read_130 : decode cX5_read 130 = .ok (.aload_n 0, 1) := by decide +kernel
theorem dX5_read_131 : decode cX5_read 131 = .ok (.invokevirtual 75, 3) := by decide +kernel
theorem dX5_read_134 : decode cX5_read 134 = .ok (.goto 38, 3) := by decide +kernel
theorem dX5_read_137 : decode cX5_read 137 = .ok (.aload_n 0, 1) := by decide +kernel
theorem dX5_read_138 : decode cX5_read 138 = .ok (.invokevirtual 78, 3) := by decide +kernel
theorem dX5_read_141 : decode cX5_read 141 = .ok (.goto 31, 3) := by decide +kernel
theorem dX5_read_144 : decode cX5_read 144 = .ok (.aload_n 0, 1) := by decide +kernel
theorem dX5_read_145 : decode cX5_read 145 = .ok (.iconst 0, 1) := by decide +kernel
theorem dX5_read_146 : decode cX5_read 146 = .ok (.invokevirtual 81, 3) := by decide +kernel
theorem dX5_read_149 : decode cX5_read 149 = .ok (.goto 23, 3) := by decide +kernel
theorem dX5_read_152 : decode cX5_read 152 = .ok (.aload_n 0, 1) := by decide +kernel
theorem dX5_read_153 : decode cX5_read 153 = .ok (.iconst 1, 1) := by decide +kernel
theorem dX5_read_154 : decode cX5_read 154 = .ok (.invokevirtual 81, 3) := by decide +kernel
theorem dX5_read_157 : decode cX5_read 157 = .ok (.goto 15, 3) := by decide +kernel
theorem dX5_read_160 : decode cX5_read 160 = .ok (.aload_n 0, 1) := by decide +kernel
theorem dX5_read_161 : decode cX5_read 161 = .ok (.iconst 2, 1) := by decide +kernel
theorem dX5_read_162 : decode cX5_read 162 = .ok (.invokevirtual 81, 3) := by decide +kernel
theorem dX5_read_165 : decode cX5_read 165 = .ok (.goto 7, 3) := by decide +kernel
theorem dX5_read_168 : decode cX5_read 168 = .ok (.aload_n 0, 1) := by decide +kernel
theorem dX5_read_169 : decode cX5_read 169 = .ok (.invokevirtual 84, 3) := by decide +kernel
theorem dX5_read_172 : decode cX5_read 172 = .ok (.aload_n 0, 1) := by decide +kernel
theorem dX5_read_173 : decode cX5_read 173 = .ok (.bipush 36, 2) := by decide +kernel
theorem dX5_read_175 : decode cX5_read 175 = .ok (.invokevirtual 87, 3) := by decide +kernel
theorem dX5_read_178 : decode cX5_read 178 = .ok (.iinc 1 1, 3) := by decide +kernel
theorem dX5_read_181 : decode cX5_read 181 = .ok (.goto (-175), 3) := by decide +kernel
theorem dX5_read_184 : decode cX5_read 184 = .ok (.aload_n 0, 1) := by decide +kernel
theorem dX5_read_185 : decode cX5_read 185 = .ok (.getfield 16, 3) := by decide +kernel
theorem dX5_read_188 : decode cX5_read 188 = .ok (.aload_n 0, 1) := by decide +kernel
theorem dX5_read_189 : decode cX5_read 189 = .ok (.getfield 25, 3) := by decide +kernel
theorem dX5_read_192 : decode cX5_read 192 = .ok (.invokevirtual 90, 3) := by decide +kernel
theorem dX5_read_195 : decode cX5_read 195 = .ok (.putfield 93, 3) := by decide +kernel
theorem dX5_read_198 : decode cX5_read 198 = .ok (.aload_n 0, 1) := by decide +kernel
theorem dX5_read_199 : decode cX5_read 199 = .ok (.getfield 16, 3) := by decide +kernel
theorem dX5_read_202 : decode cX5_read 202 = .ok (.aload_n 0, 1) := by decide +kernel
theorem dX5_read_203 : decode cX5_read 203 = .ok (.getfield 29, 3) := by decide +kernel
theorem dX5_read_206 : decode cX5_read 206 = .ok (.invokevirtual 90, 3) := by decide +kernel
theorem dX5_read_209 : decode cX5_read 209 = .ok (.putfield 95, 3) := by decide +kernel
theorem dX5_read_212 : decode cX5_read 212 = .ok (.aload_n 0, 1) := by decide +kernel
theorem dX5_read_213 : decode cX5_read 213 = .ok (.getfield 16, 3) := by decide +kernel
theorem dX5_read_216 : decode cX5_read 216 = .ok (.aload_n 0, 1) := by decide +kernel
theorem dX5_read_217 : decode cX5_read 217 = .ok (.getfield 32, 3) := by decide +kernel
theorem dX5_read_220 : decode cX5_read 220 = .ok (.invokevirtual 90, 3) := by decide +kernel
theorem dX5_read_223 : decode cX5_read 223 = .ok (.putfield 97, 3) := by decide +kernel
theorem dX5_read_226 : decode cX5_read 226 = .ok (.aload_n 0, 1) := by decide +kernel
theorem dX5_read_227 : decode cX5_read 227 = .ok (.getfield 16, 3) := by decide +kernel
theorem dX5_read_230 : decode cX5_read 230 = .ok (.aload_n 0, 1) := by decide +kernel
theorem dX5_read_231 : decode cX5_read 231 = .ok (.getfield 35, 3) := by decide +kernel
theorem dX5_read_234 : decode cX5_read 234 = .ok (.invokevirtual 90, 3) := by decide +kernel
theorem dX5_read_237 : decode cX5_read 237 = .ok (.putfield 99, 3) := by decide +kernel
theorem dX5_read_240 : decode cX5_read 240 = .ok (.aload_n 0, 1) := by decide +kernel
theorem dX5_read_241 : decode cX5_read 241 = .ok (.getfield 42, 3) := by decide +kernel
theorem dX5_read_244 : decode cX5_read 244 = .ok (.ireturn, 1) := by decide +kernel
theorem dX5_begin_0 : decode cX5_begin 0 = .ok (.aload_n 0, 1) := by decide +kernel
theorem dX5_begin_1 : decode cX5_begin 1 = .ok (.iconst 0, 1) := by decide +kernel
theorem dX5_begin_2 : decode cX5_begin 2 = .ok (.putfield 38, 3) := by decide +kernel
theorem dX5_begin_5 : decode cX5_begin 5 = .ok (.aload_n 0, 1) := by decide +kernel
theorem dX5_begin_6 : decode cX5_begin 6 = .ok (.iconst 0, 1) := by decide +kernel
theorem dX5_begin_7 : decode cX5_begin 7 = .ok (.putfield 42, 3) := by decide +kernel
theorem dX5_begin_10 : decode cX5_begin 10 = .ok (.aload_n 0, 1) := by decide +kernel
theorem dX5_begin_11 : decode cX5_begin 11 = .ok (.iconst 0, 1) := by decide +kernel
theorem dX5_begin_12 : decode cX5_begin 12 = .ok (.putfield 45, 3) := by decide +kernel
theorem dX5_begin_15 : decode cX5_begin 15 = .ok (.aload_n 0, 1) := by decide +kernel
theorem dX5_begin_16 : decode cX5_begin 16 = .ok (.getfield 25, 3) := by decide +kernel
theorem dX5_begin_19 : decode cX5_begin 19 = .ok (.invokevirtual 101, 3) := by decide +kernel
theorem dX5_begin_22 : decode cX5_begin 22 = .ok (.aload_n 0, 1) := by decide +kernel
theorem dX5_begin_23 : decode cX5_begin 23 = .ok (.getfield 29, 3) := by decide +kernel
theorem dX5_begin_26 : decode cX5_begin 26 = .ok (.invokevirtual 101, 3) := by decide +kernel
theorem dX5_begin_29 : decode cX5_begin 29 = .ok (.aload_n 0, 1) := by decide +kernel
theorem dX5_begin_30 : decode cX5_begin 30 = .ok (.getfield 32, 3) := by decide +kernel
theorem dX5_begin_33 : decode cX5_begin 33 = .ok (.invokevirtual 101, 3) := by decide +kernel
theorem dX5_begin_36 : decode cX5_begin 36 = .ok (.aload_n 0, 1) := by decide +kernel
theorem dX5_begin_37 : decode cX5_begin 37 = .ok (.getfield 35, 3) := by decide +kernel
theorem dX5_begin_40 : decode cX5_begin 40 = .ok (.invokevirtual 101, 3) := by decide +kernel
theorem dX5_begin_43 : decode cX5_begin 43 = .ok (.aload_n 0, 1) := by decide +kernel
theorem dX5_begin_44 : decode cX5_begin 44 = .ok (.getfield 16, 3) := by decide +kernel
theorem dX5_begin_47 : decode cX5_begin 47 = .ok (.iconst 0, 1) := by decide +kernel
theorem dX5_begin_48 : decode cX5_begin 48 = .ok (.putfield 104, 3) := by decide +kernel
theorem dX5_begin_51 : decode cX5_begin 51 = .ok (.aload_n 0, 1) := by decide +kernel
theorem dX5_begin_52 : decode cX5_begin 52 = .ok (.getfield 16, 3) := by decide +kernel
theorem dX5_begin_55 : decode cX5_begin 55 = .ok (.getfield 107, 3) := by decide +kernel
theorem dX5_begin_58 : decode cX5_begin 58 = .ok (.iconst 0, 1) := by decide +kernel
theorem dX5_begin_59 : decode cX5_begin 59 = .ok (.putfield 111, 3) := by decide +kernel
theorem dX5_begin_62 : decode cX5_begin 62 = .ok (.return_, 1) := by decide +kernel
theorem dX5_spiceLine_0 : decode cX5_spiceLine 0 = .ok (.aload_n 0, 1) := by decide +kernel
theorem dX5_spiceLine_1 : decode cX5_spiceLine 1 = .ok (.iconst 0, 1) := by decide +kernel
theorem dX5_spiceLine_2 : decode cX5_spiceLine 2 = .ok (.invokevirtual 87, 3) := by decide +kernel
theorem dX5_spiceLine_5 : decode cX5_spiceLine 5 = .ok (.aload_n 0, 1) := by decide +kernel
theorem dX5_spiceLine_6 : decode cX5_spiceLine 6 = .ok (.aload_n 0, 1) := by decide +kernel
theorem dX5_spiceLine_7 : decode cX5_spiceLine 7 = .ok (.getfield 25, 3) := by decide +kernel
theorem dX5_spiceLine_10 : decode cX5_spiceLine 10 = .ok (.invokevirtual 115, 3) := by decide +kernel
theorem dX5_spiceLine_13 : decode cX5_spiceLine 13 = .ok (.istore_n 1, 1) := by decide +kernel
theorem dX5_spiceLine_14 : decode cX5_spiceLine 14 = .ok (.aload_n 0, 1) := by decide +kernel
theorem dX5_spiceLine_15 : decode cX5_spiceLine 15 = .ok (.iconst 1, 1) := by decide +kernel
theorem dX5_spiceLine_16 : decode cX5_spiceLine 16 = .ok (.invokevirtual 87, 3) := by decide +kernel
theorem dX5_spiceLine_19 : decode cX5_spiceLine 19 = .ok (.aload_n 0, 1) := by decide +kernel
theorem dX5_spiceLine_20 : decode cX5_spiceLine 20 = .ok (.getfield 16, 3) := by decide +kernel
theorem dX5_spiceLine_23 : decode cX5_spiceLine 23 = .ok (.getfield 119, 3) := by decide +kernel
theorem dX5_spiceLine_26 : decode cX5_spiceLine 26 = .ok (.iload_n 1, 1) := by decide +kernel
theorem dX5_spiceLine_27 : decode cX5_spiceLine 27 = .ok (.aload_n 0, 1) := by decide +kernel
theorem dX5_spiceLine_28 : decode cX5_spiceLine 28 = .ok (.iconst 0, 1) := by decide +kernel
theorem dX5_spiceLine_29 : decode cX5_spiceLine 29 = .ok (.bipush 9, 2) := by decide +kernel
theorem dX5_spiceLine_31 : decode cX5_spiceLine 31 = .ok (.invokevirtual 122, 3) := by decide +kernel
theorem dX5_spiceLine_34 : decode cX5_spiceLine 34 = .ok (.invokevirtual 126, 3) := by decide +kernel
theorem dX5_spiceLine_37 : decode cX5_spiceLine 37 = .ok (.return_, 1) := by decide +kernel
theorem dX5_guildLine_0 : decode cX5_guildLine 0 = .ok (.aload_n 0, 1) := by decide +kernel
theorem dX5_guildLine_1 : decode cX5_guildLine 1 = .ok (.iconst 2, 1) := by decide +kernel
theorem dX5_guildLine_2 : decode cX5_guildLine 2 = .ok (.invokevirtual 87, 3) := by decide +kernel
theorem dX5_guildLine_5 : decode cX5_guildLine 5 = .ok (.aload_n 0, 1) := by decide +kernel
theorem dX5_guildLine_6 : decode cX5_guildLine 6 = .ok (.aload_n 0, 1) := by decide +kernel
theorem dX5_guildLine_7 : decode cX5_guildLine 7 = .ok (.getfield 29, 3) := by decide +kernel
theorem dX5_guildLine_10 : decode cX5_guildLine 10 = .ok (.invokevirtual 115, 3) := by decide +kernel
theorem dX5_guildLine_13 : decode cX5_guildLine 13 = .ok (.istore_n 1, 1) := by decide +kernel
theorem dX5_guildLine_14 : decode cX5_guildLine 14 = .ok (.aload_n 0, 1) := by decide +kernel
theorem dX5_guildLine_15 : decode cX5_guildLine 15 = .ok (.iconst 3, 1) := by decide +kernel
theorem dX5_guildLine_16 : decode cX5_guildLine 16 = .ok (.invokevirtual 87, 3) := by decide +kernel
theorem dX5_guildLine_19 : decode cX5_guildLine 19 = .ok (.aload_n 0, 1) := by decide +kernel
theorem dX5_guildLine_20 : decode cX5_guildLine 20 = .ok (.getfield 16, 3) := by decide +kernel
theorem dX5_guildLine_23 : decode cX5_guildLine 23 = .ok (.getfield 130, 3) := by decide +kernel
theorem dX5_guildLine_26 : decode cX5_guildLine 26 = .ok (.iload_n 1, 1) := by decide +kernel
theorem dX5_guildLine_27 : decode cX5_guildLine 27 = .ok (.aload_n 0, 1) := by decide +kernel
theorem dX5_guildLine_28 : decode cX5_guildLine 28 = .ok (.iconst 0, 1) := by decide +kernel
theorem dX5_guildLine_29 : decode cX5_guildLine 29 = .ok (.bipush 99, 2) := by decide +kernel
theorem dX5_guildLine_31 : decode cX5_guildLine 31 = .ok (.invokevirtual 122, 3) := by decide +kernel
theorem dX5_guildLine_34 : decode cX5_guildLine 34 = .ok (.invokevirtual 126, 3) := by decide +kernel
theorem dX5_guildLine_37 : decode cX5_guildLine 37 = .ok (.aload_n 0, 1) := by decide +kernel
theorem dX5_guildLine_38 : decode cX5_guildLine 38 = .ok (.iconst 4, 1) := by decide +kernel
theorem dX5_guildLine_39 : decode cX5_guildLine 39 = .ok (.invokevirtual 87, 3) := by decide +kernel
theorem dX5_guildLine_42 : decode cX5_guildLine 42 = .ok (.aload_n 0, 1) := by decide +kernel
theorem dX5_guildLine_43 : decode cX5_guildLine 43 = .ok (.getfield 16, 3) := by decide +kernel
theorem dX5_guildLine_46 : decode cX5_guildLine 46 = .ok (.getfield 133, 3) := by decide +kernel
theorem dX5_guildLine_49 : decode cX5_guildLine 49 = .ok (.iload_n 1, 1) := by decide +kernel
theorem dX5_guildLine_50 : decode cX5_guildLine 50 = .ok (.aload_n 0, 1) := by decide +kernel
theorem dX5_guildLine_51 : decode cX5_guildLine 51 = .ok (.iconst 0, 1) := by decide +kernel
theorem dX5_guildLine_52 : decode cX5_guildLine 52 = .ok (.bipush 20, 2) := by decide +kernel
theorem dX5_guildLine_54 : decode cX5_guildLine 54 = .ok (.invokevirtual 122, 3) := by decide +kernel
theorem dX5_guildLine_57 : decode cX5_guildLine 57 = .ok (.invokevirtual 126, 3) := by decide +kernel
theorem dX5_guildLine_60 : decode cX5_guildLine 60 = .ok (.return_, 1) := by decide +kernel
theorem dX5_merchantLine_0 : decode cX5_merchantLine 0 = .ok (.aload_n 0, 1) := by decide +kernel
theorem dX5_merchantLine_1 : decode cX5_merchantLine 1 = .ok (.iconst 5, 1) := by decide +kernel
theorem dX5_merchantLine_2 : decode cX5_merchantLine 2 = .ok (.invokevirtual 87, 3) := by decide +kernel
theorem dX5_merchantLine_5 : decode cX5_merchantLine 5 = .ok (.aload_n 0, 1) := by decide +kernel
theorem dX5_merchantLine_6 : decode cX5_merchantLine 6 = .ok (.aload_n 0, 1) := by decide +kernel
theorem dX5_merchantLine_7 : decode cX5_merchantLine 7 = .ok (.getfield 32, 3) := by decide +kernel
theorem dX5_merchantLine_10 : decode cX5_merchantLine 10 = .ok (.invokevirtual 115, 3) := by decide +kernel
theorem dX5_merchantLine_13 : decode cX5_merchantLine 13 = .ok (.istore_n 1, 1) := by decide +kernel
theorem dX5_merchantLine_14 : decode cX5_merchantLine 14 = .ok (.aload_n 0, 1) := by decide +kernel
theorem dX5_merchantLine_15 : decode cX5_merchantLine 15 = .ok (.bipush 6, 2) := by decide +kernel
theorem dX5_merchantLine_17 : decode cX5_merchantLine 17 = .ok (.invokevirtual 87, 3) := by decide +kernel
theorem dX5_merchantLine_20 : decode cX5_merchantLine 20 = .ok (.aload_n 0, 1) := by decide +kernel
theorem dX5_merchantLine_21 : decode cX5_merchantLine 21 = .ok (.getfield 16, 3) := by decide +kernel
theorem dX5_merchantLine_24 : decode cX5_merchantLine 24 = .ok (.getfield 136, 3) := by decide +kernel
theorem dX5_merchantLine_27 : decode cX5_merchantLine 27 = .ok (.iload_n 1, 1) := by decide +kernel
theorem dX5_merchantLine_28 : decode cX5_merchantLine 28 = .ok (.aload_n 0, 1) := by decide +kernel
theorem dX5_merchantLine_29 : decode cX5_merchantLine 29 = .ok (.iconst 0, 1) := by decide +kernel
theorem dX5_merchantLine_30 : decode cX5_merchantLine 30 = .ok (.sipush 9999, 3) := by decide +kernel
theorem dX5_merchantLine_33 : decode cX5_merchantLine 33 = .ok (.invokevirtual 122, 3) := by decide +kernel
theorem dX5_merchantLine_36 : decode cX5_merchantLine 36 = .ok (.invokevirtual 126, 3) := by decide +kernel
theorem dX5_merchantLine_39 : decode cX5_merchantLine 39 = .ok (.aload_n 0, 1) := by decide +kernel
theorem dX5_merchantLine_40 : decode cX5_merchantLine 40 = .ok (.bipush 7, 2) := by decide +kernel
theorem dX5_merchantLine_42 : decode cX5_merchantLine 42 = .ok (.invokevirtual 87, 3) := by decide +kernel
theorem dX5_merchantLine_45 : decode cX5_merchantLine 45 = .ok (.aload_n 0, 1) := by decide +kernel
theorem dX5_merchantLine_46 : decode cX5_merchantLine 46 = .ok (.getfield 16, 3) := by decide +kernel
theorem dX5_merchantLine_49 : decode cX5_merchantLine 49 = .ok (.getfield 139, 3) := by decide +kernel
theorem dX5_merchantLine_52 : decode cX5_merchantLine 52 = .ok (.iload_n 1, 1) := by decide +kernel
theorem dX5_merchantLine_53 : decode cX5_merchantLine 53 = .ok (.aload_n 0, 1) := by decide +kernel
theorem dX5_merchantLine_54 : decode cX5_merchantLine 54 = .ok (.iconst 0, 1) := by decide +kernel
theorem dX5_merchantLine_55 : decode cX5_merchantLine 55 = .ok (.sipush 9999, 3) := by decide +kernel
theorem dX5_merchantLine_58 : decode cX5_merchantLine 58 = .ok (.invokevirtual 122, 3) := by decide +kernel
theorem dX5_merchantLine_61 : decode cX5_merchantLine 61 = .ok (.invokevirtual 126, 3) := by decide +kernel
theorem dX5_merchantLine_64 : decode cX5_merchantLine 64 = .ok (.return_, 1) := by decide +kernel
theorem dX5_lotLine_0 : decode cX5_lotLine 0 = .ok (.aload_n 0, 1) := by decide +kernel
theorem dX5_lotLine_1 : decode cX5_lotLine 1 = .ok (.bipush 8, 2) := by decide +kernel
theorem dX5_lotLine_3 : decode cX5_lotLine 3 = .ok (.invokevirtual 87, 3) := by decide +kernel
theorem dX5_lotLine_6 : decode cX5_lotLine 6 = .ok (.aload_n 0, 1) := by decide +kernel
theorem dX5_lotLine_7 : decode cX5_lotLine 7 = .ok (.aload_n 0, 1) := by decide +kernel
theorem dX5_lotLine_8 : decode cX5_lotLine 8 = .ok (.getfield 35, 3) := by decide +kernel
theorem dX5_lotLine_11 : decode cX5_lotLine 11 = .ok (.invokevirtual 115, 3) := by decide +kernel
theorem dX5_lotLine_14 : decode cX5_lotLine 14 = .ok (.istore_n 1, 1) := by decide +kernel
theorem dX5_lotLine_15 : decode cX5_lotLine 15 = .ok (.aload_n 0, 1) := by decide +kernel
theorem dX5_lotLine_16 : decode cX5_lotLine 16 = .ok (.bipush 9, 2) := by decide +kernel
theorem dX5_lotLine_18 : decode cX5_lotLine 18 = .ok (.invokevirtual 87, 3) := by decide +kernel
theorem dX5_lotLine_21 : decode cX5_lotLine 21 = .ok (.aload_n 0, 1) := by decide +kernel
theorem dX5_lotLine_22 : decode cX5_lotLine 22 = .ok (.getfield 16, 3) := by decide +kernel
theorem dX5_lotLine_25 : decode cX5_lotLine 25 = .ok (.getfield 142, 3) := by decide +kernel
theorem dX5_lotLine_28 : decode cX5_lotLine 28 = .ok (.iload_n 1, 1) := by decide +kernel
theorem dX5_lotLine_29 : decode cX5_lotLine 29 = .ok (.aload_n 0, 1) := by decide +kernel
theorem dX5_lotLine_30 : decode cX5_lotLine 30 = .ok (.aload_n 0, 1) := by decide +kernel
theorem dX5_lotLine_31 : decode cX5_lotLine 31 = .ok (.getfield 25, 3) := by decide +kernel
theorem dX5_lotLine_34 : decode cX5_lotLine 34 = .ok (.invokevirtual 145, 3) := by decide +kernel
theorem dX5_lotLine_37 : decode cX5_lotLine 37 = .ok (.invokevirtual 126, 3) := by decide +kernel
theorem dX5_lotLine_40 : decode cX5_lotLine 40 = .ok (.aload_n 0, 1) := by decide +kernel
theorem dX5_lotLine_41 : decode cX5_lotLine 41 = .ok (.bipush 10, 2) := by decide +kernel
theorem dX5_lotLine_43 : decode cX5_lotLine 43 = .ok (.invokevirtual 87, 3) := by decide +kernel
theorem dX5_lotLine_46 : decode cX5_lotLine 46 = .ok (.aload_n 0, 1) := by decide +kernel
theorem dX5_lotLine_47 : decode cX5_lotLine 47 = .ok (.getfield 16, 3) := by decide +kernel
theorem dX5_lotLine_50 : decode cX5_lotLine 50 = .ok (.getfield 148, 3) := by decide +kernel
theorem dX5_lotLine_53 : decode cX5_lotLine 53 = .ok (.iload_n 1, 1) := by decide +kernel
theorem dX5_lotLine_54 : decode cX5_lotLine 54 = .ok (.aload_n 0, 1) := by decide +kernel
theorem dX5_lotLine_55 : decode cX5_lotLine 55 = .ok (.iconst 1, 1) := by decide +kernel
theorem dX5_lotLine_56 : decode cX5_lotLine 56 = .ok (.bipush 90, 2) := by decide +kernel
theorem dX5_lotLine_58 : decode cX5_lotLine 58 = .ok (.invokevirtual 122, 3) := by decide +kernel
theorem dX5_lotLine_61 : decode cX5_lotLine 61 = .ok (.invokevirtual 126, 3) := by decide +kernel
theorem dX5_lotLine_64 : decode cX5_lotLine 64 = .ok (.aload_n 0, 1) := by decide +kernel
theorem dX5_lotLine_65 : decode cX5_lotLine 65 = .ok (.bipush 11, 2) := by decide +kernel
theorem dX5_lotLine_67 : decode cX5_lotLine 67 = .ok (.invokevirtual 87, 3) := by decide +kernel
theorem dX5_lotLine_70 : decode cX5_lotLine 70 = .ok (.aload_n 0, 1) := by decide +kernel
theorem dX5_lotLine_71 : decode cX5_lotLine 71 = .ok (.getfield 16, 3) := by decide +kernel
theorem dX5_lotLine_74 : decode cX5_lotLine 74 = .ok (.getfield 151, 3) := by decide +kernel
theorem dX5_lotLine_77 : decode cX5_lotLine 77 = .ok (.iload_n 1, 1) := by decide +kernel
theorem dX5_lotLine_78 : decode cX5_lotLine 78 = .ok (.aload_n 0, 1) := by decide +kernel
theorem dX5_lotLine_79 : decode cX5_lotLine 79 = .ok (.aload_n 0, 1) := by decide +kernel
theorem dX5_lotLine_80 : decode cX5_lotLine 80 = .ok (.getfield 32, 3) := by decide +kernel
theorem dX5_lotLine_83 : decode cX5_lotLine 83 = .ok (.invokevirtual 145, 3) := by decide +kernel
theorem dX5_lotLine_86 : decode cX5_lotLine 86 = .ok (.invokevirtual 126, 3) := by decide +kernel
theorem dX5_lotLine_89 : decode cX5_lotLine 89 = .ok (.return_, 1) := by decide +kernel
theorem dX5_orderLine_0 : decode cX5_orderLine 0 = .ok (.aload_n 0, 1) := by decide +kernel
theorem dX5_orderLine_1 : decode cX5_orderLine 1 = .ok (.getfield 16, 3) := by decide +kernel
theorem dX5_orderLine_4 : decode cX5_orderLine 4 = .ok (.getfield 104, 3) := by decide +kernel
theorem dX5_orderLine_7 : decode cX5_orderLine 7 = .ok (.istore_n 2, 1) := by decide +kernel
theorem dX5_orderLine_8 : decode cX5_orderLine 8 = .ok (.iload_n 2, 1) := by decide +kernel
theorem dX5_orderLine_9 : decode cX5_orderLine 9 = .ok (.bipush 24, 2) := by decide +kernel
theorem dX5_orderLine_11 : decode cX5_orderLine 11 = .ok (.if_icmp .lt 12, 3) := by decide +kernel
theorem dX5_orderLine_14 : decode cX5_orderLine 14 = .ok (.aload_n 0, 1) := by decide +kernel
theorem dX5_orderLine_15 : decode cX5_orderLine 15 = .ok (.iconst 4, 1) := by decide +kernel
theorem dX5_orderLine_16 : decode cX5_orderLine 16 = .ok (.aload_n 0, 1) := by decide +kernel
theorem dX5_orderLine_17 : decode cX5_orderLine 17 = .ok (.getfield 38, 3) := by decide +kernel
theorem dX5_orderLine_20 : decode cX5_orderLine 20 = .ok (.invokevirtual 154, 3) := by decide +kernel
theorem dX5_orderLine_23 : decode cX5_orderLine 23 = .ok (.aload_n 0, 1) := by decide +kernel
theorem dX5_orderLine_24 : decode cX5_orderLine 24 = .ok (.dup, 1) := by decide +kernel
theorem dX5_orderLine_25 : decode cX5_orderLine 25 = .ok (.getfield 38, 3) := by decide +kernel
theorem dX5_orderLine_28 : decode cX5_orderLine 28 = .ok (.iconst 1, 1) := by decide +kernel
theorem dX5_orderLine_29 : decode cX5_orderLine 29 = .ok (.iadd, 1) := by decide +kernel
theorem dX5_orderLine_30 : decode cX5_orderLine 30 = .ok (.putfield 38, 3) := by decide +kernel
theorem dX5_orderLine_33 : decode cX5_orderLine 33 = .ok (.aload_n 0, 1) := by decide +kernel
theorem dX5_orderLine_34 : decode cX5_orderLine 34 = .ok (.getfield 16, 3) := by decide +kernel
theorem dX5_orderLine_37 : decode cX5_orderLine 37 = .ok (.getfield 157, 3) := by decide +kernel
theorem dX5_orderLine_40 : decode cX5_orderLine 40 = .ok (.iload_n 2, 1) := by decide +kernel
theorem dX5_orderLine_41 : decode cX5_orderLine 41 = .ok (.iload_n 1, 1) := by decide +kernel
theorem dX5_orderLine_42 : decode cX5_orderLine 42 = .ok (.invokevirtual 126, 3) := by decide +kernel
theorem dX5_orderLine_45 : decode cX5_orderLine 45 = .ok (.aload_n 0, 1) := by decide +kernel
theorem dX5_orderLine_46 : decode cX5_orderLine 46 = .ok (.getfield 16, 3) := by decide +kernel
theorem dX5_orderLine_49 : decode cX5_orderLine 49 = .ok (.getfield 160, 3) := by decide +kernel
theorem dX5_orderLine_52 : decode cX5_orderLine 52 = .ok (.iload_n 2, 1) := by decide +kernel
theorem dX5_orderLine_53 : decode cX5_orderLine 53 = .ok (.aload_n 0, 1) := by decide +kernel
theorem dX5_orderLine_54 : decode cX5_orderLine 54 = .ok (.iload_n 1, 1) := by decide +kernel
theorem dX5_orderLine_55 : decode cX5_orderLine 55 = .ok (.iconst 2, 1) := by decide +kernel
theorem dX5_orderLine_56 : decode cX5_orderLine 56 = .ok (.if_icmp .ne 10, 3) := by decide +kernel
theorem dX5_orderLine_59 : decode cX5_orderLine 59 = .ok (.aload_n 0, 1) := by decide +kernel
theorem dX5_orderLine_60 : decode cX5_orderLine 60 = .ok (.getfield 32, 3) := by decide +kernel
theorem dX5_orderLine_63 : decode cX5_orderLine 63 = .ok (.goto 7, 3) := by decide +kernel
theorem dX5_orderLine_66 : decode cX5_orderLine 66 = .ok (.aload_n 0, 1) := by decide +kernel
theorem dX5_orderLine_67 : decode cX5_orderLine 67 = .ok (.getfield 35, 3) := by decide +kernel
theorem dX5_orderLine_70 : decode cX5_orderLine 70 = .ok (.invokevirtual 145, 3) := by decide +kernel
theorem dX5_orderLine_73 : decode cX5_orderLine 73 = .ok (.invokevirtual 126, 3) := by decide +kernel
theorem dX5_orderLine_76 : decode cX5_orderLine 76 = .ok (.aload_n 0, 1) := by decide +kernel
theorem dX5_orderLine_77 : decode cX5_orderLine 77 = .ok (.iload_n 1, 1) := by decide +kernel
theorem dX5_orderLine_78 : decode cX5_orderLine 78 = .ok (.ifCond .ne 8, 3) := by decide +kernel
theorem dX5_orderLine_81 : decode cX5_orderLine 81 = .ok (.bipush 13, 2) := by decide +kernel
theorem dX5_orderLine_83 : decode cX5_orderLine 83 = .ok (.goto 5, 3) := by decide +kernel
theorem dX5_orderLine_86 : decode cX5_orderLine 86 = .ok (.bipush 15, 2) := by decide +kernel
theorem dX5_orderLine_88 : decode cX5_orderLine 88 = .ok (.invokevirtual 87, 3) := by decide +kernel
theorem dX5_orderLine_91 : decode cX5_orderLine 91 = .ok (.aload_n 0, 1) := by decide +kernel
theorem dX5_orderLine_92 : decode cX5_orderLine 92 = .ok (.getfield 16, 3) := by decide +kernel
theorem dX5_orderLine_95 : decode cX5_orderLine 95 = .ok (.getfield 163, 3) := by decide +kernel
theorem dX5_orderLine_98 : decode cX5_orderLine 98 = .ok (.iload_n 2, 1) := by decide +kernel
theorem dX5_orderLine_99 : decode cX5_orderLine 99 = .ok (.aload_n 0, 1) := by decide +kernel
theorem dX5_orderLine_100 : decode cX5_orderLine 100 = .ok (.iload_n 1, 1) := by decide +kernel
theorem dX5_orderLine_101 : decode cX5_orderLine 101 = .ok (.ifCond .ne 10, 3) := by decide +kernel
theorem dX5_orderLine_104 : decode cX5_orderLine 104 = .ok (.aload_n 0, 1) := by decide +kernel
theorem dX5_orderLine_105 : decode cX5_orderLine 105 = .ok (.getfield 29, 3) := by decide +kernel
theorem dX5_orderLine_108 : decode cX5_orderLine 108 = .ok (.goto 7, 3) := by decide +kernel
theorem dX5_orderLine_111 : decode cX5_orderLine 111 = .ok (.aload_n 0, 1) := by decide +kernel
theorem dX5_orderLine_112 : decode cX5_orderLine 112 = .ok (.getfield 32, 3) := by decide +kernel
theorem dX5_orderLine_115 : decode cX5_orderLine 115 = .ok (.invokevirtual 145, 3) := by decide +kernel
theorem dX5_orderLine_118 : decode cX5_orderLine 118 = .ok (.invokevirtual 126, 3) := by decide +kernel
theorem dX5_orderLine_121 : decode cX5_orderLine 121 = .ok (.aload_n 0, 1) := by decide +kernel
theorem dX5_orderLine_122 : decode cX5_orderLine 122 = .ok (.getfield 16, 3) := by decide +kernel
theorem dX5_orderLine_125 : decode cX5_orderLine 125 = .ok (.getfield 166, 3) := by decide +kernel
theorem dX5_orderLine_128 : decode cX5_orderLine 128 = .ok (.iload_n 2, 1) := by decide +kernel
theorem dX5_orderLine_129 : decode cX5_orderLine 129 = .ok (.aload_n 0, 1) := by decide +kernel
theorem dX5_orderLine_130 : decode cX5_orderLine 130 = .ok (.getfield 16, 3) := by decide +kernel
theorem dX5_orderLine_133 : decode cX5_orderLine 133 = .ok (.getfield 107, 3) := by decide +kernel
theorem dX5_orderLine_136 : decode cX5_orderLine 136 = .ok (.getfield 111, 3) := by decide +kernel
theorem dX5_orderLine_139 : decode cX5_orderLine 139 = .ok (.invokevirtual 126, 3) := by decide +kernel
theorem dX5_orderLine_142 : decode cX5_orderLine 142 = .ok (.iload_n 1, 1) := by decide +kernel
theorem dX5_orderLine_143 : decode cX5_orderLine 143 = .ok (.ifCond .eq 14, 3) := by decide +kernel
theorem dX5_orderLine_146 : decode cX5_orderLine 146 = .ok (.aload_n 0, 1) := by decide +kernel
theorem dX5_orderLine_147 : decode cX5_orderLine 147 = .ok (.bipush 17, 2) := by decide +kernel
theorem dX5_orderLine_149 : decode cX5_orderLine 149 = .ok (.invokevirtual 87, 3) := by decide +kernel
theorem dX5_orderLine_152 : decode cX5_orderLine 152 = .ok (.aload_n 0, 1) := by decide +kernel
theorem dX5_orderLine_153 : decode cX5_orderLine 153 = .ok (.iconst 0, 1) := by decide +kernel
theorem dX5_orderLine_154 : decode cX5_orderLine 154 = .ok (.invokevirtual 169, 3) := by decide +kernel
theorem dX5_orderLine_157 : decode cX5_orderLine 157 = .ok (.aload_n 0, 1) := by decide +kernel
theorem dX5_orderLine_158 : decode cX5_orderLine 158 = .ok (.getfield 16, 3) := by decide +kernel
theorem dX5_orderLine_161 : decode cX5_orderLine 161 = .ok (.getfield 172, 3) := by decide +kernel
theorem dX5_orderLine_164 : decode cX5_orderLine 164 = .ok (.iload_n 2, 1) := by decide +kernel
theorem dX5_orderLine_165 : decode cX5_orderLine 165 = .ok (.aload_n 0, 1) := by decide +kernel
theorem dX5_orderLine_166 : decode cX5_orderLine 166 = .ok (.getfield 16, 3) := by decide +kernel
theorem dX5_orderLine_169 : decode cX5_orderLine 169 = .ok (.getfield 107, 3) := by decide +kernel
theorem dX5_orderLine_172 : decode cX5_orderLine 172 = .ok (.getfield 111, 3) := by decide +kernel
theorem dX5_orderLine_175 : decode cX5_orderLine 175 = .ok (.invokevirtual 126, 3) := by decide +kernel
theorem dX5_orderLine_178 : decode cX5_orderLine 178 = .ok (.aload_n 0, 1) := by decide +kernel
theorem dX5_orderLine_179 : decode cX5_orderLine 179 = .ok (.invokevirtual 63, 3) := by decide +kernel
theorem dX5_orderLine_182 : decode cX5_orderLine 182 = .ok (.bipush 18, 2) := by decide +kernel
theorem dX5_orderLine_184 : decode cX5_orderLine 184 = .ok (.if_icmp .ne 18, 3) := by decide +kernel
theorem dX5_orderLine_187 : decode cX5_orderLine 187 = .ok (.aload_n 0, 1) := by decide +kernel
theorem dX5_orderLine_188 : decode cX5_orderLine 188 = .ok (.dup, 1) := by decide +kernel
theorem dX5_orderLine_189 : decode cX5_orderLine 189 = .ok (.getfield 38, 3) := by decide +kernel
theorem dX5_orderLine_192 : decode cX5_orderLine 192 = .ok (.iconst 1, 1) := by decide +kernel
theorem dX5_orderLine_193 : decode cX5_orderLine 193 = .ok (.iadd, 1) := by decide +kernel
theorem dX5_orderLine_194 : decode cX5_orderLine 194 = .ok (.putfield 38, 3) := by decide +kernel
theorem dX5_orderLine_197 : decode cX5_orderLine 197 = .ok (.aload_n 0, 1) := by decide +kernel
theorem dX5_orderLine_198 : decode cX5_orderLine 198 = .ok (.iconst 0, 1) := by decide +kernel
theorem dX5_orderLine_199 : decode cX5_orderLine 199 = .ok (.invokevirtual 175, 3) := by decide +kernel
theorem dX5_orderLine_202 : decode cX5_orderLine 202 = .ok (.aload_n 0, 1) := by decide +kernel
theorem dX5_orderLine_203 : decode cX5_orderLine 203 = .ok (.getfield 16, 3) := by decide +kernel
theorem dX5_orderLine_206 : decode cX5_orderLine 206 = .ok (.getfield 178, 3) := by decide +kernel
theorem dX5_orderLine_209 : decode cX5_orderLine 209 = .ok (.iload_n 2, 1) := by decide +kernel
theorem dX5_orderLine_210 : decode cX5_orderLine 210 = .ok (.aload_n 0, 1) := by decide +kernel
theorem dX5_orderLine_211 : decode cX5_orderLine 211 = .ok (.getfield 16, 3) := by decide +kernel
theorem dX5_orderLine_214 : decode cX5_orderLine 214 = .ok (.getfield 107, 3) := by decide +kernel
theorem dX5_orderLine_217 : decode cX5_orderLine 217 = .ok (.getfield 111, 3) := by decide +kernel
theorem dX5_orderLine_220 : decode cX5_orderLine 220 = .ok (.invokevirtual 126, 3) := by decide +kernel
theorem dX5_orderLine_223 : decode cX5_orderLine 223 = .ok (.aload_n 0, 1) := by decide +kernel
theorem dX5_orderLine_224 : decode cX5_orderLine 224 = .ok (.getfield 16, 3) := by decide +kernel
theorem dX5_orderLine_227 : decode cX5_orderLine 227 = .ok (.dup, 1) := by decide +kernel
theorem dX5_orderLine_228 : decode cX5_orderLine 228 = .ok (.getfield 104, 3) := by decide +kernel
theorem dX5_orderLine_231 : decode cX5_orderLine 231 = .ok (.iconst 1, 1) := by decide +kernel
theorem dX5_orderLine_232 : decode cX5_orderLine 232 = .ok (.iadd, 1) := by decide +kernel
theorem dX5_orderLine_233 : decode cX5_orderLine 233 = .ok (.putfield 104, 3) := by decide +kernel
theorem dX5_orderLine_236 : decode cX5_orderLine 236 = .ok (.return_, 1) := by decide +kernel
theorem dX5_test_0 : decode cX5_test 0 = .ok (.aload_n 0, 1) := by decide +kernel
theorem dX5_test_1 : decode cX5_test 1 = .ok (.iload_n 1, 1) := by decide +kernel
theorem dX5_test_2 : decode cX5_test 2 = .ok (.invokevirtual 181, 3) := by decide +kernel
theorem dX5_test_5 : decode cX5_test 5 = .ok (.iconst 0, 1) := by decide +kernel
theorem dX5_test_6 : decode cX5_test 6 = .ok (.istore_n 2, 1) := by decide +kernel
theorem dX5_test_7 : decode cX5_test 7 = .ok (.iload_n 2, 1) := by decide +kernel
theorem dX5_test_8 : decode cX5_test 8 = .ok (.sipush 400, 3) := by decide +kernel
theorem dX5_test_11 : decode cX5_test 11 = .ok (.if_icmp .ge 47, 3) := by decide +kernel
theorem dX5_test_14 : decode cX5_test 14 = .ok (.aload_n 0, 1) := by decide +kernel
theorem dX5_test_15 : decode cX5_test 15 = .ok (.invokevirtual 63, 3) := by decide +kernel
theorem dX5_test_18 : decode cX5_test 18 = .ok (.bipush 29, 2) := by decide +kernel
theorem dX5_test_20 : decode cX5_test 20 = .ok (.if_icmp .ne 38, 3) := by decide +kernel
theorem dX5_test_23 : decode cX5_test 23 = .ok (.aload_n 0, 1) := by decide +kernel
theorem dX5_test_24 : decode cX5_test 24 = .ok (.dup, 1) := by decide +kernel
theorem dX5_test_25 : decode cX5_test 25 = .ok (.getfield 38, 3) := by decide +kernel
theorem dX5_test_28 : decode cX5_test 28 = .ok (.iconst 1, 1) := by decide +kernel
theorem dX5_test_29 : decode cX5_test 29 = .ok (.iadd, 1) := by decide +kernel
theorem dX5_test_30 : decode cX5_test 30 = .ok (.putfield 38, 3) := by decide +kernel
theorem dX5_test_33 : decode cX5_test 33 = .ok (.aload_n 0, 1) := by decide +kernel
theorem dX5_test_34 : decode cX5_test 34 = .ok (.iload_n 1, 1) := by decide +kernel
theorem dX5_test_35 : decode cX5_test 35 = .ok (.invokevirtual 181, 3) := by decide +kernel
theorem dX5_test_38 : decode cX5_test 38 = .ok (.aload_n 0, 1) := by decide +kernel
theorem dX5_test_39 : decode cX5_test 39 = .ok (.getfield 16, 3) := by decide +kernel
theorem dX5_test_42 : decode cX5_test 42 = .ok (.getfield 107, 3) := by decide +kernel
theorem dX5_test_45 : decode cX5_test 45 = .ok (.bipush 29, 2) := by decide +kernel
theorem dX5_test_47 : decode cX5_test 47 = .ok (.iconst 0, 1) := by decide +kernel
theorem dX5_test_48 : decode cX5_test 48 = .ok (.iconst 0, 1) := by decide +kernel
theorem dX5_test_49 : decode cX5_test 49 = .ok (.invokevirtual 184, 3) := by decide +kernel
theorem dX5_test_52 : decode cX5_test 52 = .ok (.iinc 2 1, 3) := by decide +kernel
theorem dX5_test_55 : decode cX5_test 55 = .ok (.goto (-48), 3) := by decide +kernel
theorem dX5_test_58 : decode cX5_test 58 = .ok (.return_, 1) := by decide +kernel
theorem dX5_both_0 : decode cX5_both 0 = .ok (.aload_n 0, 1) := by decide +kernel
theorem dX5_both_1 : decode cX5_both 1 = .ok (.iload_n 1, 1) := by decide +kernel
theorem dX5_both_2 : decode cX5_both 2 = .ok (.invokevirtual 188, 3) := by decide +kernel
theorem dX5_both_5 : decode cX5_both 5 = .ok (.iconst 0, 1) := by decide +kernel
theorem dX5_both_6 : decode cX5_both 6 = .ok (.istore_n 2, 1) := by decide +kernel
theorem dX5_both_7 : decode cX5_both 7 = .ok (.iload_n 2, 1) := by decide +kernel
theorem dX5_both_8 : decode cX5_both 8 = .ok (.sipush 400, 3) := by decide +kernel
theorem dX5_both_11 : decode cX5_both 11 = .ok (.if_icmp .ge 47, 3) := by decide +kernel
theorem dX5_both_14 : decode cX5_both 14 = .ok (.aload_n 0, 1) := by decide +kernel
theorem dX5_both_15 : decode cX5_both 15 = .ok (.invokevirtual 63, 3) := by decide +kernel
theorem dX5_both_18 : decode cX5_both 18 = .ok (.bipush 28, 2) := by decide +kernel
theorem dX5_both_20 : decode cX5_both 20 = .ok (.if_icmp .ne 38, 3) := by decide +kernel
theorem dX5_both_23 : decode cX5_both 23 = .ok (.aload_n 0, 1) := by decide +kernel
theorem dX5_both_24 : decode cX5_both 24 = .ok (.dup, 1) := by decide +kernel
theorem dX5_both_25 : decode cX5_both 25 = .ok (.getfield 38, 3) := by decide +kernel
theorem dX5_both_28 : decode cX5_both 28 = .ok (.iconst 1, 1) := by decide +kernel
theorem dX5_both_29 : decode cX5_both 29 = .ok (.iadd, 1) := by decide +kernel
theorem dX5_both_30 : decode cX5_both 30 = .ok (.putfield 38, 3) := by decide +kernel
theorem dX5_both_33 : decode cX5_both 33 = .ok (.aload_n 0, 1) := by decide +kernel
theorem dX5_both_34 : decode cX5_both 34 = .ok (.iload_n 1, 1) := by decide +kernel
theorem dX5_both_35 : decode cX5_both 35 = .ok (.invokevirtual 188, 3) := by decide +kernel
theorem dX5_both_38 : decode cX5_both 38 = .ok (.aload_n 0, 1) := by decide +kernel
theorem dX5_both_39 : decode cX5_both 39 = .ok (.getfield 16, 3) := by decide +kernel
theorem dX5_both_42 : decode cX5_both 42 = .ok (.getfield 107, 3) := by decide +kernel
theorem dX5_both_45 : decode cX5_both 45 = .ok (.bipush 28, 2) := by decide +kernel
theorem dX5_both_47 : decode cX5_both 47 = .ok (.iconst 0, 1) := by decide +kernel
theorem dX5_both_48 : decode cX5_both 48 = .ok (.iconst 0, 1) := by decide +kernel
theorem dX5_both_49 : decode cX5_both 49 = .ok (.invokevirtual 184, 3) := by decide +kernel
theorem dX5_both_52 : decode cX5_both 52 = .ok (.iinc 2 1, 3) := by decide +kernel
theorem dX5_both_55 : decode cX5_both 55 = .ok (.goto (-48), 3) := by decide +kernel
theorem dX5_both_58 : decode cX5_both 58 = .ok (.return_, 1) := by decide +kernel
theorem dX5_single_0 : decode cX5_single 0 = .ok (.aload_n 0, 1) := by decide +kernel
theorem dX5_single_1 : decode cX5_single 1 = .ok (.invokevirtual 63, 3) := by decide +kernel
theorem dX5_single_4 : decode cX5_single 4 = .ok (.lookupswitch 95 #[(26, 52), (27, 36), (34, 44)], 36) := by decide +kernel
theorem dX5_single_40 : decode cX5_single 40 = .ok (.aload_n 0, 1) := by decide +kernel
theorem dX5_single_41 : decode cX5_single 41 = .ok (.iload_n 1, 1) := by decide +kernel
theorem dX5_single_42 : decode cX5_single 42 = .ok (.invokevirtual 191, 3) := by decide +kernel
theorem dX5_single_45 : decode cX5_single 45 = .ok (.goto 82, 3) := by decide +kernel
theorem dX5_single_48 : decode cX5_single 48 = .ok (.aload_n 0, 1) := by decide +kernel
theorem dX5_single_49 : decode cX5_single 49 = .ok (.iload_n 1, 1) := by decide +kernel
theorem dX5_single_50 : decode cX5_single 50 = .ok (.invokevirtual 194, 3) := by decide +kernel
theorem dX5_single_53 : decode cX5_single 53 = .ok (.goto 74, 3) := by decide +kernel
theorem dX5_single_56 : decode cX5_single 56 = .ok (.aload_n 0, 1) := by decide +kernel
theorem dX5_single_57 : decode cX5_single 57 = .ok (.dup, 1) := by decide +kernel
theorem dX5_single_58 : decode cX5_single 58 = .ok (.getfield 38, 3) := by decide +kernel
theorem dX5_single_61 : decode cX5_single 61 = .ok (.iconst 1, 1) := by decide +kernel
theorem dX5_single_62 : decode cX5_single 62 = .ok (.iadd, 1) := by decide +kernel
theorem dX5_single_63 : decode cX5_single 63 = .ok (.putfield 38, 3) := by decide +kernel
theorem dX5_single_66 : decode cX5_single 66 = .ok (.aload_n 0, 1) := by decide +kernel
theorem dX5_single_67 : decode cX5_single 67 = .ok (.aload_n 0, 1) := by decide +kernel
theorem dX5_single_68 : decode cX5_single 68 = .ok (.getfield 32, 3) := by decide +kernel
theorem dX5_single_71 : decode cX5_single 71 = .ok (.invokevirtual 145, 3) := by decide +kernel
theorem dX5_single_74 : decode cX5_single 74 = .ok (.istore_n 2, 1) := by decide +kernel
theorem dX5_single_75 : decode cX5_single 75 = .ok (.aload_n 0, 1) := by decide +kernel
theorem dX5_single_76 : decode cX5_single 76 = .ok (.getfield 16, 3) := by decide +kernel
theorem dX5_single_79 : decode cX5_single 79 = .ok (.getfield 107, 3) := by decide +kernel
theorem dX5_single_82 : decode cX5_single 82 = .ok (.bipush 26, 2) := by decide +kernel
theorem dX5_single_84 : decode cX5_single 84 = .ok (.iload_n 2, 1) := by decide +kernel
theorem dX5_single_85 : decode cX5_single 85 = .ok (.aload_n 0, 1) := by decide +kernel
theorem dX5_single_86 : decode cX5_single 86 = .ok (.aload_n 0, 1) := by decide +kernel
theorem dX5_single_87 : decode cX5_single 87 = .ok (.getfield 35, 3) := by decide +kernel
theorem dX5_single_90 : decode cX5_single 90 = .ok (.invokevirtual 145, 3) := by decide +kernel
theorem dX5_single_93 : decode cX5_single 93 = .ok (.invokevirtual 184, 3) := by decide +kernel
theorem dX5_single_96 : decode cX5_single 96 = .ok (.goto 31, 3) := by decide +kernel
theorem dX5_single_99 : decode cX5_single 99 = .ok (.aload_n 0, 1) := by decide +kernel
theorem dX5_single_100 : decode cX5_single 100 = .ok (.iload_n 1, 1) := by decide +kernel
theorem dX5_single_101 : decode cX5_single 101 = .ok (.invokevirtual 169, 3) := by decide +kernel
theorem dX5_single_104 : decode cX5_single 104 = .ok (.aload_n 0, 1) := by decide +kernel
theorem dX5_single_105 : decode cX5_single 105 = .ok (.invokevirtual 197, 3) := by decide +kernel
theorem dX5_single_108 : decode cX5_single 108 = .ok (.istore_n 3, 1) := by decide +kernel
theorem dX5_single_109 : decode cX5_single 109 = .ok (.aload_n 0, 1) := by decide +kernel
theorem dX5_single_110 : decode cX5_single 110 = .ok (.iload_n 1, 1) := by decide +kernel
theorem dX5_single_111 : decode cX5_single 111 = .ok (.invokevirtual 169, 3) := by decide +kernel
theorem dX5_single_114 : decode cX5_single 114 = .ok (.aload_n 0, 1) := by decide +kernel
theorem dX5_single_115 : decode cX5_single 115 = .ok (.getfield 16, 3) := by decide +kernel
theorem dX5_single_118 : decode cX5_single 118 = .ok (.getfield 107, 3) := by decide +kernel
theorem dX5_single_121 : decode cX5_single 121 = .ok (.iload_n 3, 1) := by decide +kernel
theorem dX5_single_122 : decode cX5_single 122 = .ok (.iconst 0, 1) := by decide +kernel
theorem dX5_single_123 : decode cX5_single 123 = .ok (.iconst 0, 1) := by decide +kernel
theorem dX5_single_124 : decode cX5_single 124 = .ok (.invokevirtual 184, 3) := by decide +kernel
theorem dX5_single_127 : decode cX5_single 127 = .ok (.return_, 1) := by decide +kernel
theorem dX5_turnedTest_0 : decode cX5_turnedTest 0 = .ok (.aload_n 0, 1) := by decide +kernel
theorem dX5_turnedTest_1 : decode cX5_turnedTest 1 = .ok (.bipush 27, 2) := by decide +kernel
theorem dX5_turnedTest_3 : decode cX5_turnedTest 3 = .ok (.iload_n 1, 1) := by decide +kernel
theorem dX5_turnedTest_4 : decode cX5_turnedTest 4 = .ok (.invokevirtual 200, 3) := by decide +kernel
theorem dX5_turnedTest_7 : decode cX5_turnedTest 7 = .ok (.ifCond .eq 24, 3) := by decide +kernel
theorem dX5_turnedTest_10 : decode cX5_turnedTest 10 = .ok (.aload_n 0, 1) := by decide +kernel
theorem dX5_turnedTest_11 : decode cX5_turnedTest 11 = .ok (.iload_n 1, 1) := by decide +kernel
theorem dX5_turnedTest_12 : decode cX5_turnedTest 12 = .ok (.iconst 1, 1) := by decide +kernel
theorem dX5_turnedTest_13 : decode cX5_turnedTest 13 = .ok (.iadd, 1) := by decide +kernel
theorem dX5_turnedTest_14 : decode cX5_turnedTest 14 = .ok (.invokevirtual 188, 3) := by decide +kernel
theorem dX5_turnedTest_17 : decode cX5_turnedTest 17 = .ok (.aload_n 0, 1) := by decide +kernel
theorem dX5_turnedTest_18 : decode cX5_turnedTest 18 = .ok (.getfield 16, 3) := by decide +kernel
theorem dX5_turnedTest_21 : decode cX5_turnedTest 21 = .ok (.getfield 107, 3) := by decide +kernel
theorem dX5_turnedTest_24 : decode cX5_turnedTest 24 = .ok (.bipush 27, 2) := by decide +kernel
theorem dX5_turnedTest_26 : decode cX5_turnedTest 26 = .ok (.iconst 0, 1) := by decide +kernel
theorem dX5_turnedTest_27 : decode cX5_turnedTest 27 = .ok (.iconst 0, 1) := by decide +kernel
theorem dX5_turnedTest_28 : decode cX5_turnedTest 28 = .ok (.invokevirtual 184, 3) := by decide +kernel
theorem dX5_turnedTest_31 : decode cX5_turnedTest 31 = .ok (.return_, 1) := by decide +kernel
theorem dX5_testInBrackets_0 : decode cX5_testInBrackets 0 = .ok (.aload_n 0, 1) := by decide +kernel
theorem dX5_testInBrackets_1 : decode cX5_testInBrackets 1 = .ok (.bipush 34, 2) := by decide +kernel
theorem dX5_testInBrackets_3 : decode cX5_testInBrackets 3 = .ok (.iload_n 1, 1) := by decide +kernel
theorem dX5_testInBrackets_4 : decode cX5_testInBrackets 4 = .ok (.invokevirtual 200, 3) := by decide +kernel
theorem dX5_testInBrackets_7 : decode cX5_testInBrackets 7 = .ok (.ifCond .eq 16, 3) := by decide +kernel
theorem dX5_testInBrackets_10 : decode cX5_testInBrackets 10 = .ok (.aload_n 0, 1) := by decide +kernel
theorem dX5_testInBrackets_11 : decode cX5_testInBrackets 11 = .ok (.iload_n 1, 1) := by decide +kernel
theorem dX5_testInBrackets_12 : decode cX5_testInBrackets 12 = .ok (.iconst 1, 1) := by decide +kernel
theorem dX5_testInBrackets_13 : decode cX5_testInBrackets 13 = .ok (.iadd, 1) := by decide +kernel
theorem dX5_testInBrackets_14 : decode cX5_testInBrackets 14 = .ok (.invokevirtual 175, 3) := by decide +kernel
theorem dX5_testInBrackets_17 : decode cX5_testInBrackets 17 = .ok (.aload_n 0, 1) := by decide +kernel
theorem dX5_testInBrackets_18 : decode cX5_testInBrackets 18 = .ok (.bipush 35, 2) := by decide +kernel
theorem dX5_testInBrackets_20 : decode cX5_testInBrackets 20 = .ok (.invokevirtual 87, 3) := by decide +kernel
theorem dX5_testInBrackets_23 : decode cX5_testInBrackets 23 = .ok (.return_, 1) := by decide +kernel
theorem dX5_sum_0 : decode cX5_sum 0 = .ok (.aload_n 0, 1) := by decide +kernel
theorem dX5_sum_1 : decode cX5_sum 1 = .ok (.iload_n 1, 1) := by decide +kernel
theorem dX5_sum_2 : decode cX5_sum 2 = .ok (.invokevirtual 204, 3) := by decide +kernel
theorem dX5_sum_5 : decode cX5_sum 5 = .ok (.aload_n 0, 1) := by decide +kernel
theorem dX5_sum_6 : decode cX5_sum 6 = .ok (.invokevirtual 63, 3) := by decide +kernel
theorem dX5_sum_9 : decode cX5_sum 9 = .ok (.istore_n 2, 1) := by decide +kernel
theorem dX5_sum_10 : decode cX5_sum 10 = .ok (.iconst 0, 1) := by decide +kernel
theorem dX5_sum_11 : decode cX5_sum 11 = .ok (.istore_n 3, 1) := by decide +kernel
theorem dX5_sum_12 : decode cX5_sum 12 = .ok (.iload_n 3, 1) := by decide +kernel
theorem dX5_sum_13 : decode cX5_sum 13 = .ok (.sipush 400, 3) := by decide +kernel
theorem dX5_sum_16 : decode cX5_sum 16 = .ok (.if_icmp .ge 54, 3) := by decide +kernel
theorem dX5_sum_19 : decode cX5_sum 19 = .ok (.iload_n 2, 1) := by decide +kernel
theorem dX5_sum_20 : decode cX5_sum 20 = .ok (.bipush 38, 2) := by decide +kernel
theorem dX5_sum_22 : decode cX5_sum 22 = .ok (.if_icmp .eq 9, 3) := by decide +kernel
theorem dX5_sum_25 : decode cX5_sum 25 = .ok (.iload_n 2, 1) := by decide +kernel
theorem dX5_sum_26 : decode cX5_sum 26 = .ok (.bipush 39, 2) := by decide +kernel
theorem dX5_sum_28 : decode cX5_sum 28 = .ok (.if_icmp .ne 42, 3) := by decide +kernel
theorem dX5_sum_31 : decode cX5_sum 31 = .ok (.aload_n 0, 1) := by decide +kernel
theorem dX5_sum_32 : decode cX5_sum 32 = .ok (.dup, 1) := by decide +kernel
theorem dX5_sum_33 : decode cX5_sum 33 = .ok (.getfield 38, 3) := by decide +kernel
theorem dX5_sum_36 : decode cX5_sum 36 = .ok (.iconst 1, 1) := by decide +kernel
theorem dX5_sum_37 : decode cX5_sum 37 = .ok (.iadd, 1) := by decide +kernel
theorem dX5_sum_38 : decode cX5_sum 38 = .ok (.putfield 38, 3) := by decide +kernel
theorem dX5_sum_41 : decode cX5_sum 41 = .ok (.aload_n 0, 1) := by decide +kernel
theorem dX5_sum_42 : decode cX5_sum 42 = .ok (.iload_n 1, 1) := by decide +kernel
theorem dX5_sum_43 : decode cX5_sum 43 = .ok (.invokevirtual 204, 3) := by decide +kernel
theorem dX5_sum_46 : decode cX5_sum 46 = .ok (.aload_n 0, 1) := by decide +kernel
theorem dX5_sum_47 : decode cX5_sum 47 = .ok (.getfield 16, 3) := by decide +kernel
theorem dX5_sum_50 : decode cX5_sum 50 = .ok (.getfield 107, 3) := by decide +kernel
theorem dX5_sum_53 : decode cX5_sum 53 = .ok (.iload_n 2, 1) := by decide +kernel
theorem dX5_sum_54 : decode cX5_sum 54 = .ok (.iconst 0, 1) := by decide +kernel
theorem dX5_sum_55 : decode cX5_sum 55 = .ok (.iconst 0, 1) := by decide +kernel
theorem dX5_sum_56 : decode cX5_sum 56 = .ok (.invokevirtual 184, 3) := by decide +kernel
theorem dX5_sum_59 : decode cX5_sum 59 = .ok (.aload_n 0, 1) := by decide +kernel
theorem dX5_sum_60 : decode cX5_sum 60 = .ok (.invokevirtual 63, 3) := by decide +kernel
theorem dX5_sum_63 : decode cX5_sum 63 = .ok (.istore_n 2, 1) := by decide +kernel
theorem dX5_sum_64 : decode cX5_sum 64 = .ok (.iinc 3 1, 3) := by decide +kernel
theorem dX5_sum_67 : decode cX5_sum 67 = .ok (.goto (-55), 3) := by decide +kernel
theorem dX5_sum_70 : decode cX5_sum 70 = .ok (.return_, 1) := by decide +kernel
theorem dX5_product_0 : decode cX5_product 0 = .ok (.aload_n 0, 1) := by decide +kernel
theorem dX5_product_1 : decode cX5_product 1 = .ok (.iload_n 1, 1) := by decide +kernel
theorem dX5_product_2 : decode cX5_product 2 = .ok (.invokevirtual 207, 3) := by decide +kernel
theorem dX5_product_5 : decode cX5_product 5 = .ok (.aload_n 0, 1) := by decide +kernel
theorem dX5_product_6 : decode cX5_product 6 = .ok (.invokevirtual 63, 3) := by decide +kernel
theorem dX5_product_9 : decode cX5_product 9 = .ok (.istore_n 2, 1) := by decide +kernel
theorem dX5_product_10 : decode cX5_product 10 = .ok (.iconst 0, 1) := by decide +kernel
theorem dX5_product_11 : decode cX5_product 11 = .ok (.istore_n 3, 1) := by decide +kernel
theorem dX5_product_12 : decode cX5_product 12 = .ok (.iload_n 3, 1) := by decide +kernel
theorem dX5_product_13 : decode cX5_product 13 = .ok (.sipush 400, 3) := by decide +kernel
theorem dX5_product_16 : decode cX5_product 16 = .ok (.if_icmp .ge 54, 3) := by decide +kernel
theorem dX5_product_19 : decode cX5_product 19 = .ok (.iload_n 2, 1) := by decide +kernel
theorem dX5_product_20 : decode cX5_product 20 = .ok (.bipush 40, 2) := by decide +kernel
theorem dX5_product_22 : decode cX5_product 22 = .ok (.if_icmp .eq 9, 3) := by decide +kernel
theorem dX5_product_25 : decode cX5_product 25 = .ok (.iload_n 2, 1) := by decide +kernel
theorem dX5_product_26 : decode cX5_product 26 = .ok (.bipush 41, 2) := by decide +kernel
theorem dX5_product_28 : decode cX5_product 28 = .ok (.if_icmp .ne 42, 3) := by decide +kernel
theorem dX5_product_31 : decode cX5_product 31 = .ok (.aload_n 0, 1) := by decide +kernel
theorem dX5_product_32 : decode cX5_product 32 = .ok (.dup, 1) := by decide +kernel
theorem dX5_product_33 : decode cX5_product 33 = .ok (.getfield 38, 3) := by decide +kernel
theorem dX5_product_36 : decode cX5_product 36 = .ok (.iconst 1, 1) := by decide +kernel
theorem dX5_product_37 : decode cX5_product 37 = .ok (.iadd, 1) := by decide +kernel
theorem dX5_product_38 : decode cX5_product 38 = .ok (.putfield 38, 3) := by decide +kernel
theorem dX5_product_41 : decode cX5_product 41 = .ok (.aload_n 0, 1) := by decide +kernel
theorem dX5_product_42 : decode cX5_product 42 = .ok (.iload_n 1, 1) := by decide +kernel
theorem dX5_product_43 : decode cX5_product 43 = .ok (.invokevirtual 207, 3) := by decide +kernel
theorem dX5_product_46 : decode cX5_product 46 = .ok (.aload_n 0, 1) := by decide +kernel
theorem dX5_product_47 : decode cX5_product 47 = .ok (.getfield 16, 3) := by decide +kernel
theorem dX5_product_50 : decode cX5_product 50 = .ok (.getfield 107, 3) := by decide +kernel
theorem dX5_product_53 : decode cX5_product 53 = .ok (.iload_n 2, 1) := by decide +kernel
theorem dX5_product_54 : decode cX5_product 54 = .ok (.iconst 0, 1) := by decide +kernel
theorem dX5_product_55 : decode cX5_product 55 = .ok (.iconst 0, 1) := by decide +kernel
theorem dX5_product_56 : decode cX5_product 56 = .ok (.invokevirtual 184, 3) := by decide +kernel
theorem dX5_product_59 : decode cX5_product 59 = .ok (.aload_n 0, 1) := by decide +kernel
theorem dX5_product_60 : decode cX5_product 60 = .ok (.invokevirtual 63, 3) := by decide +kernel
theorem dX5_product_63 : decode cX5_product 63 = .ok (.istore_n 2, 1) := by decide +kernel
theorem dX5_product_64 : decode cX5_product 64 = .ok (.iinc 3 1, 3) := by decide +kernel
theorem dX5_product_67 : decode cX5_product 67 = .ok (.goto (-55), 3) := by decide +kernel
theorem dX5_product_70 : decode cX5_product 70 = .ok (.return_, 1) := by decide +kernel
theorem dX5_value_0 : decode cX5_value 0 = .ok (.aload_n 0, 1) := by decide +kernel
theorem dX5_value_1 : decode cX5_value 1 = .ok (.invokevirtual 63, 3) := by decide +kernel
theorem dX5_value_4 : decode cX5_value 4 = .ok (.istore_n 2, 1) := by decide +kernel
theorem dX5_value_5 : decode cX5_value 5 = .ok (.iload_n 2, 1) := by decide +kernel
theorem dX5_value_6 : decode cX5_value 6 = .ok (.tableswitch 367 6 48 #[267, 367, 367, 367, 367, 367, 367, 367, 367, 367, 367, 367, 367, 208, 208, 234, 234, 234, 267, 300, 367, 367, 367, 367, 358, 358, 350, 367, 367, 367, 367, 367, 367, 342, 367, 367, 367, 367, 367, 367, 367, 367, 186], 186) := by decide +kernel
theorem dX5_value_192 : decode cX5_value 192 = .ok (.aload_n 0, 1) := by decide +kernel
theorem dX5_value_193 : decode cX5_value 193 = .ok (.getfield 16, 3) := by decide +kernel
theorem dX5_value_196 : decode cX5_value 196 = .ok (.getfield 107, 3) := by decide +kernel
theorem dX5_value_199 : decode cX5_value 199 = .ok (.iload_n 2, 1) := by decide +kernel
theorem dX5_value_200 : decode cX5_value 200 = .ok (.aload_n 0, 1) := by decide +kernel
theorem dX5_value_201 : decode cX5_value 201 = .ok (.iconst 0, 1) := by decide +kernel
theorem dX5_value_202 : decode cX5_value 202 = .ok (.ldc 212, 2) := by decide +kernel
theorem dX5_value_204 : decode cX5_value 204 = .ok (.invokevirtual 122, 3) := by decide +kernel
theorem dX5_value_207 : decode cX5_value 207 = .ok (.iconst 0, 1) := by decide +kernel
theorem dX5_value_208 : decode cX5_value 208 = .ok (.invokevirtual 184, 3) := by decide +kernel
theorem dX5_value_211 : decode cX5_value 211 = .ok (.goto 166, 3) := by decide +kernel
theorem dX5_value_214 : decode cX5_value 214 = .ok (.aload_n 0, 1) := by decide +kernel
theorem dX5_value_215 : decode cX5_value 215 = .ok (.dup, 1) := by decide +kernel
theorem dX5_value_216 : decode cX5_value 216 = .ok (.getfield 38, 3) := by decide +kernel
theorem dX5_value_219 : decode cX5_value 219 = .ok (.iconst 1, 1) := by decide +kernel
theorem dX5_value_220 : decode cX5_value 220 = .ok (.iadd, 1) := by decide +kernel
theorem dX5_value_221 : decode cX5_value 221 = .ok (.putfield 38, 3) := by decide +kernel
theorem dX5_value_224 : decode cX5_value 224 = .ok (.aload_n 0, 1) := by decide +kernel
theorem dX5_value_225 : decode cX5_value 225 = .ok (.getfield 16, 3) := by decide +kernel
theorem dX5_value_228 : decode cX5_value 228 = .ok (.getfield 107, 3) := by decide +kernel
theorem dX5_value_231 : decode cX5_value 231 = .ok (.iload_n 2, 1) := by decide +kernel
theorem dX5_value_232 : decode cX5_value 232 = .ok (.iconst 0, 1) := by decide +kernel
theorem dX5_value_233 : decode cX5_value 233 = .ok (.iconst 0, 1) := by decide +kernel
theorem dX5_value_234 : decode cX5_value 234 = .ok (.invokevirtual 184, 3) := by decide +kernel
theorem dX5_value_237 : decode cX5_value 237 = .ok (.goto 140, 3) := by decide +kernel
theorem dX5_value_240 : decode cX5_value 240 = .ok (.aload_n 0, 1) := by decide +kernel
theorem dX5_value_241 : decode cX5_value 241 = .ok (.dup, 1) := by decide +kernel
theorem dX5_value_242 : decode cX5_value 242 = .ok (.getfield 38, 3) := by decide +kernel
theorem dX5_value_245 : decode cX5_value 245 = .ok (.iconst 1, 1) := by decide +kernel
theorem dX5_value_246 : decode cX5_value 246 = .ok (.iadd, 1) := by decide +kernel
theorem dX5_value_247 : decode cX5_value 247 = .ok (.putfield 38, 3) := by decide +kernel
theorem dX5_value_250 : decode cX5_value 250 = .ok (.aload_n 0, 1) := by decide +kernel
theorem dX5_value_251 : decode cX5_value 251 = .ok (.getfield 16, 3) := by decide +kernel
theorem dX5_value_254 : decode cX5_value 254 = .ok (.getfield 107, 3) := by decide +kernel
theorem dX5_value_257 : decode cX5_value 257 = .ok (.iload_n 2, 1) := by decide +kernel
theorem dX5_value_258 : decode cX5_value 258 = .ok (.aload_n 0, 1) := by decide +kernel
theorem dX5_value_259 : decode cX5_value 259 = .ok (.aload_n 0, 1) := by decide +kernel
theorem dX5_value_260 : decode cX5_value 260 = .ok (.getfield 35, 3) := by decide +kernel
theorem dX5_value_263 : decode cX5_value 263 = .ok (.invokevirtual 145, 3) := by decide +kernel
theorem dX5_value_266 : decode cX5_value 266 = .ok (.iconst 0, 1) := by decide +kernel
theorem dX5_value_267 : decode cX5_value 267 = .ok (.invokevirtual 184, 3) := by decide +kernel
theorem dX5_value_270 : decode cX5_value 270 = .ok (.goto 107, 3) := by decide +kernel
theorem dX5_value_273 : decode cX5_value 273 = .ok (.aload_n 0, 1) := by decide +kernel
theorem dX5_value_274 : decode cX5_value 274 = .ok (.dup, 1) := by decide +kernel
theorem dX5_value_275 : decode cX5_value 275 = .ok (.getfield 38, 3) := by decide +kernel
theorem dX5_value_278 : decode cX5_value 278 = .ok (.iconst 1, 1) := by decide +kernel
theorem dX5_value_279 : decode cX5_value 279 = .ok (.iadd, 1) := by decide +kernel
theorem dX5_value_280 : decode cX5_value 280 = .ok (.putfield 38, 3) := by decide +kernel
theorem dX5_value_283 : decode cX5_value 283 = .ok (.aload_n 0, 1) := by decide +kernel
theorem dX5_value_284 : decode cX5_value 284 = .ok (.getfield 16, 3) := by decide +kernel
theorem dX5_value_287 : decode cX5_value 287 = .ok (.getfield 107, 3) := by decide +kernel
theorem dX5_value_290 : decode cX5_value 290 = .ok (.iload_n 2, 1) := by decide +kernel
theorem dX5_value_291 : decode cX5_value 291 = .ok (.aload_n 0, 1) := by decide +kernel
theorem dX5_value_292 : decode cX5_value 292 = .ok (.aload_n 0, 1) := by decide +kernel
theorem dX5_value_293 : decode cX5_value 293 = .ok (.getfield 32, 3) := by decide +kernel
theorem dX5_value_296 : decode cX5_value 296 = .ok (.invokevirtual 145, 3) := by decide +kernel
theorem dX5_value_299 : decode cX5_value 299 = .ok (.iconst 0, 1) := by decide +kernel
theorem dX5_value_300 : decode cX5_value 300 = .ok (.invokevirtual 184, 3) := by decide +kernel
theorem dX5_value_303 : decode cX5_value 303 = .ok (.goto 74, 3) := by decide +kernel
theorem dX5_value_306 : decode cX5_value 306 = .ok (.aload_n 0, 1) := by decide +kernel
theorem dX5_value_307 : decode cX5_value 307 = .ok (.dup, 1) := by decide +kernel
theorem dX5_value_308 : decode cX5_value 308 = .ok (.getfield 38, 3) := by decide +kernel
theorem dX5_value_311 : decode cX5_value 311 = .ok (.iconst 1, 1) := by decide +kernel
theorem dX5_value_312 : decode cX5_value 312 = .ok (.iadd, 1) := by decide +kernel
theorem dX5_value_313 : decode cX5_value 313 = .ok (.putfield 38, 3) := by decide +kernel
theorem dX5_value_316 : decode cX5_value 316 = .ok (.aload_n 0, 1) := by decide +kernel
theorem dX5_value_317 : decode cX5_value 317 = .ok (.aload_n 0, 1) := by decide +kernel
theorem dX5_value_318 : decode cX5_value 318 = .ok (.getfield 32, 3) := by decide +kernel
theorem dX5_value_321 : decode cX5_value 321 = .ok (.invokevirtual 145, 3) := by decide +kernel
theorem dX5_value_324 : decode cX5_value 324 = .ok (.istore_n 3, 1) := by decide +kernel
theorem dX5_value_325 : decode cX5_value 325 = .ok (.aload_n 0, 1) := by decide +kernel
theorem dX5_value_326 : decode cX5_value 326 = .ok (.getfield 16, 3) := by decide +kernel
theorem dX5_value_329 : decode cX5_value 329 = .ok (.getfield 107, 3) := by decide +kernel
theorem dX5_value_332 : decode cX5_value 332 = .ok (.iload_n 2, 1) := by decide +kernel
theorem dX5_value_333 : decode cX5_value 333 = .ok (.iload_n 3, 1) := by decide +kernel
theorem dX5_value_334 : decode cX5_value 334 = .ok (.aload_n 0, 1) := by decide +kernel
theorem dX5_value_335 : decode cX5_value 335 = .ok (.aload_n 0, 1) := by decide +kernel
theorem dX5_value_336 : decode cX5_value 336 = .ok (.getfield 32, 3) := by decide +kernel
theorem dX5_value_339 : decode cX5_value 339 = .ok (.invokevirtual 145, 3) := by decide +kernel
theorem dX5_value_342 : decode cX5_value 342 = .ok (.invokevirtual 184, 3) := by decide +kernel
theorem dX5_value_345 : decode cX5_value 345 = .ok (.goto 32, 3) := by decide +kernel
theorem dX5_value_348 : decode cX5_value 348 = .ok (.aload_n 0, 1) := by decide +kernel
theorem dX5_value_349 : decode cX5_value 349 = .ok (.iload_n 1, 1) := by decide +kernel
theorem dX5_value_350 : decode cX5_value 350 = .ok (.invokevirtual 213, 3) := by decide +kernel
theorem dX5_value_353 : decode cX5_value 353 = .ok (.goto 24, 3) := by decide +kernel
theorem dX5_value_356 : decode cX5_value 356 = .ok (.aload_n 0, 1) := by decide +kernel
theorem dX5_value_357 : decode cX5_value 357 = .ok (.iload_n 1, 1) := by decide +kernel
theorem dX5_value_358 : decode cX5_value 358 = .ok (.invokevirtual 216, 3) := by decide +kernel
theorem dX5_value_361 : decode cX5_value 361 = .ok (.goto 16, 3) := by decide +kernel
theorem dX5_value_364 : decode cX5_value 364 = .ok (.aload_n 0, 1) := by decide +kernel
theorem dX5_value_365 : decode cX5_value 365 = .ok (.iload_n 2, 1) := by decide +kernel
theorem dX5_value_366 : decode cX5_value 366 = .ok (.iload_n 1, 1) := by decide +kernel
theorem dX5_value_367 : decode cX5_value 367 = .ok (.invokevirtual 219, 3) := by decide +kernel
theorem dX5_value_370 : decode cX5_value 370 = .ok (.goto 7, 3) := by decide +kernel
theorem dX5_value_373 : decode cX5_value 373 = .ok (.aload_n 0, 1) := by decide +kernel
theorem dX5_value_374 : decode cX5_value 374 = .ok (.invokevirtual 84, 3) := by decide +kernel
theorem dX5_value_377 : decode cX5_value 377 = .ok (.return_, 1) := by decide +kernel
theorem dX5_turnedValue_0 : decode cX5_turnedValue 0 = .ok (.aload_n 0, 1) := by decide +kernel
theorem dX5_turnedValue_1 : decode cX5_turnedValue 1 = .ok (.bipush 39, 2) := by decide +kernel
theorem dX5_turnedValue_3 : decode cX5_turnedValue 3 = .ok (.iload_n 1, 1) := by decide +kernel
theorem dX5_turnedValue_4 : decode cX5_turnedValue 4 = .ok (.invokevirtual 200, 3) := by decide +kernel
theorem dX5_turnedValue_7 : decode cX5_turnedValue 7 = .ok (.ifCond .eq 24, 3) := by decide +kernel
theorem dX5_turnedValue_10 : decode cX5_turnedValue 10 = .ok (.aload_n 0, 1) := by decide +kernel
theorem dX5_turnedValue_11 : decode cX5_turnedValue 11 = .ok (.iload_n 1, 1) := by decide +kernel
theorem dX5_turnedValue_12 : decode cX5_turnedValue 12 = .ok (.iconst 1, 1) := by decide +kernel
theorem dX5_turnedValue_13 : decode cX5_turnedValue 13 = .ok (.iadd, 1) := by decide +kernel
theorem dX5_turnedValue_14 : decode cX5_turnedValue 14 = .ok (.invokevirtual 207, 3) := by decide +kernel
theorem dX5_turnedValue_17 : decode cX5_turnedValue 17 = .ok (.aload_n 0, 1) := by decide +kernel
theorem dX5_turnedValue_18 : decode cX5_turnedValue 18 = .ok (.getfield 16, 3) := by decide +kernel
theorem dX5_turnedValue_21 : decode cX5_turnedValue 21 = .ok (.getfield 107, 3) := by decide +kernel
theorem dX5_turnedValue_24 : decode cX5_turnedValue 24 = .ok (.bipush 51, 2) := by decide +kernel
theorem dX5_turnedValue_26 : decode cX5_turnedValue 26 = .ok (.iconst 0, 1) := by decide +kernel
theorem dX5_turnedValue_27 : decode cX5_turnedValue 27 = .ok (.iconst 0, 1) := by decide +kernel
theorem dX5_turnedValue_28 : decode cX5_turnedValue 28 = .ok (.invokevirtual 184, 3) := by decide +kernel
theorem dX5_turnedValue_31 : decode cX5_turnedValue 31 = .ok (.return_, 1) := by decide +kernel
theorem dX5_sumInBrackets_0 : decode cX5_sumInBrackets 0 = .ok (.aload_n 0, 1) := by decide +kernel
theorem dX5_sumInBrackets_1 : decode cX5_sumInBrackets 1 = .ok (.bipush 32, 2) := by decide +kernel
theorem dX5_sumInBrackets_3 : decode cX5_sumInBrackets 3 = .ok (.iload_n 1, 1) := by decide +kernel
theorem dX5_sumInBrackets_4 : decode cX5_sumInBrackets 4 = .ok (.invokevirtual 200, 3) := by decide +kernel
theorem dX5_sumInBrackets_7 : decode cX5_sumInBrackets 7 = .ok (.ifCond .eq 16, 3) := by decide +kernel
theorem dX5_sumInBrackets_10 : decode cX5_sumInBrackets 10 = .ok (.aload_n 0, 1) := by decide +kernel
theorem dX5_sumInBrackets_11 : decode cX5_sumInBrackets 11 = .ok (.iload_n 1, 1) := by decide +kernel
theorem dX5_sumInBrackets_12 : decode cX5_sumInBrackets 12 = .ok (.iconst 1, 1) := by decide +kernel
theorem dX5_sumInBrackets_13 : decode cX5_sumInBrackets 13 = .ok (.iadd, 1) := by decide +kernel
theorem dX5_sumInBrackets_14 : decode cX5_sumInBrackets 14 = .ok (.invokevirtual 169, 3) := by decide +kernel
theorem dX5_sumInBrackets_17 : decode cX5_sumInBrackets 17 = .ok (.aload_n 0, 1) := by decide +kernel
theorem dX5_sumInBrackets_18 : decode cX5_sumInBrackets 18 = .ok (.bipush 33, 2) := by decide +kernel
theorem dX5_sumInBrackets_20 : decode cX5_sumInBrackets 20 = .ok (.invokevirtual 87, 3) := by decide +kernel
theorem dX5_sumInBrackets_23 : decode cX5_sumInBrackets 23 = .ok (.return_, 1) := by decide +kernel
theorem dX5_oneOfTwoSums_0 : decode cX5_oneOfTwoSums 0 = .ok (.aload_n 0, 1) := by decide +kernel
theorem dX5_oneOfTwoSums_1 : decode cX5_oneOfTwoSums 1 = .ok (.dup, 1) := by decide +kernel
theorem dX5_oneOfTwoSums_2 : decode cX5_oneOfTwoSums 2 = .ok (.getfield 38, 3) := by decide +kernel
theorem dX5_oneOfTwoSums_5 : decode cX5_oneOfTwoSums 5 = .ok (.iconst 1, 1) := by decide +kernel
theorem dX5_oneOfTwoSums_6 : decode cX5_oneOfTwoSums 6 = .ok (.iadd, 1) := by decide +kernel
theorem dX5_oneOfTwoSums_7 : decode cX5_oneOfTwoSums 7 = .ok (.putfield 38, 3) := by decide +kernel
theorem dX5_oneOfTwoSums_10 : decode cX5_oneOfTwoSums 10 = .ok (.aload_n 0, 1) := by decide +kernel
theorem dX5_oneOfTwoSums_11 : decode cX5_oneOfTwoSums 11 = .ok (.bipush 32, 2) := by decide +kernel
theorem dX5_oneOfTwoSums_13 : decode cX5_oneOfTwoSums 13 = .ok (.iload_n 2, 1) := by decide +kernel
theorem dX5_oneOfTwoSums_14 : decode cX5_oneOfTwoSums 14 = .ok (.invokevirtual 200, 3) := by decide +kernel
theorem dX5_oneOfTwoSums_17 : decode cX5_oneOfTwoSums 17 = .ok (.ifCond .eq 42, 3) := by decide +kernel
theorem dX5_oneOfTwoSums_20 : decode cX5_oneOfTwoSums 20 = .ok (.aload_n 0, 1) := by decide +kernel
theorem dX5_oneOfTwoSums_21 : decode cX5_oneOfTwoSums 21 = .ok (.iload_n 2, 1) := by decide +kernel
theorem dX5_oneOfTwoSums_22 : decode cX5_oneOfTwoSums 22 = .ok (.iconst 1, 1) := by decide +kernel
theorem dX5_oneOfTwoSums_23 : decode cX5_oneOfTwoSums 23 = .ok (.iadd, 1) := by decide +kernel
theorem dX5_oneOfTwoSums_24 : decode cX5_oneOfTwoSums 24 = .ok (.invokevirtual 169, 3) := by decide +kernel
theorem dX5_oneOfTwoSums_27 : decode cX5_oneOfTwoSums 27 = .ok (.aload_n 0, 1) := by decide +kernel
theorem dX5_oneOfTwoSums_28 : decode cX5_oneOfTwoSums 28 = .ok (.bipush 37, 2) := by decide +kernel
theorem dX5_oneOfTwoSums_30 : decode cX5_oneOfTwoSums 30 = .ok (.invokevirtual 87, 3) := by decide +kernel
theorem dX5_oneOfTwoSums_33 : decode cX5_oneOfTwoSums 33 = .ok (.aload_n 0, 1) := by decide +kernel
theorem dX5_oneOfTwoSums_34 : decode cX5_oneOfTwoSums 34 = .ok (.iload_n 2, 1) := by decide +kernel
theorem dX5_oneOfTwoSums_35 : decode cX5_oneOfTwoSums 35 = .ok (.iconst 1, 1) := by decide +kernel
theorem dX5_oneOfTwoSums_36 : decode cX5_oneOfTwoSums 36 = .ok (.iadd, 1) := by decide +kernel
theorem dX5_oneOfTwoSums_37 : decode cX5_oneOfTwoSums 37 = .ok (.invokevirtual 169, 3) := by decide +kernel
theorem dX5_oneOfTwoSums_40 : decode cX5_oneOfTwoSums 40 = .ok (.aload_n 0, 1) := by decide +kernel
theorem dX5_oneOfTwoSums_41 : decode cX5_oneOfTwoSums 41 = .ok (.bipush 33, 2) := by decide +kernel
theorem dX5_oneOfTwoSums_43 : decode cX5_oneOfTwoSums 43 = .ok (.invokevirtual 87, 3) := by decide +kernel
theorem dX5_oneOfTwoSums_46 : decode cX5_oneOfTwoSums 46 = .ok (.aload_n 0, 1) := by decide +kernel
theorem dX5_oneOfTwoSums_47 : decode cX5_oneOfTwoSums 47 = .ok (.getfield 16, 3) := by decide +kernel
theorem dX5_oneOfTwoSums_50 : decode cX5_oneOfTwoSums 50 = .ok (.getfield 107, 3) := by decide +kernel
theorem dX5_oneOfTwoSums_53 : decode cX5_oneOfTwoSums 53 = .ok (.iload_n 1, 1) := by decide +kernel
theorem dX5_oneOfTwoSums_54 : decode cX5_oneOfTwoSums 54 = .ok (.iconst 0, 1) := by decide +kernel
theorem dX5_oneOfTwoSums_55 : decode cX5_oneOfTwoSums 55 = .ok (.iconst 0, 1) := by decide +kernel
theorem dX5_oneOfTwoSums_56 : decode cX5_oneOfTwoSums 56 = .ok (.invokevirtual 184, 3) := by decide +kernel
theorem dX5_oneOfTwoSums_59 : decode cX5_oneOfTwoSums 59 = .ok (.return_, 1) := by decide +kernel
theorem dX5_seen_0 : decode cX5_seen 0 = .ok (.aload_n 0, 1) := by decide +kernel
theorem dX5_seen_1 : decode cX5_seen 1 = .ok (.getfield 42, 3) := by decide +kernel
theorem dX5_seen_4 : decode cX5_seen 4 = .ok (.iconst 1, 1) := by decide +kernel
theorem dX5_seen_5 : decode cX5_seen 5 = .ok (.if_icmp .ne 8, 3) := by decide +kernel
theorem dX5_seen_8 : decode cX5_seen 8 = .ok (.bipush 50, 2) := by decide +kernel
theorem dX5_seen_10 : decode cX5_seen 10 = .ok (.goto 17, 3) := by decide +kernel
theorem dX5_seen_13 : decode cX5_seen 13 = .ok (.aload_n 0, 1) := by decide +kernel
theorem dX5_seen_14 : decode cX5_seen 14 = .ok (.getfield 7, 3) := by decide +kernel
theorem dX5_seen_17 : decode cX5_seen 17 = .ok (.getfield 222, 3) := by decide +kernel
theorem dX5_seen_20 : decode cX5_seen 20 = .ok (.aload_n 0, 1) := by decide +kernel
theorem dX5_seen_21 : decode cX5_seen 21 = .ok (.getfield 38, 3) := by decide +kernel
theorem dX5_seen_24 : decode cX5_seen 24 = .ok (.invokevirtual 54, 3) := by decide +kernel
theorem dX5_seen_27 : decode cX5_seen 27 = .ok (.ireturn, 1) := by decide +kernel
theorem dX5_take_0 : decode cX5_take 0 = .ok (.aload_n 0, 1) := by decide +kernel
theorem dX5_take_1 : decode cX5_take 1 = .ok (.invokevirtual 63, 3) := by decide +kernel
theorem dX5_take_4 : decode cX5_take 4 = .ok (.iload_n 1, 1) := by decide +kernel
theorem dX5_take_5 : decode cX5_take 5 = .ok (.if_icmp .ne 16, 3) := by decide +kernel
theorem dX5_take_8 : decode cX5_take 8 = .ok (.aload_n 0, 1) := by decide +kernel
theorem dX5_take_9 : decode cX5_take 9 = .ok (.dup, 1) := by decide +kernel
theorem dX5_take_10 : decode cX5_take 10 = .ok (.getfield 38, 3) := by decide +kernel
theorem dX5_take_13 : decode cX5_take 13 = .ok (.iconst 1, 1) := by decide +kernel
theorem dX5_take_14 : decode cX5_take 14 = .ok (.iadd, 1) := by decide +kernel
theorem dX5_take_15 : decode cX5_take 15 = .ok (.putfield 38, 3) := by decide +kernel
theorem dX5_take_18 : decode cX5_take 18 = .ok (.goto 7, 3) := by decide +kernel
theorem dX5_take_21 : decode cX5_take 21 = .ok (.aload_n 0, 1) := by decide +kernel
theorem dX5_take_22 : decode cX5_take 22 = .ok (.invokevirtual 84, 3) := by decide +kernel
theorem dX5_take_25 : decode cX5_take 25 = .ok (.return_, 1) := by decide +kernel
theorem dX5_goesDeeper_0 : decode cX5_goesDeeper 0 = .ok (.iload_n 2, 1) := by decide +kernel
theorem dX5_goesDeeper_1 : decode cX5_goesDeeper 1 = .ok (.bipush 8, 2) := by decide +kernel
theorem dX5_goesDeeper_3 : decode cX5_goesDeeper 3 = .ok (.if_icmp .ge 11, 3) := by decide +kernel
theorem dX5_goesDeeper_6 : decode cX5_goesDeeper 6 = .ok (.aload_n 0, 1) := by decide +kernel
theorem dX5_goesDeeper_7 : decode cX5_goesDeeper 7 = .ok (.invokevirtual 63, 3) := by decide +kernel
theorem dX5_goesDeeper_10 : decode cX5_goesDeeper 10 = .ok (.iload_n 1, 1) := by decide +kernel
theorem dX5_goesDeeper_11 : decode cX5_goesDeeper 11 = .ok (.if_icmp .eq 9, 3) := by decide +kernel
theorem dX5_goesDeeper_14 : decode cX5_goesDeeper 14 = .ok (.aload_n 0, 1) := by decide +kernel
theorem dX5_goesDeeper_15 : decode cX5_goesDeeper 15 = .ok (.invokevirtual 84, 3) := by decide +kernel
theorem dX5_goesDeeper_18 : decode cX5_goesDeeper 18 = .ok (.iconst 0, 1) := by decide +kernel
theorem dX5_goesDeeper_19 : decode cX5_goesDeeper 19 = .ok (.ireturn, 1) := by decide +kernel
theorem dX5_goesDeeper_20 : decode cX5_goesDeeper 20 = .ok (.aload_n 0, 1) := by decide +kernel
theorem dX5_goesDeeper_21 : decode cX5_goesDeeper 21 = .ok (.dup, 1) := by decide +kernel
theorem dX5_goesDeeper_22 : decode cX5_goesDeeper 22 = .ok (.getfield 38, 3) := by decide +kernel
theorem dX5_goesDeeper_25 : decode cX5_goesDeeper 25 = .ok (.iconst 1, 1) := by decide +kernel
theorem dX5_goesDeeper_26 : decode cX5_goesDeeper 26 = .ok (.iadd, 1) := by decide +kernel
theorem dX5_goesDeeper_27 : decode cX5_goesDeeper 27 = .ok (.putfield 38, 3) := by decide +kernel
theorem dX5_goesDeeper_30 : decode cX5_goesDeeper 30 = .ok (.iconst 1, 1) := by decide +kernel
theorem dX5_goesDeeper_31 : decode cX5_goesDeeper 31 = .ok (.ireturn, 1) := by decide +kernel
theorem dX5_takeComparison_0 : decode cX5_takeComparison 0 = .ok (.aload_n 0, 1) := by decide +kernel
theorem dX5_takeComparison_1 : decode cX5_takeComparison 1 = .ok (.invokevirtual 63, 3) := by decide +kernel
theorem dX5_takeComparison_4 : decode cX5_takeComparison 4 = .ok (.istore_n 1, 1) := by decide +kernel
theorem dX5_takeComparison_5 : decode cX5_takeComparison 5 = .ok (.iload_n 1, 1) := by decide +kernel
theorem dX5_takeComparison_6 : decode cX5_takeComparison 6 = .ok (.invokestatic 225, 3) := by decide +kernel
theorem dX5_takeComparison_9 : decode cX5_takeComparison 9 = .ok (.ifCond .eq 16, 3) := by decide +kernel
theorem dX5_takeComparison_12 : decode cX5_takeComparison 12 = .ok (.aload_n 0, 1) := by decide +kernel
theorem dX5_takeComparison_13 : decode cX5_takeComparison 13 = .ok (.dup, 1) := by decide +kernel
theorem dX5_takeComparison_14 : decode cX5_takeComparison 14 = .ok (.getfield 38, 3) := by decide +kernel
theorem dX5_takeComparison_17 : decode cX5_takeComparison 17 = .ok (.iconst 1, 1) := by decide +kernel
theorem dX5_takeComparison_18 : decode cX5_takeComparison 18 = .ok (.iadd, 1) := by decide +kernel
theorem dX5_takeComparison_19 : decode cX5_takeComparison 19 = .ok (.putfield 38, 3) := by decide +kernel
theorem dX5_takeComparison_22 : decode cX5_takeComparison 22 = .ok (.goto 7, 3) := by decide +kernel
theorem dX5_takeComparison_25 : decode cX5_takeComparison 25 = .ok (.aload_n 0, 1) := by decide +kernel
theorem dX5_takeComparison_26 : decode cX5_takeComparison 26 = .ok (.invokevirtual 84, 3) := by decide +kernel
theorem dX5_takeComparison_29 : decode cX5_takeComparison 29 = .ok (.iload_n 1, 1) := by decide +kernel
theorem dX5_takeComparison_30 : decode cX5_takeComparison 30 = .ok (.ireturn, 1) := by decide +kernel
theorem dX5_takeNewName_0 : decode cX5_takeNewName 0 = .ok (.aload_n 0, 1) := by decide +kernel
theorem dX5_takeNewName_1 : decode cX5_takeNewName 1 = .ok (.invokevirtual 63, 3) := by decide +kernel
theorem dX5_takeNewName_4 : decode cX5_takeNewName 4 = .ok (.bipush 47, 2) := by decide +kernel
theorem dX5_takeNewName_6 : decode cX5_takeNewName 6 = .ok (.if_icmp .eq 9, 3) := by decide +kernel
theorem dX5_takeNewName_9 : decode cX5_takeNewName 9 = .ok (.aload_n 0, 1) := by decide +kernel
theorem dX5_takeNewName_10 : decode cX5_takeNewName 10 = .ok (.invokevirtual 84, 3) := by decide +kernel
theorem dX5_takeNewName_13 : decode cX5_takeNewName 13 = .ok (.iconst (-1), 1) := by decide +kernel
theorem dX5_takeNewName_14 : decode cX5_takeNewName 14 = .ok (.ireturn, 1) := by decide +kernel
theorem dX5_takeNewName_15 : decode cX5_takeNewName 15 = .ok (.aload_n 0, 1) := by decide +kernel
theorem dX5_takeNewName_16 : decode cX5_takeNewName 16 = .ok (.getfield 38, 3) := by decide +kernel
theorem dX5_takeNewName_19 : decode cX5_takeNewName 19 = .ok (.istore_n 2, 1) := by decide +kernel
theorem dX5_takeNewName_20 : decode cX5_takeNewName 20 = .ok (.aload_n 0, 1) := by decide +kernel
theorem dX5_takeNewName_21 : decode cX5_takeNewName 21 = .ok (.dup, 1) := by decide +kernel
theorem dX5_takeNewName_22 : decode cX5_takeNewName 22 = .ok (.getfield 38, 3) := by decide +kernel
theorem dX5_takeNewName_25 : decode cX5_takeNewName 25 = .ok (.iconst 1, 1) := by decide +kernel
theorem dX5_takeNewName_26 : decode cX5_takeNewName 26 = .ok (.iadd, 1) := by decide +kernel
theorem dX5_takeNewName_27 : decode cX5_takeNewName 27 = .ok (.putfield 38, 3) := by decide +kernel
theorem dX5_takeNewName_30 : decode cX5_takeNewName 30 = .ok (.aload_n 0, 1) := by decide +kernel
theorem dX5_takeNewName_31 : decode cX5_takeNewName 31 = .ok (.getfield 7, 3) := by decide +kernel
theorem dX5_takeNewName_34 : decode cX5_takeNewName 34 = .ok (.getfield 229, 3) := by decide +kernel
theorem dX5_takeNewName_37 : decode cX5_takeNewName 37 = .ok (.iload_n 2, 1) := by decide +kernel
theorem dX5_takeNewName_38 : decode cX5_takeNewName 38 = .ok (.invokevirtual 54, 3) := by decide +kernel
theorem dX5_takeNewName_41 : decode cX5_takeNewName 41 = .ok (.istore_n 3, 1) := by decide +kernel
theorem dX5_takeNewName_42 : decode cX5_takeNewName 42 = .ok (.aload_n 1, 1) := by decide +kernel
theorem dX5_takeNewName_43 : decode cX5_takeNewName 43 = .ok (.iload_n 3, 1) := by decide +kernel
theorem dX5_takeNewName_44 : decode cX5_takeNewName 44 = .ok (.invokevirtual 231, 3) := by decide +kernel
theorem dX5_takeNewName_47 : decode cX5_takeNewName 47 = .ok (.ifCond .lt 11, 3) := by decide +kernel
theorem dX5_takeNewName_50 : decode cX5_takeNewName 50 = .ok (.aload_n 0, 1) := by decide +kernel
theorem dX5_takeNewName_51 : decode cX5_takeNewName 51 = .ok (.iconst 2, 1) := by decide +kernel
theorem dX5_takeNewName_52 : decode cX5_takeNewName 52 = .ok (.iload_n 2, 1) := by decide +kernel
theorem dX5_takeNewName_53 : decode cX5_takeNewName 53 = .ok (.invokevirtual 154, 3) := by decide +kernel
theorem dX5_takeNewName_56 : decode cX5_takeNewName 56 = .ok (.iconst (-1), 1) := by decide +kernel
theorem dX5_takeNewName_57 : decode cX5_takeNewName 57 = .ok (.ireturn, 1) := by decide +kernel
theorem dX5_takeNewName_58 : decode cX5_takeNewName 58 = .ok (.aload_n 1, 1) := by decide +kernel
theorem dX5_takeNewName_59 : decode cX5_takeNewName 59 = .ok (.invokevirtual 234, 3) := by decide +kernel
theorem dX5_takeNewName_62 : decode cX5_takeNewName 62 = .ok (.ifCond .eq 11, 3) := by decide +kernel
theorem dX5_takeNewName_65 : decode cX5_takeNewName 65 = .ok (.aload_n 0, 1) := by decide +kernel
theorem dX5_takeNewName_66 : decode cX5_takeNewName 66 = .ok (.iconst 4, 1) := by decide +kernel
theorem dX5_takeNewName_67 : decode cX5_takeNewName 67 = .ok (.iload_n 2, 1) := by decide +kernel
theorem dX5_takeNewName_68 : decode cX5_takeNewName 68 = .ok (.invokevirtual 154, 3) := by decide +kernel
theorem dX5_takeNewName_71 : decode cX5_takeNewName 71 = .ok (.iconst (-1), 1) := by decide +kernel
theorem dX5_takeNewName_72 : decode cX5_takeNewName 72 = .ok (.ireturn, 1) := by decide +kernel
theorem dX5_takeNewName_73 : decode cX5_takeNewName 73 = .ok (.aload_n 1, 1) := by decide +kernel
theorem dX5_takeNewName_74 : decode cX5_takeNewName 74 = .ok (.iload_n 3, 1) := by decide +kernel
theorem dX5_takeNewName_75 : decode cX5_takeNewName 75 = .ok (.invokevirtual 238, 3) := by decide +kernel
theorem dX5_takeNewName_78 : decode cX5_takeNewName 78 = .ok (.ireturn, 1) := by decide +kernel
theorem dX5_takeName_0 : decode cX5_takeName 0 = .ok (.aload_n 0, 1) := by decide +kernel
theorem dX5_takeName_1 : decode cX5_takeName 1 = .ok (.invokevirtual 63, 3) := by decide +kernel
theorem dX5_takeName_4 : decode cX5_takeName 4 = .ok (.bipush 47, 2) := by decide +kernel
theorem dX5_takeName_6 : decode cX5_takeName 6 = .ok (.if_icmp .eq 9, 3) := by decide +kernel
theorem dX5_takeName_9 : decode cX5_takeName 9 = .ok (.aload_n 0, 1) := by decide +kernel
theorem dX5_takeName_10 : decode cX5_takeName 10 = .ok (.invokevirtual 84, 3) := by decide +kernel
theorem dX5_takeName_13 : decode cX5_takeName 13 = .ok (.iconst (-1), 1) := by decide +kernel
theorem dX5_takeName_14 : decode cX5_takeName 14 = .ok (.ireturn, 1) := by decide +kernel
theorem dX5_takeName_15 : decode cX5_takeName 15 = .ok (.aload_n 0, 1) := by decide +kernel
theorem dX5_takeName_16 : decode cX5_takeName 16 = .ok (.getfield 38, 3) := by decide +kernel
theorem dX5_takeName_19 : decode cX5_takeName 19 = .ok (.istore_n 2, 1) := by decide +kernel
theorem dX5_takeName_20 : decode cX5_takeName 20 = .ok (.aload_n 0, 1) := by decide +kernel
theorem dX5_takeName_21 : decode cX5_takeName 21 = .ok (.dup, 1) := by decide +kernel
theorem dX5_takeName_22 : decode cX5_takeName 22 = .ok (.getfield 38, 3) := by decide +kernel
theorem dX5_takeName_25 : decode cX5_takeName 25 = .ok (.iconst 1, 1) := by decide +kernel
theorem dX5_takeName_26 : decode cX5_takeName 26 = .ok (.iadd, 1) := by decide +kernel
theorem dX5_takeName_27 : decode cX5_takeName 27 = .ok (.putfield 38, 3) := by decide +kernel
theorem dX5_takeName_30 : decode cX5_takeName 30 = .ok (.aload_n 1, 1) := by decide +kernel
theorem dX5_takeName_31 : decode cX5_takeName 31 = .ok (.aload_n 0, 1) := by decide +kernel
theorem dX5_takeName_32 : decode cX5_takeName 32 = .ok (.getfield 7, 3) := by decide +kernel
theorem dX5_takeName_35 : decode cX5_takeName 35 = .ok (.getfield 229, 3) := by decide +kernel
theorem dX5_takeName_38 : decode cX5_takeName 38 = .ok (.iload_n 2, 1) := by decide +kernel
theorem dX5_takeName_39 : decode cX5_takeName 39 = .ok (.invokevirtual 54, 3) := by decide +kernel
theorem dX5_takeName_42 : decode cX5_takeName 42 = .ok (.invokevirtual 231, 3) := by decide +kernel
theorem dX5_takeName_45 : decode cX5_takeName 45 = .ok (.istore_n 3, 1) := by decide +kernel
theorem dX5_takeName_46 : decode cX5_takeName 46 = .ok (.iload_n 3, 1) := by decide +kernel
theorem dX5_takeName_47 : decode cX5_takeName 47 = .ok (.ifCond .ge 9, 3) := by decide +kernel
theorem dX5_takeName_50 : decode cX5_takeName 50 = .ok (.aload_n 0, 1) := by decide +kernel
theorem dX5_takeName_51 : decode cX5_takeName 51 = .ok (.iconst 3, 1) := by decide +kernel
theorem dX5_takeName_52 : decode cX5_takeName 52 = .ok (.iload_n 2, 1) := by decide +kernel
theorem dX5_takeName_53 : decode cX5_takeName 53 = .ok (.invokevirtual 154, 3) := by decide +kernel
theorem dX5_takeName_56 : decode cX5_takeName 56 = .ok (.iload_n 3, 1) := by decide +kernel
theorem dX5_takeName_57 : decode cX5_takeName 57 = .ok (.ireturn, 1) := by decide +kernel
theorem dX5_takeNumber_0 : decode cX5_takeNumber 0 = .ok (.aload_n 0, 1) := by decide +kernel
theorem dX5_takeNumber_1 : decode cX5_takeNumber 1 = .ok (.invokevirtual 63, 3) := by decide +kernel
theorem dX5_takeNumber_4 : decode cX5_takeNumber 4 = .ok (.bipush 48, 2) := by decide +kernel
theorem dX5_takeNumber_6 : decode cX5_takeNumber 6 = .ok (.if_icmp .eq 9, 3) := by decide +kernel
theorem dX5_takeNumber_9 : decode cX5_takeNumber 9 = .ok (.aload_n 0, 1) := by decide +kernel
theorem dX5_takeNumber_10 : decode cX5_takeNumber 10 = .ok (.invokevirtual 84, 3) := by decide +kernel
theorem dX5_takeNumber_13 : decode cX5_takeNumber 13 = .ok (.iconst 0, 1) := by decide +kernel
theorem dX5_takeNumber_14 : decode cX5_takeNumber 14 = .ok (.ireturn, 1) := by decide +kernel
theorem dX5_takeNumber_15 : decode cX5_takeNumber 15 = .ok (.aload_n 0, 1) := by decide +kernel
theorem dX5_takeNumber_16 : decode cX5_takeNumber 16 = .ok (.getfield 38, 3) := by decide +kernel
theorem dX5_takeNumber_19 : decode cX5_takeNumber 19 = .ok (.istore_n 3, 1) := by decide +kernel
theorem dX5_takeNumber_20 : decode cX5_takeNumber 20 = .ok (.aload_n 0, 1) := by decide +kernel
theorem dX5_takeNumber_21 : decode cX5_takeNumber 21 = .ok (.dup, 1) := by decide +kernel
theorem dX5_takeNumber_22 : decode cX5_takeNumber 22 = .ok (.getfield 38, 3) := by decide +kernel
theorem dX5_takeNumber_25 : decode cX5_takeNumber 25 = .ok (.iconst 1, 1) := by decide +kernel
theorem dX5_takeNumber_26 : decode cX5_takeNumber 26 = .ok (.iadd, 1) := by decide +kernel
theorem dX5_takeNumber_27 : decode cX5_takeNumber 27 = .ok (.putfield 38, 3) := by decide +kernel
theorem dX5_takeNumber_30 : decode cX5_takeNumber 30 = .ok (.aload_n 0, 1) := by decide +kernel
theorem dX5_takeNumber_31 : decode cX5_takeNumber 31 = .ok (.getfield 7, 3) := by decide +kernel
theorem dX5_takeNumber_34 : decode cX5_takeNumber 34 = .ok (.getfield 229, 3) := by decide +kernel
theorem dX5_takeNumber_37 : decode cX5_takeNumber 37 = .ok (.iload_n 3, 1) := by decide +kernel
theorem dX5_takeNumber_38 : decode cX5_takeNumber 38 = .ok (.invokevirtual 54, 3) := by decide +kernel
theorem dX5_takeNumber_41 : decode cX5_takeNumber 41 = .ok (.istore 4, 2) := by decide +kernel
theorem dX5_takeNumber_43 : decode cX5_takeNumber 43 = .ok (.iload 4, 2) := by decide +kernel
theorem dX5_takeNumber_45 : decode cX5_takeNumber 45 = .ok (.iload_n 1, 1) := by decide +kernel
theorem dX5_takeNumber_46 : decode cX5_takeNumber 46 = .ok (.if_icmp .lt 9, 3) := by decide +kernel
theorem dX5_takeNumber_49 : decode cX5_takeNumber 49 = .ok (.iload 4, 2) := by decide +kernel
theorem dX5_takeNumber_51 : decode cX5_takeNumber 51 = .ok (.iload_n 2, 1) := by decide +kernel
theorem dX5_takeNumber_52 : decode cX5_takeNumber 52 = .ok (.if_icmp .le 9, 3) := by decide +kernel
theorem dX5_takeNumber_55 : decode cX5_takeNumber 55 = .ok (.aload_n 0, 1) := by decide +kernel
theorem dX5_takeNumber_56 : decode cX5_takeNumber 56 = .ok (.iconst 5, 1) := by decide +kernel
theorem dX5_takeNumber_57 : decode cX5_takeNumber 57 = .ok (.iload_n 3, 1) := by decide +kernel
theorem dX5_takeNumber_58 : decode cX5_takeNumber 58 = .ok (.invokevirtual 154, 3) := by decide +kernel
theorem dX5_takeNumber_61 : decode cX5_takeNumber 61 = .ok (.iload 4, 2) := by decide +kernel
theorem dX5_takeNumber_63 : decode cX5_takeNumber 63 = .ok (.ireturn, 1) := by decide +kernel
theorem dX5_blame_0 : decode cX5_blame 0 = .ok (.aload_n 0, 1) := by decide +kernel
theorem dX5_blame_1 : decode cX5_blame 1 = .ok (.getfield 42, 3) := by decide +kernel
theorem dX5_blame_4 : decode cX5_blame 4 = .ok (.ifCond .ne 13, 3) := by decide +kernel
theorem dX5_blame_7 : decode cX5_blame 7 = .ok (.aload_n 0, 1) := by decide +kernel
theorem dX5_blame_8 : decode cX5_blame 8 = .ok (.iload_n 1, 1) := by decide +kernel
theorem dX5_blame_9 : decode cX5_blame 9 = .ok (.putfield 42, 3) := by decide +kernel
theorem dX5_blame_12 : decode cX5_blame 12 = .ok (.aload_n 0, 1) := by decide +kernel
theorem dX5_blame_13 : decode cX5_blame 13 = .ok (.iload_n 2, 1) := by decide +kernel
theorem dX5_blame_14 : decode cX5_blame 14 = .ok (.putfield 45, 3) := by decide +kernel
theorem dX5_blame_17 : decode cX5_blame 17 = .ok (.return_, 1) := by decide +kernel
theorem dX5_fail_0 : decode cX5_fail 0 = .ok (.aload_n 0, 1) := by decide +kernel
theorem dX5_fail_1 : decode cX5_fail 1 = .ok (.getfield 42, 3) := by decide +kernel
theorem dX5_fail_4 : decode cX5_fail 4 = .ok (.iconst 1, 1) := by decide +kernel
theorem dX5_fail_5 : decode cX5_fail 5 = .ok (.if_icmp .eq 16, 3) := by decide +kernel
theorem dX5_fail_8 : decode cX5_fail 8 = .ok (.aload_n 0, 1) := by decide +kernel
theorem dX5_fail_9 : decode cX5_fail 9 = .ok (.iconst 1, 1) := by decide +kernel
theorem dX5_fail_10 : decode cX5_fail 10 = .ok (.putfield 42, 3) := by decide +kernel
theorem dX5_fail_13 : decode cX5_fail 13 = .ok (.aload_n 0, 1) := by decide +kernel
theorem dX5_fail_14 : decode cX5_fail 14 = .ok (.aload_n 0, 1) := by decide +kernel
theorem dX5_fail_15 : decode cX5_fail 15 = .ok (.getfield 38, 3) := by decide +kernel
theorem dX5_fail_18 : decode cX5_fail 18 = .ok (.putfield 45, 3) := by decide +kernel
theorem dX5_fail_21 : decode cX5_fail 21 = .ok (.return_, 1) := by decide +kernel
theorem dX6_init_0 : decode cX6_init 0 = .ok (.aload_n 0, 1) := by decide +kernel
theorem dX6_init_1 : decode cX6_init 1 = .ok (.invokespecial 1, 3) := by decide +kernel
theorem dX6_init_4 : decode cX6_init 4 = .ok (.aload_n 0, 1) := by decide +kernel
theorem dX6_init_5 : decode cX6_init 5 = .ok (.aload_n 1, 1) := by decide +kernel
theorem dX6_init_6 : decode cX6_init 6 = .ok (.putfield 7, 3) := by decide +kernel
theorem dX6_init_9 : decode cX6_init 9 = .ok (.aload_n 0, 1) := by decide +kernel
theorem dX6_init_10 : decode cX6_init 10 = .ok (.aload_n 2, 1) := by decide +kernel
theorem dX6_init_11 : decode cX6_init 11 = .ok (.putfield 13, 3) := by decide +kernel
theorem dX6_init_14 : decode cX6_init 14 = .ok (.aload_n 0, 1) := by decide +kernel
theorem dX6_init_15 : decode cX6_init 15 = .ok (.new 17, 3) := by decide +kernel
theorem dX6_init_18 : decode cX6_init 18 = .ok (.dup, 1) := by decide +kernel
theorem dX6_init_19 : decode cX6_init 19 = .ok (.sipush 400, 3) := by decide +kernel
theorem dX6_init_22 : decode cX6_init 22 = .ok (.invokespecial 21, 3) := by decide +kernel
theorem dX6_init_25 : decode cX6_init 25 = .ok (.putfield 24, 3) := by decide +kernel
theorem dX6_init_28 : decode cX6_init 28 = .ok (.aload_n 0, 1) := by decide +kernel
theorem dX6_init_29 : decode cX6_init 29 = .ok (.iconst 0, 1) := by decide +kernel
theorem dX6_init_30 : decode cX6_init 30 = .ok (.putfield 28, 3) := by decide +kernel
theorem dX6_init_33 : decode cX6_init 33 = .ok (.return_, 1) := by decide +kernel
theorem dX6_reckon_0 : decode cX6_reckon 0 = .ok (.aload_n 0, 1) := by decide +kernel
theorem dX6_reckon_1 : decode cX6_reckon 1 = .ok (.iconst 0, 1) := by decide +kernel
theorem dX6_reckon_2 : decode cX6_reckon 2 = .ok (.putfield 28, 3) := by decide +kernel
theorem dX6_reckon_5 : decode cX6_reckon 5 = .ok (.iload_n 1, 1) := by decide +kernel
theorem dX6_reckon_6 : decode cX6_reckon 6 = .ok (.istore_n 3, 1) := by decide +kernel
theorem dX6_reckon_7 : decode cX6_reckon 7 = .ok (.iload_n 3, 1) := by decide +kernel
theorem dX6_reckon_8 : decode cX6_reckon 8 = .ok (.iload_n 2, 1) := by decide +kernel
theorem dX6_reckon_9 : decode cX6_reckon 9 = .ok (.if_icmp .ge 210, 3) := by decide +kernel
theorem dX6_reckon_12 : decode cX6_reckon 12 = .ok (.aload_n 0, 1) := by decide +kernel
theorem dX6_reckon_13 : decode cX6_reckon 13 = .ok (.getfield 7, 3) := by decide +kernel
theorem dX6_reckon_16 : decode cX6_reckon 16 = .ok (.getfield 32, 3) := by decide +kernel
theorem dX6_reckon_19 : decode cX6_reckon 19 = .ok (.iload_n 3, 1) := by decide +kernel
theorem dX6_reckon_20 : decode cX6_reckon 20 = .ok (.invokevirtual 35, 3) := by decide +kernel
theorem dX6_reckon_23 : decode cX6_reckon 23 = .ok (.istore 4, 2) := by decide +kernel
theorem dX6_reckon_25 : decode cX6_reckon 25 = .ok (.iload 4, 2) := by decide +kernel
theorem dX6_reckon_27 : decode cX6_reckon 27 = .ok (.bipush 51, 2) := by decide +kernel
theorem dX6_reckon_29 : decode cX6_reckon 29 = .ok (.if_icmp .ne 15, 3) := by decide +kernel
theorem dX6_reckon_32 : decode cX6_reckon 32 = .ok (.aload_n 0, 1) := by decide +kernel
theorem dX6_reckon_33 : decode cX6_reckon 33 = .ok (.aload_n 0, 1) := by decide +kernel
theorem dX6_reckon_34 : decode cX6_reckon 34 = .ok (.invokevirtual 41, 3) := by decide +kernel
theorem dX6_reckon_37 : decode cX6_reckon 37 = .ok (.ineg, 1) := by decide +kernel
theorem dX6_reckon_38 : decode cX6_reckon 38 = .ok (.invokevirtual 45, 3) := by decide +kernel
theorem dX6_reckon_41 : decode cX6_reckon 41 = .ok (.goto 172, 3) := by decide +kernel
theorem dX6_reckon_44 : decode cX6_reckon 44 = .ok (.iload 4, 2) := by decide +kernel
theorem dX6_reckon_46 : decode cX6_reckon 46 = .ok (.bipush 27, 2) := by decide +kernel
theorem dX6_reckon_48 : decode cX6_reckon 48 = .ok (.if_icmp .ne 16, 3) := by decide +kernel
theorem dX6_reckon_51 : decode cX6_reckon 51 = .ok (.aload_n 0, 1) := by decide +kernel
theorem dX6_reckon_52 : decode cX6_reckon 52 = .ok (.iconst 1, 1) := by decide +kernel
theorem dX6_reckon_53 : decode cX6_reckon 53 = .ok (.aload_n 0, 1) := by decide +kernel
theorem dX6_reckon_54 : decode cX6_reckon 54 = .ok (.invokevirtual 41, 3) := by decide +kernel
theorem dX6_reckon_57 : decode cX6_reckon 57 = .ok (.isub, 1) := by decide +kernel
theorem dX6_reckon_58 : decode cX6_reckon 58 = .ok (.invokevirtual 45, 3) := by decide +kernel
theorem dX6_reckon_61 : decode cX6_reckon 61 = .ok (.goto 152, 3) := by decide +kernel
theorem dX6_reckon_64 : decode cX6_reckon 64 = .ok (.iload 4, 2) := by decide +kernel
theorem dX6_reckon_66 : decode cX6_reckon 66 = .ok (.invokestatic 48, 3) := by decide +kernel
theorem dX6_reckon_69 : decode cX6_reckon 69 = .ok (.ifCond .eq 27, 3) := by decide +kernel
theorem dX6_reckon_72 : decode cX6_reckon 72 = .ok (.aload_n 0, 1) := by decide +kernel
theorem dX6_reckon_73 : decode cX6_reckon 73 = .ok (.invokevirtual 41, 3) := by decide +kernel
theorem dX6_reckon_76 : decode cX6_reckon 76 = .ok (.istore 5, 2) := by decide +kernel
theorem dX6_reckon_78 : decode cX6_reckon 78 = .ok (.aload_n 0, 1) := by decide +kernel
theorem dX6_reckon_79 : decode cX6_reckon 79 = .ok (.iload 4, 2) := by decide +kernel
theorem dX6_reckon_81 : decode cX6_reckon 81 = .ok (.aload_n 0, 1) := by decide +kernel
theorem dX6_reckon_82 : decode cX6_reckon 82 = .ok (.invokevirtual 41, 3) := by decide +kernel
theorem dX6_reckon_85 : decode cX6_reckon 85 = .ok (.iload 5, 2) := by decide +kernel
theorem dX6_reckon_87 : decode cX6_reckon 87 = .ok (.invokestatic 52, 3) := by decide +kernel
theorem dX6_reckon_90 : decode cX6_reckon 90 = .ok (.invokevirtual 45, 3) := by decide +kernel
theorem dX6_reckon_93 : decode cX6_reckon 93 = .ok (.goto 120, 3) := by decide +kernel
theorem dX6_reckon_96 : decode cX6_reckon 96 = .ok (.iload 4, 2) := by decide +kernel
theorem dX6_reckon_98 : decode cX6_reckon 98 = .ok (.invokestatic 56, 3) := by decide +kernel
theorem dX6_reckon_101 : decode cX6_reckon 101 = .ok (.ifCond .eq 35, 3) := by decide +kernel
theorem dX6_reckon_104 : decode cX6_reckon 104 = .ok (.aload_n 0, 1) := by decide +kernel
theorem dX6_reckon_105 : decode cX6_reckon 105 = .ok (.invokevirtual 41, 3) := by decide +kernel
theorem dX6_reckon_108 : decode cX6_reckon 108 = .ok (.istore 5, 2) := by decide +kernel
theorem dX6_reckon_110 : decode cX6_reckon 110 = .ok (.aload_n 0, 1) := by decide +kernel
theorem dX6_reckon_111 : decode cX6_reckon 111 = .ok (.iload 4, 2) := by decide +kernel
theorem dX6_reckon_113 : decode cX6_reckon 113 = .ok (.aload_n 0, 1) := by decide +kernel
theorem dX6_reckon_114 : decode cX6_reckon 114 = .ok (.invokevirtual 41, 3) := by decide +kernel
theorem dX6_reckon_117 : decode cX6_reckon 117 = .ok (.iload 5, 2) := by decide +kernel
theorem dX6_reckon_119 : decode cX6_reckon 119 = .ok (.invokestatic 59, 3) := by decide +kernel
theorem dX6_reckon_122 : decode cX6_reckon 122 = .ok (.ifCond .eq 7, 3) := by decide +kernel
theorem dX6_reckon_125 : decode cX6_reckon 125 = .ok (.iconst 1, 1) := by decide +kernel
theorem dX6_reckon_126 : decode cX6_reckon 126 = .ok (.goto 4, 3) := by decide +kernel
theorem dX6_reckon_129 : decode cX6_reckon 129 = .ok (.iconst 0, 1) := by decide +kernel
theorem dX6_reckon_130 : decode cX6_reckon 130 = .ok (.invokevirtual 45, 3) := by decide +kernel
theorem dX6_reckon_133 : decode cX6_reckon 133 = .ok (.goto 80, 3) := by decide +kernel
theorem dX6_reckon_136 : decode cX6_reckon 136 = .ok (.iload 4, 2) := by decide +kernel
theorem dX6_reckon_138 : decode cX6_reckon 138 = .ok (.invokestatic 63, 3) := by decide +kernel
theorem dX6_reckon_141 : decode cX6_reckon 141 = .ok (.ifCond .eq 40, 3) := by decide +kernel
theorem dX6_reckon_144 : decode cX6_reckon 144 = .ok (.aload_n 0, 1) := by decide +kernel
theorem dX6_reckon_145 : decode cX6_reckon 145 = .ok (.invokevirtual 41, 3) := by decide +kernel
theorem dX6_reckon_148 : decode cX6_reckon 148 = .ok (.istore 5, 2) := by decide +kernel
theorem dX6_reckon_150 : decode cX6_reckon 150 = .ok (.aload_n 0, 1) := by decide +kernel
theorem dX6_reckon_151 : decode cX6_reckon 151 = .ok (.iload 4, 2) := by decide +kernel
theorem dX6_reckon_153 : decode cX6_reckon 153 = .ok (.bipush 28, 2) := by decide +kernel
theorem dX6_reckon_155 : decode cX6_reckon 155 = .ok (.if_icmp .ne 13, 3) := by decide +kernel
theorem dX6_reckon_158 : decode cX6_reckon 158 = .ok (.aload_n 0, 1) := by decide +kernel
theorem dX6_reckon_159 : decode cX6_reckon 159 = .ok (.invokevirtual 41, 3) := by decide +kernel
theorem dX6_reckon_162 : decode cX6_reckon 162 = .ok (.iload 5, 2) := by decide +kernel
theorem dX6_reckon_164 : decode cX6_reckon 164 = .ok (.iand, 1) := by decide +kernel
theorem dX6_reckon_165 : decode cX6_reckon 165 = .ok (.goto 10, 3) := by decide +kernel
theorem dX6_reckon_168 : decode cX6_reckon 168 = .ok (.aload_n 0, 1) := by decide +kernel
theorem dX6_reckon_169 : decode cX6_reckon 169 = .ok (.invokevirtual 41, 3) := by decide +kernel
theorem dX6_reckon_172 : decode cX6_reckon 172 = .ok (.iload 5, 2) := by decide +kernel
theorem dX6_reckon_174 : decode cX6_reckon 174 = .ok (.ior, 1) := by decide +kernel
theorem dX6_reckon_175 : decode cX6_reckon 175 = .ok (.invokevirtual 45, 3) := by decide +kernel
theorem dX6_reckon_178 : decode cX6_reckon 178 = .ok (.goto 35, 3) := by decide +kernel
theorem dX6_reckon_181 : decode cX6_reckon 181 = .ok (.aload_n 0, 1) := by decide +kernel
theorem dX6_reckon_182 : decode cX6_reckon 182 = .ok (.aload_n 0, 1) := by decide +kernel
theorem dX6_reckon_183 : decode cX6_reckon 183 = .ok (.iload 4, 2) := by decide +kernel
theorem dX6_reckon_185 : decode cX6_reckon 185 = .ok (.aload_n 0, 1) := by decide +kernel
theorem dX6_reckon_186 : decode cX6_reckon 186 = .ok (.getfield 7, 3) := by decide +kernel
theorem dX6_reckon_189 : decode cX6_reckon 189 = .ok (.getfield 66, 3) := by decide +kernel
theorem dX6_reckon_192 : decode cX6_reckon 192 = .ok (.iload_n 3, 1) := by decide +kernel
theorem dX6_reckon_193 : decode cX6_reckon 193 = .ok (.invokevirtual 35, 3) := by decide +kernel
theorem dX6_reckon_196 : decode cX6_reckon 196 = .ok (.aload_n 0, 1) := by decide +kernel
theorem dX6_reckon_197 : decode cX6_reckon 197 = .ok (.getfield 7, 3) := by decide +kernel
theorem dX6_reckon_200 : decode cX6_reckon 200 = .ok (.getfield 69, 3) := by decide +kernel
theorem dX6_reckon_203 : decode cX6_reckon 203 = .ok (.iload_n 3, 1) := by decide +kernel
theorem dX6_reckon_204 : decode cX6_reckon 204 = .ok (.invokevirtual 35, 3) := by decide +kernel
theorem dX6_reckon_207 : decode cX6_reckon 207 = .ok (.invokevirtual 72, 3) := by decide +kernel
theorem dX6_reckon_210 : decode cX6_reckon 210 = .ok (.invokevirtual 45, 3) := by decide +kernel
theorem dX6_reckon_213 : decode cX6_reckon 213 = .ok (.iinc 3 1, 3) := by decide +kernel
theorem dX6_reckon_216 : decode cX6_reckon 216 = .ok (.goto (-209), 3) := by decide +kernel
theorem dX6_reckon_219 : decode cX6_reckon 219 = .ok (.aload_n 0, 1) := by decide +kernel
theorem dX6_reckon_220 : decode cX6_reckon 220 = .ok (.invokevirtual 41, 3) := by decide +kernel
theorem dX6_reckon_223 : decode cX6_reckon 223 = .ok (.ireturn, 1) := by decide +kernel
theorem dX6_put_0 : decode cX6_put 0 = .ok (.aload_n 0, 1) := by decide +kernel
theorem dX6_put_1 : decode cX6_put 1 = .ok (.getfield 24, 3) := by decide +kernel
theorem dX6_put_4 : decode cX6_put 4 = .ok (.aload_n 0, 1) := by decide +kernel
theorem dX6_put_5 : decode cX6_put 5 = .ok (.getfield 28, 3) := by decide +kernel
theorem dX6_put_8 : decode cX6_put 8 = .ok (.iload_n 1, 1) := by decide +kernel
theorem dX6_put_9 : decode cX6_put 9 = .ok (.invokevirtual 75, 3) := by decide +kernel
theorem dX6_put_12 : decode cX6_put 12 = .ok (.aload_n 0, 1) := by decide +kernel
theorem dX6_put_13 : decode cX6_put 13 = .ok (.dup, 1) := by decide +kernel
theorem dX6_put_14 : decode cX6_put 14 = .ok (.getfield 28, 3) := by decide +kernel
theorem dX6_put_17 : decode cX6_put 17 = .ok (.iconst 1, 1) := by decide +kernel
theorem dX6_put_18 : decode cX6_put 18 = .ok (.iadd, 1) := by decide +kernel
theorem dX6_put_19 : decode cX6_put 19 = .ok (.putfield 28, 3) := by decide +kernel
theorem dX6_put_22 : decode cX6_put 22 = .ok (.return_, 1) := by decide +kernel
theorem dX6_take_0 : decode cX6_take 0 = .ok (.aload_n 0, 1) := by decide +kernel
theorem dX6_take_1 : decode cX6_take 1 = .ok (.dup, 1) := by decide +kernel
theorem dX6_take_2 : decode cX6_take 2 = .ok (.getfield 28, 3) := by decide +kernel
theorem dX6_take_5 : decode cX6_take 5 = .ok (.iconst 1, 1) := by decide +kernel
theorem dX6_take_6 : decode cX6_take 6 = .ok (.isub, 1) := by decide +kernel
theorem dX6_take_7 : decode cX6_take 7 = .ok (.putfield 28, 3) := by decide +kernel
theorem dX6_take_10 : decode cX6_take 10 = .ok (.aload_n 0, 1) := by decide +kernel
theorem dX6_take_11 : decode cX6_take 11 = .ok (.getfield 24, 3) := by decide +kernel
theorem dX6_take_14 : decode cX6_take 14 = .ok (.aload_n 0, 1) := by decide +kernel
theorem dX6_take_15 : decode cX6_take 15 = .ok (.getfield 28, 3) := by decide +kernel
theorem dX6_take_18 : decode cX6_take 18 = .ok (.invokevirtual 35, 3) := by decide +kernel
theorem dX6_take_21 : decode cX6_take 21 = .ok (.ireturn, 1) := by decide +kernel
theorem dX6_value_0 : decode cX6_value 0 = .ok (.iload_n 1, 1) := by decide +kernel
theorem dX6_value_1 : decode cX6_value 1 = .ok (.tableswitch 206 6 26 #[148, 206, 206, 206, 206, 206, 206, 206, 206, 206, 206, 206, 206, 99, 107, 115, 127, 139, 160, 172, 185], 99) := by decide +kernel
theorem dX6_value_100 : decode cX6_value 100 = .ok (.aload_n 0, 1) := by decide +kernel
theorem dX6_value_101 : decode cX6_value 101 = .ok (.getfield 13, 3) := by decide +kernel
theorem dX6_value_104 : decode cX6_value 104 = .ok (.getfield 79, 3) := by decide +kernel
theorem dX6_value_107 : decode cX6_value 107 = .ok (.ireturn, 1) := by decide +kernel
theorem dX6_value_108 : decode cX6_value 108 = .ok (.aload_n 0, 1) := by decide +kernel
theorem dX6_value_109 : decode cX6_value 109 = .ok (.getfield 13, 3) := by decide +kernel
theorem dX6_value_112 : decode cX6_value 112 = .ok (.getfield 84, 3) := by decide +kernel
theorem dX6_value_115 : decode cX6_value 115 = .ok (.ireturn, 1) := by decide +kernel
theorem dX6_value_116 : decode cX6_value 116 = .ok (.aload_n 0, 1) := by decide +kernel
theorem dX6_value_117 : decode cX6_value 117 = .ok (.getfield 13, 3) := by decide +kernel
theorem dX6_value_120 : decode cX6_value 120 = .ok (.getfield 87, 3) := by decide +kernel
theorem dX6_value_123 : decode cX6_value 123 = .ok (.iload_n 2, 1) := by decide +kernel
theorem dX6_value_124 : decode cX6_value 124 = .ok (.invokevirtual 35, 3) := by decide +kernel
theorem dX6_value_127 : decode cX6_value 127 = .ok (.ireturn, 1) := by decide +kernel
theorem dX6_value_128 : decode cX6_value 128 = .ok (.aload_n 0, 1) := by decide +kernel
theorem dX6_value_129 : decode cX6_value 129 = .ok (.getfield 13, 3) := by decide +kernel
theorem dX6_value_132 : decode cX6_value 132 = .ok (.getfield 90, 3) := by decide +kernel
theorem dX6_value_135 : decode cX6_value 135 = .ok (.iload_n 2, 1) := by decide +kernel
theorem dX6_value_136 : decode cX6_value 136 = .ok (.invokevirtual 35, 3) := by decide +kernel
theorem dX6_value_139 : decode cX6_value 139 = .ok (.ireturn, 1) := by decide +kernel
theorem dX6_value_140 : decode cX6_value 140 = .ok (.aload_n 0, 1) := by decide +kernel
theorem dX6_value_141 : decode cX6_value 141 = .ok (.getfield 13, 3) := by decide +kernel
theorem dX6_value_144 : decode cX6_value 144 = .ok (.iload_n 2, 1) := by decide +kernel
theorem dX6_value_145 : decode cX6_value 145 = .ok (.invokevirtual 93, 3) := by decide +kernel
theorem dX6_value_148 : decode cX6_value 148 = .ok (.ireturn, 1) := by decide +kernel
theorem dX6_value_149 : decode cX6_value 149 = .ok (.aload_n 0, 1) := by decide +kernel
theorem dX6_value_150 : decode cX6_value 150 = .ok (.getfield 13, 3) := by decide +kernel
theorem dX6_value_153 : decode cX6_value 153 = .ok (.getfield 96, 3) := by decide +kernel
theorem dX6_value_156 : decode cX6_value 156 = .ok (.iload_n 2, 1) := by decide +kernel
theorem dX6_value_157 : decode cX6_value 157 = .ok (.invokevirtual 35, 3) := by decide +kernel
theorem dX6_value_160 : decode cX6_value 160 = .ok (.ireturn, 1) := by decide +kernel
theorem dX6_value_161 : decode cX6_value 161 = .ok (.aload_n 0, 1) := by decide +kernel
theorem dX6_value_162 : decode cX6_value 162 = .ok (.getfield 13, 3) := by decide +kernel
theorem dX6_value_165 : decode cX6_value 165 = .ok (.getfield 99, 3) := by decide +kernel
theorem dX6_value_168 : decode cX6_value 168 = .ok (.iload_n 2, 1) := by decide +kernel
theorem dX6_value_169 : decode cX6_value 169 = .ok (.invokevirtual 103, 3) := by decide +kernel
theorem dX6_value_172 : decode cX6_value 172 = .ok (.ireturn, 1) := by decide +kernel
theorem dX6_value_173 : decode cX6_value 173 = .ok (.aload_n 0, 1) := by decide +kernel
theorem dX6_value_174 : decode cX6_value 174 = .ok (.getfield 13, 3) := by decide +kernel
theorem dX6_value_177 : decode cX6_value 177 = .ok (.getfield 99, 3) := by decide +kernel
theorem dX6_value_180 : decode cX6_value 180 = .ok (.iload_n 2, 1) := by decide +kernel
theorem dX6_value_181 : decode cX6_value 181 = .ok (.iload_n 3, 1) := by decide +kernel
theorem dX6_value_182 : decode cX6_value 182 = .ok (.invokevirtual 108, 3) := by decide +kernel
theorem dX6_value_185 : decode cX6_value 185 = .ok (.ireturn, 1) := by decide +kernel
theorem dX6_value_186 : decode cX6_value 186 = .ok (.aload_n 0, 1) := by decide +kernel
theorem dX6_value_187 : decode cX6_value 187 = .ok (.getfield 13, 3) := by decide +kernel
theorem dX6_value_190 : decode cX6_value 190 = .ok (.getfield 112, 3) := by decide +kernel
theorem dX6_value_193 : decode cX6_value 193 = .ok (.iload_n 3, 1) := by decide +kernel
theorem dX6_value_194 : decode cX6_value 194 = .ok (.invokevirtual 35, 3) := by decide +kernel
theorem dX6_value_197 : decode cX6_value 197 = .ok (.iload_n 2, 1) := by decide +kernel
theorem dX6_value_198 : decode cX6_value 198 = .ok (.if_icmp .ne 7, 3) := by decide +kernel
theorem dX6_value_201 : decode cX6_value 201 = .ok (.iconst 1, 1) := by decide +kernel
theorem dX6_value_202 : decode cX6_value 202 = .ok (.goto 4, 3) := by decide +kernel
theorem dX6_value_205 : decode cX6_value 205 = .ok (.iconst 0, 1) := by decide +kernel
theorem dX6_value_206 : decode cX6_value 206 = .ok (.ireturn, 1) := by decide +kernel
theorem dX6_value_207 : decode cX6_value 207 = .ok (.iload_n 2, 1) := by decide +kernel
theorem dX6_value_208 : decode cX6_value 208 = .ok (.ireturn, 1) := by decide +kernel
theorem dX6_joined_0 : decode cX6_joined 0 = .ok (.iload_n 0, 1) := by decide +kernel
theorem dX6_joined_1 : decode cX6_joined 1 = .ok (.tableswitch 93 30 41 #[87, 93, 93, 93, 93, 93, 93, 93, 63, 67, 71, 75], 63) := by decide +kernel
theorem dX6_joined_64 : decode cX6_joined 64 = .ok (.iload_n 1, 1) := by decide +kernel
theorem dX6_joined_65 : decode cX6_joined 65 = .ok (.iload_n 2, 1) := by decide +kernel
theorem dX6_joined_66 : decode cX6_joined 66 = .ok (.iadd, 1) := by decide +kernel
theorem dX6_joined_67 : decode cX6_joined 67 = .ok (.ireturn, 1) := by decide +kernel
theorem dX6_joined_68 : decode cX6_joined 68 = .ok (.iload_n 1, 1) := by decide +kernel
theorem dX6_joined_69 : decode cX6_joined 69 = .ok (.iload_n 2, 1) := by decide +kernel
theorem dX6_joined_70 : decode cX6_joined 70 = .ok (.isub, 1) := by decide +kernel
theorem dX6_joined_71 : decode cX6_joined 71 = .ok (.ireturn, 1) := by decide +kernel
theorem dX6_joined_72 : decode cX6_joined 72 = .ok (.iload_n 1, 1) := by decide +kernel
theorem dX6_joined_73 : decode cX6_joined 73 = .ok (.iload_n 2, 1) := by decide +kernel
theorem dX6_joined_74 : decode cX6_joined 74 = .ok (.imul, 1) := by decide +kernel
theorem dX6_joined_75 : decode cX6_joined 75 = .ok (.ireturn, 1) := by decide +kernel
theorem dX6_joined_76 : decode cX6_joined 76 = .ok (.iload_n 2, 1) := by decide +kernel
theorem dX6_joined_77 : decode cX6_joined 77 = .ok (.ifCond .ne 7, 3) := by decide +kernel
theorem dX6_joined_80 : decode cX6_joined 80 = .ok (.iconst 0, 1) := by decide +kernel
theorem dX6_joined_81 : decode cX6_joined 81 = .ok (.goto 6, 3) := by decide +kernel
theorem dX6_joined_84 : decode cX6_joined 84 = .ok (.iload_n 1, 1) := by decide +kernel
theorem dX6_joined_85 : decode cX6_joined 85 = .ok (.iload_n 2, 1) := by decide +kernel
theorem dX6_joined_86 : decode cX6_joined 86 = .ok (.idiv, 1) := by decide +kernel
theorem dX6_joined_87 : decode cX6_joined 87 = .ok (.ireturn, 1) := by decide +kernel
theorem dX6_joined_88 : decode cX6_joined 88 = .ok (.iload_n 1, 1) := by decide +kernel
theorem dX6_joined_89 : decode cX6_joined 89 = .ok (.iload_n 2, 1) := by decide +kernel
theorem dX6_joined_90 : decode cX6_joined 90 = .ok (.invokestatic 115, 3) := by decide +kernel
theorem dX6_joined_93 : decode cX6_joined 93 = .ok (.ireturn, 1) := by decide +kernel
theorem dX6_joined_94 : decode cX6_joined 94 = .ok (.iload_n 1, 1) := by decide +kernel
theorem dX6_joined_95 : decode cX6_joined 95 = .ok (.iload_n 2, 1) := by decide +kernel
theorem dX6_joined_96 : decode cX6_joined 96 = .ok (.invokestatic 120, 3) := by decide +kernel
theorem dX6_joined_99 : decode cX6_joined 99 = .ok (.ireturn, 1) := by decide +kernel
theorem dX6_holds_0 : decode cX6_holds 0 = .ok (.iload_n 0, 1) := by decide +kernel
theorem dX6_holds_1 : decode cX6_holds 1 = .ok (.tableswitch 75 42 45 #[31, 42, 53, 64], 31) := by decide +kernel
theorem dX6_holds_32 : decode cX6_holds 32 = .ok (.iload_n 1, 1) := by decide +kernel
theorem dX6_holds_33 : decode cX6_holds 33 = .ok (.iload_n 2, 1) := by decide +kernel
theorem dX6_holds_34 : decode cX6_holds 34 = .ok (.if_icmp .ge 7, 3) := by decide +kernel
theorem dX6_holds_37 : decode cX6_holds 37 = .ok (.iconst 1, 1) := by decide +kernel
theorem dX6_holds_38 : decode cX6_holds 38 = .ok (.goto 4, 3) := by decide +kernel
theorem dX6_holds_41 : decode cX6_holds 41 = .ok (.iconst 0, 1) := by decide +kernel
theorem dX6_holds_42 : decode cX6_holds 42 = .ok (.ireturn, 1) := by decide +kernel
theorem dX6_holds_43 : decode cX6_holds 43 = .ok (.iload_n 1, 1) := by decide +kernel
theorem dX6_holds_44 : decode cX6_holds 44 = .ok (.iload_n 2, 1) := by decide +kernel
theorem dX6_holds_45 : decode cX6_holds 45 = .ok (.if_icmp .le 7, 3) := by decide +kernel
theorem dX6_holds_48 : decode cX6_holds 48 = .ok (.iconst 1, 1) := by decide +kernel
theorem dX6_holds_49 : decode cX6_holds 49 = .ok (.goto 4, 3) := by decide +kernel
theorem dX6_holds_52 : decode cX6_holds 52 = .ok (.iconst 0, 1) := by decide +kernel
theorem dX6_holds_53 : decode cX6_holds 53 = .ok (.ireturn, 1) := by decide +kernel
theorem dX6_holds_54 : decode cX6_holds 54 = .ok (.iload_n 1, 1) := by decide +kernel
theorem dX6_holds_55 : decode cX6_holds 55 = .ok (.iload_n 2, 1) := by decide +kernel
theorem dX6_holds_56 : decode cX6_holds 56 = .ok (.if_icmp .ne 7, 3) := by decide +kernel
theorem dX6_holds_59 : decode cX6_holds 59 = .ok (.iconst 1, 1) := by decide +kernel
theorem dX6_holds_60 : decode cX6_holds 60 = .ok (.goto 4, 3) := by decide +kernel
theorem dX6_holds_63 : decode cX6_holds 63 = .ok (.iconst 0, 1) := by decide +kernel
theorem dX6_holds_64 : decode cX6_holds 64 = .ok (.ireturn, 1) := by decide +kernel
theorem dX6_holds_65 : decode cX6_holds 65 = .ok (.iload_n 1, 1) := by decide +kernel
theorem dX6_holds_66 : decode cX6_holds 66 = .ok (.iload_n 2, 1) := by decide +kernel
theorem dX6_holds_67 : decode cX6_holds 67 = .ok (.if_icmp .gt 7, 3) := by decide +kernel
theorem dX6_holds_70 : decode cX6_holds 70 = .ok (.iconst 1, 1) := by decide +kernel
theorem dX6_holds_71 : decode cX6_holds 71 = .ok (.goto 4, 3) := by decide +kernel
theorem dX6_holds_74 : decode cX6_holds 74 = .ok (.iconst 0, 1) := by decide +kernel
theorem dX6_holds_75 : decode cX6_holds 75 = .ok (.ireturn, 1) := by decide +kernel
theorem dX6_holds_76 : decode cX6_holds 76 = .ok (.iload_n 1, 1) := by decide +kernel
theorem dX6_holds_77 : decode cX6_holds 77 = .ok (.iload_n 2, 1) := by decide +kernel
theorem dX6_holds_78 : decode cX6_holds 78 = .ok (.if_icmp .lt 7, 3) := by decide +kernel
theorem dX6_holds_81 : decode cX6_holds 81 = .ok (.iconst 1, 1) := by decide +kernel
theorem dX6_holds_82 : decode cX6_holds 82 = .ok (.goto 4, 3) := by decide +kernel
theorem dX6_holds_85 : decode cX6_holds 85 = .ok (.iconst 0, 1) := by decide +kernel
theorem dX6_holds_86 : decode cX6_holds 86 = .ok (.ireturn, 1) := by decide +kernel
theorem dX7_init_0 : decode cX7_init 0 = .ok (.aload_n 0, 1) := by decide +kernel
theorem dX7_init_1 : decode cX7_init 1 = .ok (.invokespecial 1, 3) := by decide +kernel
theorem dX7_init_4 : decode cX7_init 4 = .ok (.aload_n 0, 1) := by decide +kernel
theorem dX7_init_5 : decode cX7_init 5 = .ok (.iload_n 1, 1) := by decide +kernel
theorem dX7_init_6 : decode cX7_init 6 = .ok (.ifCond .ge 7, 3) := by decide +kernel
theorem dX7_init_9 : decode cX7_init 9 = .ok (.iconst 0, 1) := by decide +kernel
theorem dX7_init_10 : decode cX7_init 10 = .ok (.goto 4, 3) := by decide +kernel
theorem dX7_init_13 : decode cX7_init 13 = .ok (.iload_n 1, 1) := by decide +kernel
theorem dX7_init_14 : decode cX7_init 14 = .ok (.newarray .int, 2) := by decide +kernel
theorem dX7_init_16 : decode cX7_init 16 = .ok (.putfield 7, 3) := by decide +kernel
theorem dX7_init_19 : decode cX7_init 19 = .ok (.return_, 1) := by decide +kernel
theorem dX7_get_0 : decode cX7_get 0 = .ok (.iload_n 1, 1) := by decide +kernel
theorem dX7_get_1 : decode cX7_get 1 = .ok (.ifCond .lt 21, 3) := by decide +kernel
theorem dX7_get_4 : decode cX7_get 4 = .ok (.iload_n 1, 1) := by decide +kernel
theorem dX7_get_5 : decode cX7_get 5 = .ok (.aload_n 0, 1) := by decide +kernel
theorem dX7_get_6 : decode cX7_get 6 = .ok (.getfield 7, 3) := by decide +kernel
theorem dX7_get_9 : decode cX7_get 9 = .ok (.arraylength, 1) := by decide +kernel
theorem dX7_get_10 : decode cX7_get 10 = .ok (.if_icmp .ge 12, 3) := by decide +kernel
theorem dX7_get_13 : decode cX7_get 13 = .ok (.aload_n 0, 1) := by decide +kernel
theorem dX7_get_14 : decode cX7_get 14 = .ok (.getfield 7, 3) := by decide +kernel
theorem dX7_get_17 : decode cX7_get 17 = .ok (.iload_n 1, 1) := by decide +kernel
theorem dX7_get_18 : decode cX7_get 18 = .ok (.iaload, 1) := by decide +kernel
theorem dX7_get_19 : decode cX7_get 19 = .ok (.goto 4, 3) := by decide +kernel
theorem dX7_get_22 : decode cX7_get 22 = .ok (.iconst 0, 1) := by decide +kernel
theorem dX7_get_23 : decode cX7_get 23 = .ok (.ireturn, 1) := by decide +kernel
theorem dX7_set_0 : decode cX7_set 0 = .ok (.iload_n 1, 1) := by decide +kernel
theorem dX7_set_1 : decode cX7_set 1 = .ok (.ifCond .lt 19, 3) := by decide +kernel
theorem dX7_set_4 : decode cX7_set 4 = .ok (.iload_n 1, 1) := by decide +kernel
theorem dX7_set_5 : decode cX7_set 5 = .ok (.aload_n 0, 1) := by decide +kernel
theorem dX7_set_6 : decode cX7_set 6 = .ok (.getfield 7, 3) := by decide +kernel
theorem dX7_set_9 : decode cX7_set 9 = .ok (.arraylength, 1) := by decide +kernel
theorem dX7_set_10 : decode cX7_set 10 = .ok (.if_icmp .ge 10, 3) := by decide +kernel
theorem dX7_set_13 : decode cX7_set 13 = .ok (.aload_n 0, 1) := by decide +kernel
theorem dX7_set_14 : decode cX7_set 14 = .ok (.getfield 7, 3) := by decide +kernel
theorem dX7_set_17 : decode cX7_set 17 = .ok (.iload_n 1, 1) := by decide +kernel
theorem dX7_set_18 : decode cX7_set 18 = .ok (.iload_n 2, 1) := by decide +kernel
theorem dX7_set_19 : decode cX7_set 19 = .ok (.iastore, 1) := by decide +kernel
theorem dX7_set_20 : decode cX7_set 20 = .ok (.return_, 1) := by decide +kernel
theorem dX7_add_0 : decode cX7_add 0 = .ok (.iload_n 1, 1) := by decide +kernel
theorem dX7_add_1 : decode cX7_add 1 = .ok (.ifCond .lt 22, 3) := by decide +kernel
theorem dX7_add_4 : decode cX7_add 4 = .ok (.iload_n 1, 1) := by decide +kernel
theorem dX7_add_5 : decode cX7_add 5 = .ok (.aload_n 0, 1) := by decide +kernel
theorem dX7_add_6 : decode cX7_add 6 = .ok (.getfield 7, 3) := by decide +kernel
theorem dX7_add_9 : decode cX7_add 9 = .ok (.arraylength, 1) := by decide +kernel
theorem dX7_add_10 : decode cX7_add 10 = .ok (.if_icmp .ge 13, 3) := by decide +kernel
theorem dX7_add_13 : decode cX7_add 13 = .ok (.aload_n 0, 1) := by decide +kernel
theorem dX7_add_14 : decode cX7_add 14 = .ok (.getfield 7, 3) := by decide +kernel
theorem dX7_add_17 : decode cX7_add 17 = .ok (.iload_n 1, 1) := by decide +kernel
theorem dX7_add_18 : decode cX7_add 18 = .ok (.dup2, 1) := by decide +kernel
theorem dX7_add_19 : decode cX7_add 19 = .ok (.iaload, 1) := by decide +kernel
theorem dX7_add_20 : decode cX7_add 20 = .ok (.iload_n 2, 1) := by decide +kernel
theorem dX7_add_21 : decode cX7_add 21 = .ok (.iadd, 1) := by decide +kernel
theorem dX7_add_22 : decode cX7_add 22 = .ok (.iastore, 1) := by decide +kernel
theorem dX7_add_23 : decode cX7_add 23 = .ok (.return_, 1) := by decide +kernel
theorem dX7_fill_0 : decode cX7_fill 0 = .ok (.iconst 0, 1) := by decide +kernel
theorem dX7_fill_1 : decode cX7_fill 1 = .ok (.istore_n 2, 1) := by decide +kernel
theorem dX7_fill_2 : decode cX7_fill 2 = .ok (.iload_n 2, 1) := by decide +kernel
theorem dX7_fill_3 : decode cX7_fill 3 = .ok (.aload_n 0, 1) := by decide +kernel
theorem dX7_fill_4 : decode cX7_fill 4 = .ok (.getfield 7, 3) := by decide +kernel
theorem dX7_fill_7 : decode cX7_fill 7 = .ok (.arraylength, 1) := by decide +kernel
theorem dX7_fill_8 : decode cX7_fill 8 = .ok (.if_icmp .ge 16, 3) := by decide +kernel
theorem dX7_fill_11 : decode cX7_fill 11 = .ok (.aload_n 0, 1) := by decide +kernel
theorem dX7_fill_12 : decode cX7_fill 12 = .ok (.getfield 7, 3) := by decide +kernel
theorem dX7_fill_15 : decode cX7_fill 15 = .ok (.iload_n 2, 1) := by decide +kernel
theorem dX7_fill_16 : decode cX7_fill 16 = .ok (.iload_n 1, 1) := by decide +kernel
theorem dX7_fill_17 : decode cX7_fill 17 = .ok (.iastore, 1) := by decide +kernel
theorem dX7_fill_18 : decode cX7_fill 18 = .ok (.iinc 2 1, 3) := by decide +kernel
theorem dX7_fill_21 : decode cX7_fill 21 = .ok (.goto (-19), 3) := by decide +kernel
theorem dX7_fill_24 : decode cX7_fill 24 = .ok (.return_, 1) := by decide +kernel
theorem dX7_copyFrom_0 : decode cX7_copyFrom 0 = .ok (.iconst 0, 1) := by decide +kernel
theorem dX7_copyFrom_1 : decode cX7_copyFrom 1 = .ok (.istore_n 2, 1) := by decide +kernel
theorem dX7_copyFrom_2 : decode cX7_copyFrom 2 = .ok (.iload_n 2, 1) := by decide +kernel
theorem dX7_copyFrom_3 : decode cX7_copyFrom 3 = .ok (.aload_n 0, 1) := by decide +kernel
theorem dX7_copyFrom_4 : decode cX7_copyFrom 4 = .ok (.getfield 7, 3) := by decide +kernel
theorem dX7_copyFrom_7 : decode cX7_copyFrom 7 = .ok (.arraylength, 1) := by decide +kernel
theorem dX7_copyFrom_8 : decode cX7_copyFrom 8 = .ok (.if_icmp .ge 20, 3) := by decide +kernel
theorem dX7_copyFrom_11 : decode cX7_copyFrom 11 = .ok (.aload_n 0, 1) := by decide +kernel
theorem dX7_copyFrom_12 : decode cX7_copyFrom 12 = .ok (.getfield 7, 3) := by decide +kernel
theorem dX7_copyFrom_15 : decode cX7_copyFrom 15 = .ok (.iload_n 2, 1) := by decide +kernel
theorem dX7_copyFrom_16 : decode cX7_copyFrom 16 = .ok (.aload_n 1, 1) := by decide +kernel
theorem dX7_copyFrom_17 : decode cX7_copyFrom 17 = .ok (.iload_n 2, 1) := by decide +kernel
theorem dX7_copyFrom_18 : decode cX7_copyFrom 18 = .ok (.invokevirtual 13, 3) := by decide +kernel
theorem dX7_copyFrom_21 : decode cX7_copyFrom 21 = .ok (.iastore, 1) := by decide +kernel
theorem dX7_copyFrom_22 : decode cX7_copyFrom 22 = .ok (.iinc 2 1, 3) := by decide +kernel
theorem dX7_copyFrom_25 : decode cX7_copyFrom 25 = .ok (.goto (-23), 3) := by decide +kernel
theorem dX7_copyFrom_28 : decode cX7_copyFrom 28 = .ok (.return_, 1) := by decide +kernel
theorem dX7_sum_0 : decode cX7_sum 0 = .ok (.iconst 0, 1) := by decide +kernel
theorem dX7_sum_1 : decode cX7_sum 1 = .ok (.istore_n 1, 1) := by decide +kernel
theorem dX7_sum_2 : decode cX7_sum 2 = .ok (.iconst 0, 1) := by decide +kernel
theorem dX7_sum_3 : decode cX7_sum 3 = .ok (.istore_n 2, 1) := by decide +kernel
theorem dX7_sum_4 : decode cX7_sum 4 = .ok (.iload_n 2, 1) := by decide +kernel
theorem dX7_sum_5 : decode cX7_sum 5 = .ok (.aload_n 0, 1) := by decide +kernel
theorem dX7_sum_6 : decode cX7_sum 6 = .ok (.getfield 7, 3) := by decide +kernel
theorem dX7_sum_9 : decode cX7_sum 9 = .ok (.arraylength, 1) := by decide +kernel
theorem dX7_sum_10 : decode cX7_sum 10 = .ok (.if_icmp .ge 18, 3) := by decide +kernel
theorem dX7_sum_13 : decode cX7_sum 13 = .ok (.iload_n 1, 1) := by decide +kernel
theorem dX7_sum_14 : decode cX7_sum 14 = .ok (.aload_n 0, 1) := by decide +kernel
theorem dX7_sum_15 : decode cX7_sum 15 = .ok (.getfield 7, 3) := by decide +kernel
theorem dX7_sum_18 : decode cX7_sum 18 = .ok (.iload_n 2, 1) := by decide +kernel
theorem dX7_sum_19 : decode cX7_sum 19 = .ok (.iaload, 1) := by decide +kernel
theorem dX7_sum_20 : decode cX7_sum 20 = .ok (.iadd, 1) := by decide +kernel
theorem dX7_sum_21 : decode cX7_sum 21 = .ok (.istore_n 1, 1) := by decide +kernel
theorem dX7_sum_22 : decode cX7_sum 22 = .ok (.iinc 2 1, 3) := by decide +kernel
theorem dX7_sum_25 : decode cX7_sum 25 = .ok (.goto (-21), 3) := by decide +kernel
theorem dX7_sum_28 : decode cX7_sum 28 = .ok (.iload_n 1, 1) := by decide +kernel
theorem dX7_sum_29 : decode cX7_sum 29 = .ok (.ireturn, 1) := by decide +kernel
theorem dX8_init_0 : decode cX8_init 0 = .ok (.aload_n 0, 1) := by decide +kernel
theorem dX8_init_1 : decode cX8_init 1 = .ok (.invokespecial 1, 3) := by decide +kernel
theorem dX8_init_4 : decode cX8_init 4 = .ok (.aload_n 0, 1) := by decide +kernel
theorem dX8_init_5 : decode cX8_init 5 = .ok (.aload_n 1, 1) := by decide +kernel
theorem dX8_init_6 : decode cX8_init 6 = .ok (.putfield 7, 3) := by decide +kernel
theorem dX8_init_9 : decode cX8_init 9 = .ok (.aload_n 0, 1) := by decide +kernel
theorem dX8_init_10 : decode cX8_init 10 = .ok (.iconst 0, 1) := by decide +kernel
theorem dX8_init_11 : decode cX8_init 11 = .ok (.putfield 13, 3) := by decide +kernel
theorem dX8_init_14 : decode cX8_init 14 = .ok (.aload_n 0, 1) := by decide +kernel
theorem dX8_init_15 : decode cX8_init 15 = .ok (.iconst 3, 1) := by decide +kernel
theorem dX8_init_16 : decode cX8_init 16 = .ok (.putfield 17, 3) := by decide +kernel
theorem dX8_init_19 : decode cX8_init 19 = .ok (.aload_n 0, 1) := by decide +kernel
theorem dX8_init_20 : decode cX8_init 20 = .ok (.new 20, 3) := by decide +kernel
theorem dX8_init_23 : decode cX8_init 23 = .ok (.dup, 1) := by decide +kernel
theorem dX8_init_24 : decode cX8_init 24 = .ok (.bipush 10, 2) := by decide +kernel
theorem dX8_init_26 : decode cX8_init 26 = .ok (.invokespecial 24, 3) := by decide +kernel
theorem dX8_init_29 : decode cX8_init 29 = .ok (.putfield 27, 3) := by decide +kernel
theorem dX8_init_32 : decode cX8_init 32 = .ok (.aload_n 0, 1) := by decide +kernel
theorem dX8_init_33 : decode cX8_init 33 = .ok (.new 20, 3) := by decide +kernel
theorem dX8_init_36 : decode cX8_init 36 = .ok (.dup, 1) := by decide +kernel
theorem dX8_init_37 : decode cX8_init 37 = .ok (.bipush 10, 2) := by decide +kernel
theorem dX8_init_39 : decode cX8_init 39 = .ok (.invokespecial 24, 3) := by decide +kernel
theorem dX8_init_42 : decode cX8_init 42 = .ok (.putfield 31, 3) := by decide +kernel
theorem dX8_init_45 : decode cX8_init 45 = .ok (.aload_n 0, 1) := by decide +kernel
theorem dX8_init_46 : decode cX8_init 46 = .ok (.new 20, 3) := by decide +kernel
theorem dX8_init_49 : decode cX8_init 49 = .ok (.dup, 1) := by decide +kernel
theorem dX8_init_50 : decode cX8_init 50 = .ok (.bipush 10, 2) := by decide +kernel
theorem dX8_init_52 : decode cX8_init 52 = .ok (.invokespecial 24, 3) := by decide +kernel
theorem dX8_init_55 : decode cX8_init 55 = .ok (.putfield 34, 3) := by decide +kernel
theorem dX8_init_58 : decode cX8_init 58 = .ok (.aload_n 0, 1) := by decide +kernel
theorem dX8_init_59 : decode cX8_init 59 = .ok (.new 20, 3) := by decide +kernel
theorem dX8_init_62 : decode cX8_init 62 = .ok (.dup, 1) := by decide +kernel
theorem dX8_init_63 : decode cX8_init 63 = .ok (.bipush 10, 2) := by decide +kernel
theorem dX8_init_65 : decode cX8_init 65 = .ok (.invokespecial 24, 3) := by decide +kernel
theorem dX8_init_68 : decode cX8_init 68 = .ok (.putfield 37, 3) := by decide +kernel
theorem dX8_init_71 : decode cX8_init 71 = .ok (.aload_n 0, 1) := by decide +kernel
theorem dX8_init_72 : decode cX8_init 72 = .ok (.new 20, 3) := by decide +kernel
theorem dX8_init_75 : decode cX8_init 75 = .ok (.dup, 1) := by decide +kernel
theorem dX8_init_76 : decode cX8_init 76 = .ok (.bipush 10, 2) := by decide +kernel
theorem dX8_init_78 : decode cX8_init 78 = .ok (.invokespecial 24, 3) := by decide +kernel
theorem dX8_init_81 : decode cX8_init 81 = .ok (.putfield 40, 3) := by decide +kernel
theorem dX8_init_84 : decode cX8_init 84 = .ok (.aload_n 0, 1) := by decide +kernel
theorem dX8_init_85 : decode cX8_init 85 = .ok (.new 20, 3) := by decide +kernel
theorem dX8_init_88 : decode cX8_init 88 = .ok (.dup, 1) := by decide +kernel
theorem dX8_init_89 : decode cX8_init 89 = .ok (.bipush 6, 2) := by decide +kernel
theorem dX8_init_91 : decode cX8_init 91 = .ok (.invokespecial 24, 3) := by decide +kernel
theorem dX8_init_94 : decode cX8_init 94 = .ok (.putfield 43, 3) := by decide +kernel
theorem dX8_init_97 : decode cX8_init 97 = .ok (.aload_n 0, 1) := by decide +kernel
theorem dX8_init_98 : decode cX8_init 98 = .ok (.new 46, 3) := by decide +kernel
theorem dX8_init_101 : decode cX8_init 101 = .ok (.dup, 1) := by decide +kernel
theorem dX8_init_102 : decode cX8_init 102 = .ok (.invokespecial 48, 3) := by decide +kernel
theorem dX8_init_105 : decode cX8_init 105 = .ok (.putfield 49, 3) := by decide +kernel
theorem dX8_init_108 : decode cX8_init 108 = .ok (.aload_n 0, 1) := by decide +kernel
theorem dX8_init_109 : decode cX8_init 109 = .ok (.new 20, 3) := by decide +kernel
theorem dX8_init_112 : decode cX8_init 112 = .ok (.dup, 1) := by decide +kernel
theorem dX8_init_113 : decode cX8_init 113 = .ok (.iconst 4, 1) := by decide +kernel
theorem dX8_init_114 : decode cX8_init 114 = .ok (.invokespecial 24, 3) := by decide +kernel
theorem dX8_init_117 : decode cX8_init 117 = .ok (.putfield 53, 3) := by decide +kernel
theorem dX8_init_120 : decode cX8_init 120 = .ok (.aload_n 0, 1) := by decide +kernel
theorem dX8_init_121 : decode cX8_init 121 = .ok (.new 20, 3) := by decide +kernel
theorem dX8_init_124 : decode cX8_init 124 = .ok (.dup, 1) := by decide +kernel
theorem dX8_init_125 : decode cX8_init 125 = .ok (.bipush 24, 2) := by decide +kernel
theorem dX8_init_127 : decode cX8_init 127 = .ok (.invokespecial 24, 3) := by decide +kernel
theorem dX8_init_130 : decode cX8_init 130 = .ok (.putfield 56, 3) := by decide +kernel
theorem dX8_init_133 : decode cX8_init 133 = .ok (.return_, 1) := by decide +kernel
theorem dX8_begin_0 : decode cX8_begin 0 = .ok (.aload_n 0, 1) := by decide +kernel
theorem dX8_begin_1 : decode cX8_begin 1 = .ok (.iconst 0, 1) := by decide +kernel
theorem dX8_begin_2 : decode cX8_begin 2 = .ok (.putfield 59, 3) := by decide +kernel
theorem dX8_begin_5 : decode cX8_begin 5 = .ok (.aload_n 0, 1) := by decide +kernel
theorem dX8_begin_6 : decode cX8_begin 6 = .ok (.iconst 0, 1) := by decide +kernel
theorem dX8_begin_7 : decode cX8_begin 7 = .ok (.putfield 62, 3) := by decide +kernel
theorem dX8_begin_10 : decode cX8_begin 10 = .ok (.aload_n 0, 1) := by decide +kernel
theorem dX8_begin_11 : decode cX8_begin 11 = .ok (.iconst 0, 1) := by decide +kernel
theorem dX8_begin_12 : decode cX8_begin 12 = .ok (.putfield 65, 3) := by decide +kernel
theorem dX8_begin_15 : decode cX8_begin 15 = .ok (.aload_n 0, 1) := by decide +kernel
theorem dX8_begin_16 : decode cX8_begin 16 = .ok (.getfield 27, 3) := by decide +kernel
theorem dX8_begin_19 : decode cX8_begin 19 = .ok (.iconst 0, 1) := by decide +kernel
theorem dX8_begin_20 : decode cX8_begin 20 = .ok (.invokevirtual 68, 3) := by decide +kernel
theorem dX8_begin_23 : decode cX8_begin 23 = .ok (.aload_n 0, 1) := by decide +kernel
theorem dX8_begin_24 : decode cX8_begin 24 = .ok (.getfield 43, 3) := by decide +kernel
theorem dX8_begin_27 : decode cX8_begin 27 = .ok (.iconst 0, 1) := by decide +kernel
theorem dX8_begin_28 : decode cX8_begin 28 = .ok (.invokevirtual 68, 3) := by decide +kernel
theorem dX8_begin_31 : decode cX8_begin 31 = .ok (.iconst 0, 1) := by decide +kernel
theorem dX8_begin_32 : decode cX8_begin 32 = .ok (.istore_n 1, 1) := by decide +kernel
theorem dX8_begin_33 : decode cX8_begin 33 = .ok (.iload_n 1, 1) := by decide +kernel
theorem dX8_begin_34 : decode cX8_begin 34 = .ok (.aload_n 0, 1) := by decide +kernel
theorem dX8_begin_35 : decode cX8_begin 35 = .ok (.getfield 7, 3) := by decide +kernel
theorem dX8_begin_38 : decode cX8_begin 38 = .ok (.getfield 71, 3) := by decide +kernel
theorem dX8_begin_41 : decode cX8_begin 41 = .ok (.if_icmp .ge 55, 3) := by decide +kernel
theorem dX8_begin_44 : decode cX8_begin 44 = .ok (.aload_n 0, 1) := by decide +kernel
theorem dX8_begin_45 : decode cX8_begin 45 = .ok (.getfield 27, 3) := by decide +kernel
theorem dX8_begin_48 : decode cX8_begin 48 = .ok (.iload_n 1, 1) := by decide +kernel
theorem dX8_begin_49 : decode cX8_begin 49 = .ok (.aload_n 0, 1) := by decide +kernel
theorem dX8_begin_50 : decode cX8_begin 50 = .ok (.getfield 7, 3) := by decide +kernel
theorem dX8_begin_53 : decode cX8_begin 53 = .ok (.getfield 74, 3) := by decide +kernel
theorem dX8_begin_56 : decode cX8_begin 56 = .ok (.iload_n 1, 1) := by decide +kernel
theorem dX8_begin_57 : decode cX8_begin 57 = .ok (.invokevirtual 77, 3) := by decide +kernel
theorem dX8_begin_60 : decode cX8_begin 60 = .ok (.bipush 100, 2) := by decide +kernel
theorem dX8_begin_62 : decode cX8_begin 62 = .ok (.imul, 1) := by decide +kernel
theorem dX8_begin_63 : decode cX8_begin 63 = .ok (.invokevirtual 81, 3) := by decide +kernel
theorem dX8_begin_66 : decode cX8_begin 66 = .ok (.aload_n 0, 1) := by decide +kernel
theorem dX8_begin_67 : decode cX8_begin 67 = .ok (.getfield 31, 3) := by decide +kernel
theorem dX8_begin_70 : decode cX8_begin 70 = .ok (.iload_n 1, 1) := by decide +kernel
theorem dX8_begin_71 : decode cX8_begin 71 = .ok (.aload_n 0, 1) := by decide +kernel
theorem dX8_begin_72 : decode cX8_begin 72 = .ok (.getfield 7, 3) := by decide +kernel
